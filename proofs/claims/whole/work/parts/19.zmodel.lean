/-! the model's methods: small ones, what ways show, what is said, totals, tells -/
def zOut (x : Int32) (n : Nat) : Prop := x < 0 ∨ nI n ≤ x
theorem z0I : (0 : Int32).toInt = 0 := by decide
theorem mo_ne {i : Nat} (h : i < 6) (h4 : ¬ i = 4) : mo i = 9 := by
  have : i = 0 ∨ i = 1 ∨ i = 2 ∨ i = 3 ∨ i = 5 := by omega
  rcases this with rfl | rfl | rfl | rfl | rfl <;> rfl
theorem cn_ne {X : Nat → Int32} {c w : Nat} (h : ¬ w = 6) : cn X c w = X (c * 6 + w) := if_neg h
theorem cn_6 {X : Nat → Int32} {c : Nat} : cn X c 6 = X (c * 6) + X (c * 6 + 1) + X (c * 6 + 2) := if_pos rfl
theorem zad0 {x : Int32} : x + nI 0 = x := by rw [nI_0]; exact Int32.add_zero x
def zMd (σ : zSt) (n a y : Nat) : Prop := Lay σ ∧ zX σ 45 0 = nI n ∧ n ≤ 8 ∧ zX σ 45 1 = nI a ∧ a ≤ 4 ∧ zX σ 45 2 = nI y ∧ y ≤ 8
def zMo (σ : zSt) (a : Nat) (od : Nat → Nat) : Prop := ∀ i, i < a → zX σ 51 i = nI (od i) ∧ od i < a
def zMy (σ : zSt) (w kd pa : Nat) : Prop := zX σ 52 w = nI kd ∧ zX σ 53 w = nI pa ∧ kd ≤ 6 ∧ pa ≤ 99 ∧ w < 8
def zPo (a : Nat) (od pos : Nat → Nat) : Prop := ∀ b, b < a → pos b < a ∧ od (pos b) = b ∧ ∀ j, j < pos b → od j ≠ b
/-- what the model says is said, by places -/
def msd (d s : Nat → Int32) : Nat → Int32
  | 0 => nI 0
  | p + 1 => if p = 0 then s p else ((nI 10 - d p) * s p + d p * msd d s p) / nI 10
theorem msd_s {d s : Nat → Int32} {p : Nat} : msd d s (p + 1) = if p = 0 then s p else ((nI 10 - d p) * s p + d p * msd d s p) / nI 10 := rfl
def msv (F S K Dr : Nat → Int32) (sl : Bool) (kd pa : Nat) (od pos : Nat → Nat) (b c : Nat) : Int32 := if sl = true then shW F S K kd pa b c else msd (dd Dr od) (ss F S K kd pa od c) (pos b + 1)
def mtf (F S K Dr : Nat → Int32) (sl : Bool) (kd pa : Nat) (od pos : Nat → Nat) (a : Nat) : Nat → Int32 := fun c => sm (fun b => msv F S K Dr sl kd pa od pos b c) a
/-- a sum without the g-th -/
def smg (g : Nat) (f : Nat → Int32) : Nat → Int32
  | 0 => nI 0
  | i + 1 => if i = g then smg g f i else smg g f i + f i
def mtg (F S K Dr : Nat → Int32) (kd pa : Nat) (od pos : Nat → Nat) (a g : Nat) : Nat → Int32 := fun c => smg g (fun b => msv F S K Dr true kd pa od pos b c) a
theorem nI_m1 {a : Nat} (ha : a < 2 ^ 31) : ¬ nI a = (-1) := zm1 ha
/-- how a pair tells in the model -/
def mt (am : Nat → Bool) (F X : Nat → Int32) (i j : Nat) : Int32 := if am j = true ∧ am i = true ∧ ¬ X j = X i ∧ ¬ cn F j 6 = cn F i 6 then (if (cn F i 6 < cn F j 6 ↔ X i < X j) then nI 1 else (-1)) else nI 0
theorem mt_0 {am : Nat → Bool} {F X : Nat → Int32} {i j : Nat} (h : ¬ (am j = true ∧ am i = true ∧ ¬ X j = X i ∧ ¬ cn F j 6 = cn F i 6)) {z : Int32} : z + mt am F X i j = z := by unfold mt; rw [if_neg h]; exact zad0
theorem mt_1 {am : Nat → Bool} {F X : Nat → Int32} {i j : Nat} (h : am j = true ∧ am i = true ∧ ¬ X j = X i ∧ ¬ cn F j 6 = cn F i 6) (h2 : cn F i 6 < cn F j 6 ↔ X i < X j) : mt am F X i j = nI 1 := by unfold mt; rw [if_pos h, if_pos h2]
theorem mt_2 {am : Nat → Bool} {F X : Nat → Int32} {i j : Nat} (h : am j = true ∧ am i = true ∧ ¬ X j = X i ∧ ¬ cn F j 6 = cn F i 6) (h2 : ¬ (cn F i 6 < cn F j 6 ↔ X i < X j)) : mt am F X i j = (-1) := by unfold mt; rw [if_pos h, if_neg h2]
/-- a bit of a mask -/
theorem zbit {mk c : Nat} (hm : mk < 2 ^ 31) (hc : c < 8) : (nI mk >>> (nI c &&& 31)) &&& nI 1 = nI (mk / 2 ^ c % 2) := by
  have h : (nI c &&& 31).toBitVec.smod 32 = BitVec.ofNat 32 c := by
    have : c = 0 ∨ c = 1 ∨ c = 2 ∨ c = 3 ∨ c = 4 ∨ c = 5 ∨ c = 6 ∨ c = 7 := by omega
    rcases this with rfl | rfl | rfl | rfl | rfl | rfl | rfl | rfl <;> decide
  rw [pk_shrN hm (nI c &&& 31) c (by rw [h, BitVec.toNat_ofNat]; omega), pk_andN (Nat.lt_of_le_of_lt (Nat.div_le_self _ _) (by omega)) 1 (by decide)]
def am_ (mk : Nat) : Nat → Bool := fun c => decide (mk / 2 ^ c % 2 = 1)
theorem am_f {mk c : Nat} (h : mk / 2 ^ c % 2 = 0) : ¬ am_ mk c = true := by unfold am_; rw [decide_eq_true_iff]; omega
theorem am_t {mk c : Nat} (h : ¬ mk / 2 ^ c % 2 = 0) : am_ mk c = true := by unfold am_; rw [decide_eq_true_iff]; omega

theorem t_X12_no_1 {σ : zSt} (hl : Lay σ) : Dt mX12_no [.ref 45, .int (-1)] σ (some (.int (-1))) (zuX σ 46 (upd (zX σ 46) 1 (zX σ 46 1 + nI 1))) := by
  refine Dt.of (by decide) (Nat.le_of_ble_eq_true rfl) fun κ B Rt => ?_
  show Z κ 0 0 σ 0 [(0, .ref 45), (1, .int (-1))] []
  refine Z.aload_n B dX12_no_0 (v := .ref 45) rfl rfl ?_
  refine Z.getR (σ := σ) B fX12_16_12 dX12_no_1 (hl.n (k := 45) (by decide)) (hl.k (k := 45) (by decide)) (by decide) (j := 46) (hl.r (k := 45) (f := 5) (by decide) (by decide)) ?_
  refine Z.iload_n B dX12_no_4 (x := (-1)) rfl ?_
  refine Z.ineg B dX12_no_5 ?_
  refine Z.eqS (st' := [.int (nI 1), .ref 46]) (by rw [show (-(-1) : Int32) = nI 1 from by decide]) ?_
  refine Z.dup2 B dX12_no_6 rfl rfl ?_
  refine Z.iald (σ := σ) B dX12_no_7 (n := 8) (hl.n (k := 46) (by decide)) (hl.k (k := 46) (by decide)) (hl.l (k := 46) (by decide)) (by decide) (j := 1) rfl (by omega) (v := (zX σ 46 1)) rfl ?_
  refine Z.iconst B dX12_no_8 (v := nI 1) rfl ?_
  refine Z.iadd B dX12_no_9 ?_
  refine Z.iast (σ := σ) B dX12_no_10 (n := 8) (hl.n (k := 46) (by decide)) (hl.k (k := 46) (by decide)) (hl.l (k := 46) (by decide)) (by decide) (j := 1) rfl (by omega) (τ := (zuX σ 46 (upd (zX σ 46) 1 ((zX σ 46 1) + (nI 1))))) rfl ?_
  refine Z.iload_n B dX12_no_11 (x := (-1)) rfl ?_
  refine Z.iret B Rt dX12_no_12 (ty := .int) rfl rfl (by decide) (by decide) ?_
  exact ⟨rfl, rfl⟩

theorem t_X12_no_2 {σ : zSt} (hl : Lay σ) : Dt mX12_no [.ref 45, .int (-2)] σ (some (.int (-2))) (zuX σ 46 (upd (zX σ 46) 2 (zX σ 46 2 + nI 1))) := by
  refine Dt.of (by decide) (Nat.le_of_ble_eq_true rfl) fun κ B Rt => ?_
  show Z κ 0 0 σ 0 [(0, .ref 45), (1, .int (-2))] []
  refine Z.aload_n B dX12_no_0 (v := .ref 45) rfl rfl ?_
  refine Z.getR (σ := σ) B fX12_16_12 dX12_no_1 (hl.n (k := 45) (by decide)) (hl.k (k := 45) (by decide)) (by decide) (j := 46) (hl.r (k := 45) (f := 5) (by decide) (by decide)) ?_
  refine Z.iload_n B dX12_no_4 (x := (-2)) rfl ?_
  refine Z.ineg B dX12_no_5 ?_
  refine Z.eqS (st' := [.int (nI 2), .ref 46]) (by rw [show (-(-2) : Int32) = nI 2 from by decide]) ?_
  refine Z.dup2 B dX12_no_6 rfl rfl ?_
  refine Z.iald (σ := σ) B dX12_no_7 (n := 8) (hl.n (k := 46) (by decide)) (hl.k (k := 46) (by decide)) (hl.l (k := 46) (by decide)) (by decide) (j := 2) rfl (by omega) (v := (zX σ 46 2)) rfl ?_
  refine Z.iconst B dX12_no_8 (v := nI 1) rfl ?_
  refine Z.iadd B dX12_no_9 ?_
  refine Z.iast (σ := σ) B dX12_no_10 (n := 8) (hl.n (k := 46) (by decide)) (hl.k (k := 46) (by decide)) (hl.l (k := 46) (by decide)) (by decide) (j := 2) rfl (by omega) (τ := (zuX σ 46 (upd (zX σ 46) 2 ((zX σ 46 2) + (nI 1))))) rfl ?_
  refine Z.iload_n B dX12_no_11 (x := (-2)) rfl ?_
  refine Z.iret B Rt dX12_no_12 (ty := .int) rfl rfl (by decide) (by decide) ?_
  exact ⟨rfl, rfl⟩

theorem t_X12_no_3 {σ : zSt} (hl : Lay σ) : Dt mX12_no [.ref 45, .int (-3)] σ (some (.int (-3))) (zuX σ 46 (upd (zX σ 46) 3 (zX σ 46 3 + nI 1))) := by
  refine Dt.of (by decide) (Nat.le_of_ble_eq_true rfl) fun κ B Rt => ?_
  show Z κ 0 0 σ 0 [(0, .ref 45), (1, .int (-3))] []
  refine Z.aload_n B dX12_no_0 (v := .ref 45) rfl rfl ?_
  refine Z.getR (σ := σ) B fX12_16_12 dX12_no_1 (hl.n (k := 45) (by decide)) (hl.k (k := 45) (by decide)) (by decide) (j := 46) (hl.r (k := 45) (f := 5) (by decide) (by decide)) ?_
  refine Z.iload_n B dX12_no_4 (x := (-3)) rfl ?_
  refine Z.ineg B dX12_no_5 ?_
  refine Z.eqS (st' := [.int (nI 3), .ref 46]) (by rw [show (-(-3) : Int32) = nI 3 from by decide]) ?_
  refine Z.dup2 B dX12_no_6 rfl rfl ?_
  refine Z.iald (σ := σ) B dX12_no_7 (n := 8) (hl.n (k := 46) (by decide)) (hl.k (k := 46) (by decide)) (hl.l (k := 46) (by decide)) (by decide) (j := 3) rfl (by omega) (v := (zX σ 46 3)) rfl ?_
  refine Z.iconst B dX12_no_8 (v := nI 1) rfl ?_
  refine Z.iadd B dX12_no_9 ?_
  refine Z.iast (σ := σ) B dX12_no_10 (n := 8) (hl.n (k := 46) (by decide)) (hl.k (k := 46) (by decide)) (hl.l (k := 46) (by decide)) (by decide) (j := 3) rfl (by omega) (τ := (zuX σ 46 (upd (zX σ 46) 3 ((zX σ 46 3) + (nI 1))))) rfl ?_
  refine Z.iload_n B dX12_no_11 (x := (-3)) rfl ?_
  refine Z.iret B Rt dX12_no_12 (ty := .int) rfl rfl (by decide) (by decide) ?_
  exact ⟨rfl, rfl⟩

theorem t_X12_no_4 {σ : zSt} (hl : Lay σ) : Dt mX12_no [.ref 45, .int (-4)] σ (some (.int (-4))) (zuX σ 46 (upd (zX σ 46) 4 (zX σ 46 4 + nI 1))) := by
  refine Dt.of (by decide) (Nat.le_of_ble_eq_true rfl) fun κ B Rt => ?_
  show Z κ 0 0 σ 0 [(0, .ref 45), (1, .int (-4))] []
  refine Z.aload_n B dX12_no_0 (v := .ref 45) rfl rfl ?_
  refine Z.getR (σ := σ) B fX12_16_12 dX12_no_1 (hl.n (k := 45) (by decide)) (hl.k (k := 45) (by decide)) (by decide) (j := 46) (hl.r (k := 45) (f := 5) (by decide) (by decide)) ?_
  refine Z.iload_n B dX12_no_4 (x := (-4)) rfl ?_
  refine Z.ineg B dX12_no_5 ?_
  refine Z.eqS (st' := [.int (nI 4), .ref 46]) (by rw [show (-(-4) : Int32) = nI 4 from by decide]) ?_
  refine Z.dup2 B dX12_no_6 rfl rfl ?_
  refine Z.iald (σ := σ) B dX12_no_7 (n := 8) (hl.n (k := 46) (by decide)) (hl.k (k := 46) (by decide)) (hl.l (k := 46) (by decide)) (by decide) (j := 4) rfl (by omega) (v := (zX σ 46 4)) rfl ?_
  refine Z.iconst B dX12_no_8 (v := nI 1) rfl ?_
  refine Z.iadd B dX12_no_9 ?_
  refine Z.iast (σ := σ) B dX12_no_10 (n := 8) (hl.n (k := 46) (by decide)) (hl.k (k := 46) (by decide)) (hl.l (k := 46) (by decide)) (by decide) (j := 4) rfl (by omega) (τ := (zuX σ 46 (upd (zX σ 46) 4 ((zX σ 46 4) + (nI 1))))) rfl ?_
  refine Z.iload_n B dX12_no_11 (x := (-4)) rfl ?_
  refine Z.iret B Rt dX12_no_12 (ty := .int) rfl rfl (by decide) (by decide) ?_
  exact ⟨rfl, rfl⟩

theorem t_X12_no_5 {σ : zSt} (hl : Lay σ) : Dt mX12_no [.ref 45, .int (-5)] σ (some (.int (-5))) (zuX σ 46 (upd (zX σ 46) 5 (zX σ 46 5 + nI 1))) := by
  refine Dt.of (by decide) (Nat.le_of_ble_eq_true rfl) fun κ B Rt => ?_
  show Z κ 0 0 σ 0 [(0, .ref 45), (1, .int (-5))] []
  refine Z.aload_n B dX12_no_0 (v := .ref 45) rfl rfl ?_
  refine Z.getR (σ := σ) B fX12_16_12 dX12_no_1 (hl.n (k := 45) (by decide)) (hl.k (k := 45) (by decide)) (by decide) (j := 46) (hl.r (k := 45) (f := 5) (by decide) (by decide)) ?_
  refine Z.iload_n B dX12_no_4 (x := (-5)) rfl ?_
  refine Z.ineg B dX12_no_5 ?_
  refine Z.eqS (st' := [.int (nI 5), .ref 46]) (by rw [show (-(-5) : Int32) = nI 5 from by decide]) ?_
  refine Z.dup2 B dX12_no_6 rfl rfl ?_
  refine Z.iald (σ := σ) B dX12_no_7 (n := 8) (hl.n (k := 46) (by decide)) (hl.k (k := 46) (by decide)) (hl.l (k := 46) (by decide)) (by decide) (j := 5) rfl (by omega) (v := (zX σ 46 5)) rfl ?_
  refine Z.iconst B dX12_no_8 (v := nI 1) rfl ?_
  refine Z.iadd B dX12_no_9 ?_
  refine Z.iast (σ := σ) B dX12_no_10 (n := 8) (hl.n (k := 46) (by decide)) (hl.k (k := 46) (by decide)) (hl.l (k := 46) (by decide)) (by decide) (j := 5) rfl (by omega) (τ := (zuX σ 46 (upd (zX σ 46) 5 ((zX σ 46 5) + (nI 1))))) rfl ?_
  refine Z.iload_n B dX12_no_11 (x := (-5)) rfl ?_
  refine Z.iret B Rt dX12_no_12 (ty := .int) rfl rfl (by decide) (by decide) ?_
  exact ⟨rfl, rfl⟩

theorem t_X12_no_6 {σ : zSt} (hl : Lay σ) : Dt mX12_no [.ref 45, .int (-6)] σ (some (.int (-6))) (zuX σ 46 (upd (zX σ 46) 6 (zX σ 46 6 + nI 1))) := by
  refine Dt.of (by decide) (Nat.le_of_ble_eq_true rfl) fun κ B Rt => ?_
  show Z κ 0 0 σ 0 [(0, .ref 45), (1, .int (-6))] []
  refine Z.aload_n B dX12_no_0 (v := .ref 45) rfl rfl ?_
  refine Z.getR (σ := σ) B fX12_16_12 dX12_no_1 (hl.n (k := 45) (by decide)) (hl.k (k := 45) (by decide)) (by decide) (j := 46) (hl.r (k := 45) (f := 5) (by decide) (by decide)) ?_
  refine Z.iload_n B dX12_no_4 (x := (-6)) rfl ?_
  refine Z.ineg B dX12_no_5 ?_
  refine Z.eqS (st' := [.int (nI 6), .ref 46]) (by rw [show (-(-6) : Int32) = nI 6 from by decide]) ?_
  refine Z.dup2 B dX12_no_6 rfl rfl ?_
  refine Z.iald (σ := σ) B dX12_no_7 (n := 8) (hl.n (k := 46) (by decide)) (hl.k (k := 46) (by decide)) (hl.l (k := 46) (by decide)) (by decide) (j := 6) rfl (by omega) (v := (zX σ 46 6)) rfl ?_
  refine Z.iconst B dX12_no_8 (v := nI 1) rfl ?_
  refine Z.iadd B dX12_no_9 ?_
  refine Z.iast (σ := σ) B dX12_no_10 (n := 8) (hl.n (k := 46) (by decide)) (hl.k (k := 46) (by decide)) (hl.l (k := 46) (by decide)) (by decide) (j := 6) rfl (by omega) (τ := (zuX σ 46 (upd (zX σ 46) 6 ((zX σ 46 6) + (nI 1))))) rfl ?_
  refine Z.iload_n B dX12_no_11 (x := (-6)) rfl ?_
  refine Z.iret B Rt dX12_no_12 (ty := .int) rfl rfl (by decide) (by decide) ?_
  exact ⟨rfl, rfl⟩

theorem t_X12_no_7 {σ : zSt} (hl : Lay σ) : Dt mX12_no [.ref 45, .int (-7)] σ (some (.int (-7))) (zuX σ 46 (upd (zX σ 46) 7 (zX σ 46 7 + nI 1))) := by
  refine Dt.of (by decide) (Nat.le_of_ble_eq_true rfl) fun κ B Rt => ?_
  show Z κ 0 0 σ 0 [(0, .ref 45), (1, .int (-7))] []
  refine Z.aload_n B dX12_no_0 (v := .ref 45) rfl rfl ?_
  refine Z.getR (σ := σ) B fX12_16_12 dX12_no_1 (hl.n (k := 45) (by decide)) (hl.k (k := 45) (by decide)) (by decide) (j := 46) (hl.r (k := 45) (f := 5) (by decide) (by decide)) ?_
  refine Z.iload_n B dX12_no_4 (x := (-7)) rfl ?_
  refine Z.ineg B dX12_no_5 ?_
  refine Z.eqS (st' := [.int (nI 7), .ref 46]) (by rw [show (-(-7) : Int32) = nI 7 from by decide]) ?_
  refine Z.dup2 B dX12_no_6 rfl rfl ?_
  refine Z.iald (σ := σ) B dX12_no_7 (n := 8) (hl.n (k := 46) (by decide)) (hl.k (k := 46) (by decide)) (hl.l (k := 46) (by decide)) (by decide) (j := 7) rfl (by omega) (v := (zX σ 46 7)) rfl ?_
  refine Z.iconst B dX12_no_8 (v := nI 1) rfl ?_
  refine Z.iadd B dX12_no_9 ?_
  refine Z.iast (σ := σ) B dX12_no_10 (n := 8) (hl.n (k := 46) (by decide)) (hl.k (k := 46) (by decide)) (hl.l (k := 46) (by decide)) (by decide) (j := 7) rfl (by omega) (τ := (zuX σ 46 (upd (zX σ 46) 7 ((zX σ 46 7) + (nI 1))))) rfl ?_
  refine Z.iload_n B dX12_no_11 (x := (-7)) rfl ?_
  refine Z.iret B Rt dX12_no_12 (ty := .int) rfl rfl (by decide) (by decide) ?_
  exact ⟨rfl, rfl⟩

theorem t_X12_noTen_1 {σ : zSt} (hl : Lay σ) : Dt mX12_noTen [.ref 45, .int (-1)] σ (some (.int ((-1) - nI 10))) (zuX σ 46 (upd (zX σ 46) 1 (zX σ 46 1 + nI 1))) := by
  refine Dt.of (by decide) (Nat.le_of_ble_eq_true rfl) fun κ B Rt => ?_
  show Z κ 0 0 σ 0 [(0, .ref 45), (1, .int (-1))] []
  refine Z.aload_n B dX12_noTen_0 (v := .ref 45) rfl rfl ?_
  refine Z.getR (σ := σ) B fX12_16_12 dX12_noTen_1 (hl.n (k := 45) (by decide)) (hl.k (k := 45) (by decide)) (by decide) (j := 46) (hl.r (k := 45) (f := 5) (by decide) (by decide)) ?_
  refine Z.iload_n B dX12_noTen_4 (x := (-1)) rfl ?_
  refine Z.ineg B dX12_noTen_5 ?_
  refine Z.eqS (st' := [.int (nI 1), .ref 46]) (by rw [show (-(-1) : Int32) = nI 1 from by decide]) ?_
  refine Z.dup2 B dX12_noTen_6 rfl rfl ?_
  refine Z.iald (σ := σ) B dX12_noTen_7 (n := 8) (hl.n (k := 46) (by decide)) (hl.k (k := 46) (by decide)) (hl.l (k := 46) (by decide)) (by decide) (j := 1) rfl (by omega) (v := (zX σ 46 1)) rfl ?_
  refine Z.iconst B dX12_noTen_8 (v := nI 1) rfl ?_
  refine Z.iadd B dX12_noTen_9 ?_
  refine Z.iast (σ := σ) B dX12_noTen_10 (n := 8) (hl.n (k := 46) (by decide)) (hl.k (k := 46) (by decide)) (hl.l (k := 46) (by decide)) (by decide) (j := 1) rfl (by omega) (τ := (zuX σ 46 (upd (zX σ 46) 1 ((zX σ 46 1) + (nI 1))))) rfl ?_
  refine Z.iload_n B dX12_noTen_11 (x := (-1)) rfl ?_
  refine Z.bipush B dX12_noTen_12 (v := nI 10) rfl ?_
  refine Z.isub B dX12_noTen_14 ?_
  refine Z.iret B Rt dX12_noTen_15 (ty := .int) rfl rfl (by decide) (by decide) ?_
  exact ⟨rfl, rfl⟩

theorem t_X12_noLow_1 {σ : zSt} (hl : Lay σ) : Dt mX12_noLow [.ref 45, .int (-1)] σ (some (.int ((-1) - nI 1000))) (zuX σ 46 (upd (zX σ 46) 1 (zX σ 46 1 + nI 1))) := by
  refine Dt.of (by decide) (Nat.le_of_ble_eq_true rfl) fun κ B Rt => ?_
  show Z κ 0 0 σ 0 [(0, .ref 45), (1, .int (-1))] []
  refine Z.aload_n B dX12_noLow_0 (v := .ref 45) rfl rfl ?_
  refine Z.getR (σ := σ) B fX12_16_12 dX12_noLow_1 (hl.n (k := 45) (by decide)) (hl.k (k := 45) (by decide)) (by decide) (j := 46) (hl.r (k := 45) (f := 5) (by decide) (by decide)) ?_
  refine Z.iload_n B dX12_noLow_4 (x := (-1)) rfl ?_
  refine Z.ineg B dX12_noLow_5 ?_
  refine Z.eqS (st' := [.int (nI 1), .ref 46]) (by rw [show (-(-1) : Int32) = nI 1 from by decide]) ?_
  refine Z.dup2 B dX12_noLow_6 rfl rfl ?_
  refine Z.iald (σ := σ) B dX12_noLow_7 (n := 8) (hl.n (k := 46) (by decide)) (hl.k (k := 46) (by decide)) (hl.l (k := 46) (by decide)) (by decide) (j := 1) rfl (by omega) (v := (zX σ 46 1)) rfl ?_
  refine Z.iconst B dX12_noLow_8 (v := nI 1) rfl ?_
  refine Z.iadd B dX12_noLow_9 ?_
  refine Z.iast (σ := σ) B dX12_noLow_10 (n := 8) (hl.n (k := 46) (by decide)) (hl.k (k := 46) (by decide)) (hl.l (k := 46) (by decide)) (by decide) (j := 1) rfl (by omega) (τ := (zuX σ 46 (upd (zX σ 46) 1 ((zX σ 46 1) + (nI 1))))) rfl ?_
  refine Z.iload_n B dX12_noLow_11 (x := (-1)) rfl ?_
  refine Z.sipush B dX12_noLow_12 (v := nI 1000) rfl ?_
  refine Z.isub B dX12_noLow_15 ?_
  refine Z.iret B Rt dX12_noLow_16 (ty := .int) rfl rfl (by decide) (by decide) ?_
  exact ⟨rfl, rfl⟩

theorem t_X12_noLow_2 {σ : zSt} (hl : Lay σ) : Dt mX12_noLow [.ref 45, .int (-2)] σ (some (.int ((-2) - nI 1000))) (zuX σ 46 (upd (zX σ 46) 2 (zX σ 46 2 + nI 1))) := by
  refine Dt.of (by decide) (Nat.le_of_ble_eq_true rfl) fun κ B Rt => ?_
  show Z κ 0 0 σ 0 [(0, .ref 45), (1, .int (-2))] []
  refine Z.aload_n B dX12_noLow_0 (v := .ref 45) rfl rfl ?_
  refine Z.getR (σ := σ) B fX12_16_12 dX12_noLow_1 (hl.n (k := 45) (by decide)) (hl.k (k := 45) (by decide)) (by decide) (j := 46) (hl.r (k := 45) (f := 5) (by decide) (by decide)) ?_
  refine Z.iload_n B dX12_noLow_4 (x := (-2)) rfl ?_
  refine Z.ineg B dX12_noLow_5 ?_
  refine Z.eqS (st' := [.int (nI 2), .ref 46]) (by rw [show (-(-2) : Int32) = nI 2 from by decide]) ?_
  refine Z.dup2 B dX12_noLow_6 rfl rfl ?_
  refine Z.iald (σ := σ) B dX12_noLow_7 (n := 8) (hl.n (k := 46) (by decide)) (hl.k (k := 46) (by decide)) (hl.l (k := 46) (by decide)) (by decide) (j := 2) rfl (by omega) (v := (zX σ 46 2)) rfl ?_
  refine Z.iconst B dX12_noLow_8 (v := nI 1) rfl ?_
  refine Z.iadd B dX12_noLow_9 ?_
  refine Z.iast (σ := σ) B dX12_noLow_10 (n := 8) (hl.n (k := 46) (by decide)) (hl.k (k := 46) (by decide)) (hl.l (k := 46) (by decide)) (by decide) (j := 2) rfl (by omega) (τ := (zuX σ 46 (upd (zX σ 46) 2 ((zX σ 46 2) + (nI 1))))) rfl ?_
  refine Z.iload_n B dX12_noLow_11 (x := (-2)) rfl ?_
  refine Z.sipush B dX12_noLow_12 (v := nI 1000) rfl ?_
  refine Z.isub B dX12_noLow_15 ?_
  refine Z.iret B Rt dX12_noLow_16 (ty := .int) rfl rfl (by decide) (by decide) ?_
  exact ⟨rfl, rfl⟩

theorem t_X12_noLow_3 {σ : zSt} (hl : Lay σ) : Dt mX12_noLow [.ref 45, .int (-3)] σ (some (.int ((-3) - nI 1000))) (zuX σ 46 (upd (zX σ 46) 3 (zX σ 46 3 + nI 1))) := by
  refine Dt.of (by decide) (Nat.le_of_ble_eq_true rfl) fun κ B Rt => ?_
  show Z κ 0 0 σ 0 [(0, .ref 45), (1, .int (-3))] []
  refine Z.aload_n B dX12_noLow_0 (v := .ref 45) rfl rfl ?_
  refine Z.getR (σ := σ) B fX12_16_12 dX12_noLow_1 (hl.n (k := 45) (by decide)) (hl.k (k := 45) (by decide)) (by decide) (j := 46) (hl.r (k := 45) (f := 5) (by decide) (by decide)) ?_
  refine Z.iload_n B dX12_noLow_4 (x := (-3)) rfl ?_
  refine Z.ineg B dX12_noLow_5 ?_
  refine Z.eqS (st' := [.int (nI 3), .ref 46]) (by rw [show (-(-3) : Int32) = nI 3 from by decide]) ?_
  refine Z.dup2 B dX12_noLow_6 rfl rfl ?_
  refine Z.iald (σ := σ) B dX12_noLow_7 (n := 8) (hl.n (k := 46) (by decide)) (hl.k (k := 46) (by decide)) (hl.l (k := 46) (by decide)) (by decide) (j := 3) rfl (by omega) (v := (zX σ 46 3)) rfl ?_
  refine Z.iconst B dX12_noLow_8 (v := nI 1) rfl ?_
  refine Z.iadd B dX12_noLow_9 ?_
  refine Z.iast (σ := σ) B dX12_noLow_10 (n := 8) (hl.n (k := 46) (by decide)) (hl.k (k := 46) (by decide)) (hl.l (k := 46) (by decide)) (by decide) (j := 3) rfl (by omega) (τ := (zuX σ 46 (upd (zX σ 46) 3 ((zX σ 46 3) + (nI 1))))) rfl ?_
  refine Z.iload_n B dX12_noLow_11 (x := (-3)) rfl ?_
  refine Z.sipush B dX12_noLow_12 (v := nI 1000) rfl ?_
  refine Z.isub B dX12_noLow_15 ?_
  refine Z.iret B Rt dX12_noLow_16 (ty := .int) rfl rfl (by decide) (by decide) ?_
  exact ⟨rfl, rfl⟩

theorem t_X12_noLow_4 {σ : zSt} (hl : Lay σ) : Dt mX12_noLow [.ref 45, .int (-4)] σ (some (.int ((-4) - nI 1000))) (zuX σ 46 (upd (zX σ 46) 4 (zX σ 46 4 + nI 1))) := by
  refine Dt.of (by decide) (Nat.le_of_ble_eq_true rfl) fun κ B Rt => ?_
  show Z κ 0 0 σ 0 [(0, .ref 45), (1, .int (-4))] []
  refine Z.aload_n B dX12_noLow_0 (v := .ref 45) rfl rfl ?_
  refine Z.getR (σ := σ) B fX12_16_12 dX12_noLow_1 (hl.n (k := 45) (by decide)) (hl.k (k := 45) (by decide)) (by decide) (j := 46) (hl.r (k := 45) (f := 5) (by decide) (by decide)) ?_
  refine Z.iload_n B dX12_noLow_4 (x := (-4)) rfl ?_
  refine Z.ineg B dX12_noLow_5 ?_
  refine Z.eqS (st' := [.int (nI 4), .ref 46]) (by rw [show (-(-4) : Int32) = nI 4 from by decide]) ?_
  refine Z.dup2 B dX12_noLow_6 rfl rfl ?_
  refine Z.iald (σ := σ) B dX12_noLow_7 (n := 8) (hl.n (k := 46) (by decide)) (hl.k (k := 46) (by decide)) (hl.l (k := 46) (by decide)) (by decide) (j := 4) rfl (by omega) (v := (zX σ 46 4)) rfl ?_
  refine Z.iconst B dX12_noLow_8 (v := nI 1) rfl ?_
  refine Z.iadd B dX12_noLow_9 ?_
  refine Z.iast (σ := σ) B dX12_noLow_10 (n := 8) (hl.n (k := 46) (by decide)) (hl.k (k := 46) (by decide)) (hl.l (k := 46) (by decide)) (by decide) (j := 4) rfl (by omega) (τ := (zuX σ 46 (upd (zX σ 46) 4 ((zX σ 46 4) + (nI 1))))) rfl ?_
  refine Z.iload_n B dX12_noLow_11 (x := (-4)) rfl ?_
  refine Z.sipush B dX12_noLow_12 (v := nI 1000) rfl ?_
  refine Z.isub B dX12_noLow_15 ?_
  refine Z.iret B Rt dX12_noLow_16 (ty := .int) rfl rfl (by decide) (by decide) ?_
  exact ⟨rfl, rfl⟩

theorem t_X12_noLow_5 {σ : zSt} (hl : Lay σ) : Dt mX12_noLow [.ref 45, .int (-5)] σ (some (.int ((-5) - nI 1000))) (zuX σ 46 (upd (zX σ 46) 5 (zX σ 46 5 + nI 1))) := by
  refine Dt.of (by decide) (Nat.le_of_ble_eq_true rfl) fun κ B Rt => ?_
  show Z κ 0 0 σ 0 [(0, .ref 45), (1, .int (-5))] []
  refine Z.aload_n B dX12_noLow_0 (v := .ref 45) rfl rfl ?_
  refine Z.getR (σ := σ) B fX12_16_12 dX12_noLow_1 (hl.n (k := 45) (by decide)) (hl.k (k := 45) (by decide)) (by decide) (j := 46) (hl.r (k := 45) (f := 5) (by decide) (by decide)) ?_
  refine Z.iload_n B dX12_noLow_4 (x := (-5)) rfl ?_
  refine Z.ineg B dX12_noLow_5 ?_
  refine Z.eqS (st' := [.int (nI 5), .ref 46]) (by rw [show (-(-5) : Int32) = nI 5 from by decide]) ?_
  refine Z.dup2 B dX12_noLow_6 rfl rfl ?_
  refine Z.iald (σ := σ) B dX12_noLow_7 (n := 8) (hl.n (k := 46) (by decide)) (hl.k (k := 46) (by decide)) (hl.l (k := 46) (by decide)) (by decide) (j := 5) rfl (by omega) (v := (zX σ 46 5)) rfl ?_
  refine Z.iconst B dX12_noLow_8 (v := nI 1) rfl ?_
  refine Z.iadd B dX12_noLow_9 ?_
  refine Z.iast (σ := σ) B dX12_noLow_10 (n := 8) (hl.n (k := 46) (by decide)) (hl.k (k := 46) (by decide)) (hl.l (k := 46) (by decide)) (by decide) (j := 5) rfl (by omega) (τ := (zuX σ 46 (upd (zX σ 46) 5 ((zX σ 46 5) + (nI 1))))) rfl ?_
  refine Z.iload_n B dX12_noLow_11 (x := (-5)) rfl ?_
  refine Z.sipush B dX12_noLow_12 (v := nI 1000) rfl ?_
  refine Z.isub B dX12_noLow_15 ?_
  refine Z.iret B Rt dX12_noLow_16 (ty := .int) rfl rfl (by decide) (by decide) ?_
  exact ⟨rfl, rfl⟩

theorem t_X12_noLow_6 {σ : zSt} (hl : Lay σ) : Dt mX12_noLow [.ref 45, .int (-6)] σ (some (.int ((-6) - nI 1000))) (zuX σ 46 (upd (zX σ 46) 6 (zX σ 46 6 + nI 1))) := by
  refine Dt.of (by decide) (Nat.le_of_ble_eq_true rfl) fun κ B Rt => ?_
  show Z κ 0 0 σ 0 [(0, .ref 45), (1, .int (-6))] []
  refine Z.aload_n B dX12_noLow_0 (v := .ref 45) rfl rfl ?_
  refine Z.getR (σ := σ) B fX12_16_12 dX12_noLow_1 (hl.n (k := 45) (by decide)) (hl.k (k := 45) (by decide)) (by decide) (j := 46) (hl.r (k := 45) (f := 5) (by decide) (by decide)) ?_
  refine Z.iload_n B dX12_noLow_4 (x := (-6)) rfl ?_
  refine Z.ineg B dX12_noLow_5 ?_
  refine Z.eqS (st' := [.int (nI 6), .ref 46]) (by rw [show (-(-6) : Int32) = nI 6 from by decide]) ?_
  refine Z.dup2 B dX12_noLow_6 rfl rfl ?_
  refine Z.iald (σ := σ) B dX12_noLow_7 (n := 8) (hl.n (k := 46) (by decide)) (hl.k (k := 46) (by decide)) (hl.l (k := 46) (by decide)) (by decide) (j := 6) rfl (by omega) (v := (zX σ 46 6)) rfl ?_
  refine Z.iconst B dX12_noLow_8 (v := nI 1) rfl ?_
  refine Z.iadd B dX12_noLow_9 ?_
  refine Z.iast (σ := σ) B dX12_noLow_10 (n := 8) (hl.n (k := 46) (by decide)) (hl.k (k := 46) (by decide)) (hl.l (k := 46) (by decide)) (by decide) (j := 6) rfl (by omega) (τ := (zuX σ 46 (upd (zX σ 46) 6 ((zX σ 46 6) + (nI 1))))) rfl ?_
  refine Z.iload_n B dX12_noLow_11 (x := (-6)) rfl ?_
  refine Z.sipush B dX12_noLow_12 (v := nI 1000) rfl ?_
  refine Z.isub B dX12_noLow_15 ?_
  refine Z.iret B Rt dX12_noLow_16 (ty := .int) rfl rfl (by decide) (by decide) ?_
  exact ⟨rfl, rfl⟩

theorem t_X12_noLow_7 {σ : zSt} (hl : Lay σ) : Dt mX12_noLow [.ref 45, .int (-7)] σ (some (.int ((-7) - nI 1000))) (zuX σ 46 (upd (zX σ 46) 7 (zX σ 46 7 + nI 1))) := by
  refine Dt.of (by decide) (Nat.le_of_ble_eq_true rfl) fun κ B Rt => ?_
  show Z κ 0 0 σ 0 [(0, .ref 45), (1, .int (-7))] []
  refine Z.aload_n B dX12_noLow_0 (v := .ref 45) rfl rfl ?_
  refine Z.getR (σ := σ) B fX12_16_12 dX12_noLow_1 (hl.n (k := 45) (by decide)) (hl.k (k := 45) (by decide)) (by decide) (j := 46) (hl.r (k := 45) (f := 5) (by decide) (by decide)) ?_
  refine Z.iload_n B dX12_noLow_4 (x := (-7)) rfl ?_
  refine Z.ineg B dX12_noLow_5 ?_
  refine Z.eqS (st' := [.int (nI 7), .ref 46]) (by rw [show (-(-7) : Int32) = nI 7 from by decide]) ?_
  refine Z.dup2 B dX12_noLow_6 rfl rfl ?_
  refine Z.iald (σ := σ) B dX12_noLow_7 (n := 8) (hl.n (k := 46) (by decide)) (hl.k (k := 46) (by decide)) (hl.l (k := 46) (by decide)) (by decide) (j := 7) rfl (by omega) (v := (zX σ 46 7)) rfl ?_
  refine Z.iconst B dX12_noLow_8 (v := nI 1) rfl ?_
  refine Z.iadd B dX12_noLow_9 ?_
  refine Z.iast (σ := σ) B dX12_noLow_10 (n := 8) (hl.n (k := 46) (by decide)) (hl.k (k := 46) (by decide)) (hl.l (k := 46) (by decide)) (by decide) (j := 7) rfl (by omega) (τ := (zuX σ 46 (upd (zX σ 46) 7 ((zX σ 46 7) + (nI 1))))) rfl ?_
  refine Z.iload_n B dX12_noLow_11 (x := (-7)) rfl ?_
  refine Z.sipush B dX12_noLow_12 (v := nI 1000) rfl ?_
  refine Z.isub B dX12_noLow_15 ?_
  refine Z.iret B Rt dX12_noLow_16 (ty := .int) rfl rfl (by decide) (by decide) ?_
  exact ⟨rfl, rfl⟩

theorem t_X12_isShelf_in {σ : zSt} {s : Nat} (hs : s < 8) : Dt mX12_isShelf [.ref 45, .int (nI s)] σ (some (.int (nI 1))) σ := by
  refine Dt.of (by decide) (Nat.le_of_ble_eq_true rfl) fun κ B Rt => ?_
  show Z κ 0 0 σ 0 [(0, .ref 45), (1, .int (nI s))] []
  refine Z.iload_n B dX12_isShelf_0 (x := nI s) rfl ?_
  refine Z.if_ltN B dX12_isShelf_1 (tgt := 14) rfl (by omega) ?_
  refine Z.iload_n B dX12_isShelf_4 (x := nI s) rfl ?_
  refine Z.bipush B dX12_isShelf_5 (v := nI 8) rfl ?_
  refine Z.icmp_geN B dX12_isShelf_7 (tgt := 14) rfl (by omega) (by omega) (fun h7 => by exfalso; first | omega | contradiction | simp_all) (fun h7 => ?_)
  refine Z.iconst B dX12_isShelf_10 (v := nI 1) rfl ?_
  refine Z.goto B dX12_isShelf_11 (tgt := 15) rfl ?_
  refine Z.iret B Rt dX12_isShelf_15 (ty := .boolean) rfl rfl (by decide) (by decide) ?_
  exact ⟨rfl, rfl⟩

theorem t_X12_isShelf_neg {σ : zSt} {s : Int32} (hs : s < 0) : Dt mX12_isShelf [.ref 45, .int s] σ (some (.int (nI 0))) σ := by
  refine Dt.of (by decide) (Nat.le_of_ble_eq_true rfl) fun κ B Rt => ?_
  show Z κ 0 0 σ 0 [(0, .ref 45), (1, .int s)] []
  refine Z.iload_n B dX12_isShelf_0 (x := s) rfl ?_
  refine Z.if_lt B dX12_isShelf_1 (tgt := 14) rfl (fun h1 => ?_) (fun h1 => by exfalso; first | omega | contradiction | simp_all)
  refine Z.iconst B dX12_isShelf_14 (v := nI 0) rfl ?_
  refine Z.iret B Rt dX12_isShelf_15 (ty := .boolean) rfl rfl (by decide) (by decide) ?_
  exact ⟨rfl, rfl⟩

theorem t_X12_isShelf_far {σ : zSt} {s : Int32} (hs0 : ¬ s < 0) (hs : nI 8 ≤ s) : Dt mX12_isShelf [.ref 45, .int s] σ (some (.int (nI 0))) σ := by
  refine Dt.of (by decide) (Nat.le_of_ble_eq_true rfl) fun κ B Rt => ?_
  show Z κ 0 0 σ 0 [(0, .ref 45), (1, .int s)] []
  refine Z.iload_n B dX12_isShelf_0 (x := s) rfl ?_
  refine Z.if_lt B dX12_isShelf_1 (tgt := 14) rfl (fun h1 => by exfalso; first | omega | contradiction | simp_all) (fun h1 => ?_)
  refine Z.iload_n B dX12_isShelf_4 (x := s) rfl ?_
  refine Z.bipush B dX12_isShelf_5 (v := nI 8) rfl ?_
  refine Z.icmp_ge B dX12_isShelf_7 (tgt := 14) rfl (fun h7 => ?_) (fun h7 => by exfalso; first | omega | contradiction | simp_all)
  refine Z.iconst B dX12_isShelf_14 (v := nI 0) rfl ?_
  refine Z.iret B Rt dX12_isShelf_15 (ty := .boolean) rfl rfl (by decide) (by decide) ?_
  exact ⟨rfl, rfl⟩

theorem t_X12_isComer_in {σ : zSt} {n a y : Nat} (H : zMd σ n a y) {c : Nat} (hc : c < n) : Dt mX12_isComer [.ref 45, .int (nI c)] σ (some (.int (nI 1))) σ := by
  obtain ⟨hl, hn, hn8, ha, ha4, hy, hy8⟩ := id H
  refine Dt.of (by decide) (Nat.le_of_ble_eq_true rfl) fun κ B Rt => ?_
  show Z κ 0 0 σ 0 [(0, .ref 45), (1, .int (nI c))] []
  refine Z.iload_n B dX12_isComer_0 (x := nI c) rfl ?_
  refine Z.if_ltN B dX12_isComer_1 (tgt := 16) rfl (by omega) ?_
  refine Z.iload_n B dX12_isComer_4 (x := nI c) rfl ?_
  refine Z.aload_n B dX12_isComer_5 (v := .ref 45) rfl rfl ?_
  refine Z.getI (σ := σ) B fX12_81_12 dX12_isComer_6 (hl.n (k := 45) (by decide)) (hl.k (k := 45) (by decide)) (by decide) (v := nI n) hn ?_
  refine Z.icmp_geN B dX12_isComer_9 (tgt := 16) rfl (by omega) (by omega) (fun h9 => by exfalso; first | omega | contradiction | simp_all) (fun h9 => ?_)
  refine Z.iconst B dX12_isComer_12 (v := nI 1) rfl ?_
  refine Z.goto B dX12_isComer_13 (tgt := 17) rfl ?_
  refine Z.iret B Rt dX12_isComer_17 (ty := .boolean) rfl rfl (by decide) (by decide) ?_
  exact ⟨rfl, rfl⟩

theorem t_X12_isComer_neg {σ : zSt} {n a y : Nat} (H : zMd σ n a y) {c : Int32} (hc : c < 0) : Dt mX12_isComer [.ref 45, .int c] σ (some (.int (nI 0))) σ := by
  obtain ⟨hl, hn, hn8, ha, ha4, hy, hy8⟩ := id H
  refine Dt.of (by decide) (Nat.le_of_ble_eq_true rfl) fun κ B Rt => ?_
  show Z κ 0 0 σ 0 [(0, .ref 45), (1, .int c)] []
  refine Z.iload_n B dX12_isComer_0 (x := c) rfl ?_
  refine Z.if_lt B dX12_isComer_1 (tgt := 16) rfl (fun h1 => ?_) (fun h1 => by exfalso; first | omega | contradiction | simp_all)
  refine Z.iconst B dX12_isComer_16 (v := nI 0) rfl ?_
  refine Z.iret B Rt dX12_isComer_17 (ty := .boolean) rfl rfl (by decide) (by decide) ?_
  exact ⟨rfl, rfl⟩

theorem t_X12_isComer_far {σ : zSt} {n a y : Nat} (H : zMd σ n a y) {c : Int32} (hc0 : ¬ c < 0) (hc : nI n ≤ c) : Dt mX12_isComer [.ref 45, .int c] σ (some (.int (nI 0))) σ := by
  obtain ⟨hl, hn, hn8, ha, ha4, hy, hy8⟩ := id H
  refine Dt.of (by decide) (Nat.le_of_ble_eq_true rfl) fun κ B Rt => ?_
  show Z κ 0 0 σ 0 [(0, .ref 45), (1, .int c)] []
  refine Z.iload_n B dX12_isComer_0 (x := c) rfl ?_
  refine Z.if_lt B dX12_isComer_1 (tgt := 16) rfl (fun h1 => by exfalso; first | omega | contradiction | simp_all) (fun h1 => ?_)
  refine Z.iload_n B dX12_isComer_4 (x := c) rfl ?_
  refine Z.aload_n B dX12_isComer_5 (v := .ref 45) rfl rfl ?_
  refine Z.getI (σ := σ) B fX12_81_12 dX12_isComer_6 (hl.n (k := 45) (by decide)) (hl.k (k := 45) (by decide)) (by decide) (v := nI n) hn ?_
  refine Z.icmp_ge B dX12_isComer_9 (tgt := 16) rfl (fun h9 => ?_) (fun h9 => by exfalso; first | omega | contradiction | simp_all)
  refine Z.iconst B dX12_isComer_16 (v := nI 0) rfl ?_
  refine Z.iret B Rt dX12_isComer_17 (ty := .boolean) rfl rfl (by decide) (by decide) ?_
  exact ⟨rfl, rfl⟩

theorem t_X12_isComer_out {σ : zSt} {n a y : Nat} (H : zMd σ n a y) {c : Int32} (hc : zOut c n) : Dt mX12_isComer [.ref 45, .int c] σ (some (.int (nI 0))) σ := by
  by_cases h0 : c < 0
  · exact t_X12_isComer_neg H h0
  · exact t_X12_isComer_far H h0 (hc.resolve_left h0)

theorem t_X12_isAsker_in {σ : zSt} {n a y : Nat} (H : zMd σ n a y) {c : Nat} (hc : c < a) : Dt mX12_isAsker [.ref 45, .int (nI c)] σ (some (.int (nI 1))) σ := by
  obtain ⟨hl, hn, hn8, ha, ha4, hy, hy8⟩ := id H
  refine Dt.of (by decide) (Nat.le_of_ble_eq_true rfl) fun κ B Rt => ?_
  show Z κ 0 0 σ 0 [(0, .ref 45), (1, .int (nI c))] []
  refine Z.iload_n B dX12_isAsker_0 (x := nI c) rfl ?_
  refine Z.if_ltN B dX12_isAsker_1 (tgt := 16) rfl (by omega) ?_
  refine Z.iload_n B dX12_isAsker_4 (x := nI c) rfl ?_
  refine Z.aload_n B dX12_isAsker_5 (v := .ref 45) rfl rfl ?_
  refine Z.getI (σ := σ) B fX12_84_12 dX12_isAsker_6 (hl.n (k := 45) (by decide)) (hl.k (k := 45) (by decide)) (by decide) (v := nI a) ha ?_
  refine Z.icmp_geN B dX12_isAsker_9 (tgt := 16) rfl (by omega) (by omega) (fun h9 => by exfalso; first | omega | contradiction | simp_all) (fun h9 => ?_)
  refine Z.iconst B dX12_isAsker_12 (v := nI 1) rfl ?_
  refine Z.goto B dX12_isAsker_13 (tgt := 17) rfl ?_
  refine Z.iret B Rt dX12_isAsker_17 (ty := .boolean) rfl rfl (by decide) (by decide) ?_
  exact ⟨rfl, rfl⟩

theorem t_X12_isAsker_neg {σ : zSt} {n a y : Nat} (H : zMd σ n a y) {c : Int32} (hc : c < 0) : Dt mX12_isAsker [.ref 45, .int c] σ (some (.int (nI 0))) σ := by
  obtain ⟨hl, hn, hn8, ha, ha4, hy, hy8⟩ := id H
  refine Dt.of (by decide) (Nat.le_of_ble_eq_true rfl) fun κ B Rt => ?_
  show Z κ 0 0 σ 0 [(0, .ref 45), (1, .int c)] []
  refine Z.iload_n B dX12_isAsker_0 (x := c) rfl ?_
  refine Z.if_lt B dX12_isAsker_1 (tgt := 16) rfl (fun h1 => ?_) (fun h1 => by exfalso; first | omega | contradiction | simp_all)
  refine Z.iconst B dX12_isAsker_16 (v := nI 0) rfl ?_
  refine Z.iret B Rt dX12_isAsker_17 (ty := .boolean) rfl rfl (by decide) (by decide) ?_
  exact ⟨rfl, rfl⟩

theorem t_X12_isAsker_far {σ : zSt} {n a y : Nat} (H : zMd σ n a y) {c : Int32} (hc0 : ¬ c < 0) (hc : nI a ≤ c) : Dt mX12_isAsker [.ref 45, .int c] σ (some (.int (nI 0))) σ := by
  obtain ⟨hl, hn, hn8, ha, ha4, hy, hy8⟩ := id H
  refine Dt.of (by decide) (Nat.le_of_ble_eq_true rfl) fun κ B Rt => ?_
  show Z κ 0 0 σ 0 [(0, .ref 45), (1, .int c)] []
  refine Z.iload_n B dX12_isAsker_0 (x := c) rfl ?_
  refine Z.if_lt B dX12_isAsker_1 (tgt := 16) rfl (fun h1 => by exfalso; first | omega | contradiction | simp_all) (fun h1 => ?_)
  refine Z.iload_n B dX12_isAsker_4 (x := c) rfl ?_
  refine Z.aload_n B dX12_isAsker_5 (v := .ref 45) rfl rfl ?_
  refine Z.getI (σ := σ) B fX12_84_12 dX12_isAsker_6 (hl.n (k := 45) (by decide)) (hl.k (k := 45) (by decide)) (by decide) (v := nI a) ha ?_
  refine Z.icmp_ge B dX12_isAsker_9 (tgt := 16) rfl (fun h9 => ?_) (fun h9 => by exfalso; first | omega | contradiction | simp_all)
  refine Z.iconst B dX12_isAsker_16 (v := nI 0) rfl ?_
  refine Z.iret B Rt dX12_isAsker_17 (ty := .boolean) rfl rfl (by decide) (by decide) ?_
  exact ⟨rfl, rfl⟩

theorem t_X12_isAsker_out {σ : zSt} {n a y : Nat} (H : zMd σ n a y) {c : Int32} (hc : zOut c a) : Dt mX12_isAsker [.ref 45, .int c] σ (some (.int (nI 0))) σ := by
  by_cases h0 : c < 0
  · exact t_X12_isAsker_neg H h0
  · exact t_X12_isAsker_far H h0 (hc.resolve_left h0)

theorem t_X12_isWay_in {σ : zSt} {n a y : Nat} (H : zMd σ n a y) {c : Nat} (hc : c < y) : Dt mX12_isWay [.ref 45, .int (nI c)] σ (some (.int (nI 1))) σ := by
  obtain ⟨hl, hn, hn8, ha, ha4, hy, hy8⟩ := id H
  refine Dt.of (by decide) (Nat.le_of_ble_eq_true rfl) fun κ B Rt => ?_
  show Z κ 0 0 σ 0 [(0, .ref 45), (1, .int (nI c))] []
  refine Z.iload_n B dX12_isWay_0 (x := nI c) rfl ?_
  refine Z.if_ltN B dX12_isWay_1 (tgt := 16) rfl (by omega) ?_
  refine Z.iload_n B dX12_isWay_4 (x := nI c) rfl ?_
  refine Z.aload_n B dX12_isWay_5 (v := .ref 45) rfl rfl ?_
  refine Z.getI (σ := σ) B fX12_87_12 dX12_isWay_6 (hl.n (k := 45) (by decide)) (hl.k (k := 45) (by decide)) (by decide) (v := nI y) hy ?_
  refine Z.icmp_geN B dX12_isWay_9 (tgt := 16) rfl (by omega) (by omega) (fun h9 => by exfalso; first | omega | contradiction | simp_all) (fun h9 => ?_)
  refine Z.iconst B dX12_isWay_12 (v := nI 1) rfl ?_
  refine Z.goto B dX12_isWay_13 (tgt := 17) rfl ?_
  refine Z.iret B Rt dX12_isWay_17 (ty := .boolean) rfl rfl (by decide) (by decide) ?_
  exact ⟨rfl, rfl⟩

theorem t_X12_isWay_neg {σ : zSt} {n a y : Nat} (H : zMd σ n a y) {c : Int32} (hc : c < 0) : Dt mX12_isWay [.ref 45, .int c] σ (some (.int (nI 0))) σ := by
  obtain ⟨hl, hn, hn8, ha, ha4, hy, hy8⟩ := id H
  refine Dt.of (by decide) (Nat.le_of_ble_eq_true rfl) fun κ B Rt => ?_
  show Z κ 0 0 σ 0 [(0, .ref 45), (1, .int c)] []
  refine Z.iload_n B dX12_isWay_0 (x := c) rfl ?_
  refine Z.if_lt B dX12_isWay_1 (tgt := 16) rfl (fun h1 => ?_) (fun h1 => by exfalso; first | omega | contradiction | simp_all)
  refine Z.iconst B dX12_isWay_16 (v := nI 0) rfl ?_
  refine Z.iret B Rt dX12_isWay_17 (ty := .boolean) rfl rfl (by decide) (by decide) ?_
  exact ⟨rfl, rfl⟩

theorem t_X12_isWay_far {σ : zSt} {n a y : Nat} (H : zMd σ n a y) {c : Int32} (hc0 : ¬ c < 0) (hc : nI y ≤ c) : Dt mX12_isWay [.ref 45, .int c] σ (some (.int (nI 0))) σ := by
  obtain ⟨hl, hn, hn8, ha, ha4, hy, hy8⟩ := id H
  refine Dt.of (by decide) (Nat.le_of_ble_eq_true rfl) fun κ B Rt => ?_
  show Z κ 0 0 σ 0 [(0, .ref 45), (1, .int c)] []
  refine Z.iload_n B dX12_isWay_0 (x := c) rfl ?_
  refine Z.if_lt B dX12_isWay_1 (tgt := 16) rfl (fun h1 => by exfalso; first | omega | contradiction | simp_all) (fun h1 => ?_)
  refine Z.iload_n B dX12_isWay_4 (x := c) rfl ?_
  refine Z.aload_n B dX12_isWay_5 (v := .ref 45) rfl rfl ?_
  refine Z.getI (σ := σ) B fX12_87_12 dX12_isWay_6 (hl.n (k := 45) (by decide)) (hl.k (k := 45) (by decide)) (by decide) (v := nI y) hy ?_
  refine Z.icmp_ge B dX12_isWay_9 (tgt := 16) rfl (fun h9 => ?_) (fun h9 => by exfalso; first | omega | contradiction | simp_all)
  refine Z.iconst B dX12_isWay_16 (v := nI 0) rfl ?_
  refine Z.iret B Rt dX12_isWay_17 (ty := .boolean) rfl rfl (by decide) (by decide) ?_
  exact ⟨rfl, rfl⟩

theorem t_X12_isWay_out {σ : zSt} {n a y : Nat} (H : zMd σ n a y) {c : Int32} (hc : zOut c y) : Dt mX12_isWay [.ref 45, .int c] σ (some (.int (nI 0))) σ := by
  by_cases h0 : c < 0
  · exact t_X12_isWay_neg H h0
  · exact t_X12_isWay_far H h0 (hc.resolve_left h0)

theorem t_X12_isShelf_out {σ : zSt} {c : Int32} (hc : zOut c 8) : Dt mX12_isShelf [.ref 45, .int c] σ (some (.int (nI 0))) σ := by
  by_cases h0 : c < 0
  · exact t_X12_isShelf_neg h0
  · exact t_X12_isShelf_far h0 (hc.resolve_left h0)

theorem t_X1_hasComer_out {σ : zSt} {n a y : Nat} (H : zHd σ n a y) {c : Int32} (hc : zOut c n) : Dt mX1_hasComer [.ref 20, .int c] σ (some (.int (nI 0))) σ := by
  by_cases h0 : c < 0
  · exact t_X1_hasComer_neg H h0
  · exact t_X1_hasComer_far H h0 (hc.resolve_left h0)

theorem t_X1_hasAsker_out {σ : zSt} {n a y : Nat} (H : zHd σ n a y) {c : Int32} (hc : zOut c a) : Dt mX1_hasAsker [.ref 20, .int c] σ (some (.int (nI 0))) σ := by
  by_cases h0 : c < 0
  · exact t_X1_hasAsker_neg H h0
  · exact t_X1_hasAsker_far H h0 (hc.resolve_left h0)

theorem t_X1_wayAt_out {σ : zSt} {n a y : Nat} (H : zHd σ n a y) {c : Int32} (hc : zOut c y) : Dt mX1_wayAt [.ref 20, .int c] σ (some .null) σ := by
  by_cases h0 : c < 0
  · exact t_X1_wayAt_neg H h0
  · exact t_X1_wayAt_far H h0 (hc.resolve_left h0)

theorem t_X11_shelfAt_out {σ : zSt} (hl : Lay σ) {s : Int32} (hs : zOut s 8) : Dt mX11_shelfAt [.ref 0, .int s] σ (some .null) σ := by
  by_cases h0 : s < 0
  · exact t_X11_shelfAt_neg hl h0
  · exact t_X11_shelfAt_far hl h0 (hs.resolve_left h0)

theorem t_X12_wants_out {σ : zSt} (hl : Lay σ) {s : Int32} (hs : zOut s 8) : Dt mX12_wants [.ref 45, .int s] σ (some (.int (-1))) σ := by
  refine Dt.of (by decide) (Nat.le_of_ble_eq_true rfl) fun κ B Rt => ?_
  show Z κ 0 0 σ 0 [(0, .ref 45), (1, .int s)] []
  refine Z.aload_n B dX12_wants_0 (v := .ref 45) rfl rfl ?_
  refine Z.iload_n B dX12_wants_1 (x := s) rfl ?_
  refine Z.callVI (σ := σ) B (M' := mX12_isShelf) (as := [.int s]) (st := []) (v := .int (nI 0)) dX12_wants_2 wX12_isShelf iX12_isShelf sX12_isShelf kX12_90 (hl.n (k := 45) (by decide)) (hl.k (k := 45) (by decide)) (by decide) rfl rfl (t_X12_isShelf_out (σ := σ) hs) rfl rfl (by decide) (by decide) (Nat.le_of_ble_eq_true rfl) (by decide) (by decide) ?_
  refine Z.if_neN B dX12_wants_5 (tgt := 12) rfl (by omega) (fun h5 => by exfalso; first | omega | contradiction | simp_all) (fun h5 => ?_)
  refine Z.iconst B dX12_wants_8 (v := (-1)) rfl ?_
  refine Z.goto B dX12_wants_9 (tgt := 42) rfl ?_
  refine Z.iret B Rt dX12_wants_42 (ty := .int) rfl rfl (by decide) (by decide) ?_
  exact ⟨rfl, rfl⟩

theorem t_X12_wants_2 {σ : zSt} (hl : Lay σ) {s : Nat} (hs : s < 8) (hh : zX σ 54 s = nI 2) : Dt mX12_wants [.ref 45, .int (nI s)] σ (some (.int (-2))) σ := by
  refine Dt.of (by decide) (Nat.le_of_ble_eq_true rfl) fun κ B Rt => ?_
  show Z κ 0 0 σ 0 [(0, .ref 45), (1, .int (nI s))] []
  refine Z.aload_n B dX12_wants_0 (v := .ref 45) rfl rfl ?_
  refine Z.iload_n B dX12_wants_1 (x := nI s) rfl ?_
  refine Z.callVI (σ := σ) B (M' := mX12_isShelf) (as := [.int (nI s)]) (st := []) (v := .int (nI 1)) dX12_wants_2 wX12_isShelf iX12_isShelf sX12_isShelf kX12_90 (hl.n (k := 45) (by decide)) (hl.k (k := 45) (by decide)) (by decide) rfl rfl (t_X12_isShelf_in (σ := σ) hs) rfl rfl (by decide) (by decide) (Nat.le_of_ble_eq_true rfl) (by decide) (by decide) ?_
  refine Z.if_neN B dX12_wants_5 (tgt := 12) rfl (by omega) (fun h5 => ?_) (fun h5 => by exfalso; first | omega | contradiction | simp_all)
  refine Z.aload_n B dX12_wants_12 (v := .ref 45) rfl rfl ?_
  refine Z.getR (σ := σ) B fX12_41_12 dX12_wants_13 (hl.n (k := 45) (by decide)) (hl.k (k := 45) (by decide)) (by decide) (j := 54) (hl.r (k := 45) (f := 13) (by decide) (by decide)) ?_
  refine Z.iload_n B dX12_wants_16 (x := nI s) rfl ?_
  refine Z.iald (σ := σ) B dX12_wants_17 (n := 8) (hl.n (k := 54) (by decide)) (hl.k (k := 54) (by decide)) (hl.l (k := 54) (by decide)) (by decide) (j := s) rfl (by omega) (v := nI 2) hh ?_
  refine Z.iconst B dX12_wants_18 (v := nI 2) rfl ?_
  refine Z.icmp_neN B dX12_wants_19 (tgt := 27) rfl (by omega) (by omega) (fun h19 => by exfalso; first | omega | contradiction | simp_all) (fun h19 => ?_)
  refine Z.bipush B dX12_wants_22 (v := (-2)) rfl ?_
  refine Z.goto B dX12_wants_24 (tgt := 42) rfl ?_
  refine Z.iret B Rt dX12_wants_42 (ty := .int) rfl rfl (by decide) (by decide) ?_
  exact ⟨rfl, rfl⟩

theorem t_X12_wants_0 {σ : zSt} (hl : Lay σ) {s : Nat} (hs : s < 8) (hh : zX σ 54 s = nI 0) : Dt mX12_wants [.ref 45, .int (nI s)] σ (some (.int (-3))) σ := by
  refine Dt.of (by decide) (Nat.le_of_ble_eq_true rfl) fun κ B Rt => ?_
  show Z κ 0 0 σ 0 [(0, .ref 45), (1, .int (nI s))] []
  refine Z.aload_n B dX12_wants_0 (v := .ref 45) rfl rfl ?_
  refine Z.iload_n B dX12_wants_1 (x := nI s) rfl ?_
  refine Z.callVI (σ := σ) B (M' := mX12_isShelf) (as := [.int (nI s)]) (st := []) (v := .int (nI 1)) dX12_wants_2 wX12_isShelf iX12_isShelf sX12_isShelf kX12_90 (hl.n (k := 45) (by decide)) (hl.k (k := 45) (by decide)) (by decide) rfl rfl (t_X12_isShelf_in (σ := σ) hs) rfl rfl (by decide) (by decide) (Nat.le_of_ble_eq_true rfl) (by decide) (by decide) ?_
  refine Z.if_neN B dX12_wants_5 (tgt := 12) rfl (by omega) (fun h5 => ?_) (fun h5 => by exfalso; first | omega | contradiction | simp_all)
  refine Z.aload_n B dX12_wants_12 (v := .ref 45) rfl rfl ?_
  refine Z.getR (σ := σ) B fX12_41_12 dX12_wants_13 (hl.n (k := 45) (by decide)) (hl.k (k := 45) (by decide)) (by decide) (j := 54) (hl.r (k := 45) (f := 13) (by decide) (by decide)) ?_
  refine Z.iload_n B dX12_wants_16 (x := nI s) rfl ?_
  refine Z.iald (σ := σ) B dX12_wants_17 (n := 8) (hl.n (k := 54) (by decide)) (hl.k (k := 54) (by decide)) (hl.l (k := 54) (by decide)) (by decide) (j := s) rfl (by omega) (v := nI 0) hh ?_
  refine Z.iconst B dX12_wants_18 (v := nI 2) rfl ?_
  refine Z.icmp_neN B dX12_wants_19 (tgt := 27) rfl (by omega) (by omega) (fun h19 => ?_) (fun h19 => by exfalso; first | omega | contradiction | simp_all)
  refine Z.aload_n B dX12_wants_27 (v := .ref 45) rfl rfl ?_
  refine Z.getR (σ := σ) B fX12_41_12 dX12_wants_28 (hl.n (k := 45) (by decide)) (hl.k (k := 45) (by decide)) (by decide) (j := 54) (hl.r (k := 45) (f := 13) (by decide) (by decide)) ?_
  refine Z.iload_n B dX12_wants_31 (x := nI s) rfl ?_
  refine Z.iald (σ := σ) B dX12_wants_32 (n := 8) (hl.n (k := 54) (by decide)) (hl.k (k := 54) (by decide)) (hl.l (k := 54) (by decide)) (by decide) (j := s) rfl (by omega) (v := nI 0) hh ?_
  refine Z.if_neN B dX12_wants_33 (tgt := 41) rfl (by omega) (fun h33 => by exfalso; first | omega | contradiction | simp_all) (fun h33 => ?_)
  refine Z.bipush B dX12_wants_36 (v := (-3)) rfl ?_
  refine Z.goto B dX12_wants_38 (tgt := 42) rfl ?_
  refine Z.iret B Rt dX12_wants_42 (ty := .int) rfl rfl (by decide) (by decide) ?_
  exact ⟨rfl, rfl⟩

theorem t_X12_wants_1 {σ : zSt} (hl : Lay σ) {s : Nat} (hs : s < 8) (hh : zX σ 54 s = nI 1) : Dt mX12_wants [.ref 45, .int (nI s)] σ (some (.int (nI 0))) σ := by
  refine Dt.of (by decide) (Nat.le_of_ble_eq_true rfl) fun κ B Rt => ?_
  show Z κ 0 0 σ 0 [(0, .ref 45), (1, .int (nI s))] []
  refine Z.aload_n B dX12_wants_0 (v := .ref 45) rfl rfl ?_
  refine Z.iload_n B dX12_wants_1 (x := nI s) rfl ?_
  refine Z.callVI (σ := σ) B (M' := mX12_isShelf) (as := [.int (nI s)]) (st := []) (v := .int (nI 1)) dX12_wants_2 wX12_isShelf iX12_isShelf sX12_isShelf kX12_90 (hl.n (k := 45) (by decide)) (hl.k (k := 45) (by decide)) (by decide) rfl rfl (t_X12_isShelf_in (σ := σ) hs) rfl rfl (by decide) (by decide) (Nat.le_of_ble_eq_true rfl) (by decide) (by decide) ?_
  refine Z.if_neN B dX12_wants_5 (tgt := 12) rfl (by omega) (fun h5 => ?_) (fun h5 => by exfalso; first | omega | contradiction | simp_all)
  refine Z.aload_n B dX12_wants_12 (v := .ref 45) rfl rfl ?_
  refine Z.getR (σ := σ) B fX12_41_12 dX12_wants_13 (hl.n (k := 45) (by decide)) (hl.k (k := 45) (by decide)) (by decide) (j := 54) (hl.r (k := 45) (f := 13) (by decide) (by decide)) ?_
  refine Z.iload_n B dX12_wants_16 (x := nI s) rfl ?_
  refine Z.iald (σ := σ) B dX12_wants_17 (n := 8) (hl.n (k := 54) (by decide)) (hl.k (k := 54) (by decide)) (hl.l (k := 54) (by decide)) (by decide) (j := s) rfl (by omega) (v := nI 1) hh ?_
  refine Z.iconst B dX12_wants_18 (v := nI 2) rfl ?_
  refine Z.icmp_neN B dX12_wants_19 (tgt := 27) rfl (by omega) (by omega) (fun h19 => ?_) (fun h19 => by exfalso; first | omega | contradiction | simp_all)
  refine Z.aload_n B dX12_wants_27 (v := .ref 45) rfl rfl ?_
  refine Z.getR (σ := σ) B fX12_41_12 dX12_wants_28 (hl.n (k := 45) (by decide)) (hl.k (k := 45) (by decide)) (by decide) (j := 54) (hl.r (k := 45) (f := 13) (by decide) (by decide)) ?_
  refine Z.iload_n B dX12_wants_31 (x := nI s) rfl ?_
  refine Z.iald (σ := σ) B dX12_wants_32 (n := 8) (hl.n (k := 54) (by decide)) (hl.k (k := 54) (by decide)) (hl.l (k := 54) (by decide)) (by decide) (j := s) rfl (by omega) (v := nI 1) hh ?_
  refine Z.if_neN B dX12_wants_33 (tgt := 41) rfl (by omega) (fun h33 => ?_) (fun h33 => by exfalso; first | omega | contradiction | simp_all)
  refine Z.iconst B dX12_wants_41 (v := nI 0) rfl ?_
  refine Z.iret B Rt dX12_wants_42 (ty := .int) rfl rfl (by decide) (by decide) ?_
  exact ⟨rfl, rfl⟩

theorem t_X12_intAt {σ : zSt} (hl : Lay σ) {s i : Nat} (hs : s < 8) (hi : i < 160) : Dt mX12_intAt [.ref 45, .int (nI s), .int (nI i)] σ (some (.int ((zY σ 58 (s * 160 + i)).toInt32))) σ := by
  refine Dt.of (by decide) (Nat.le_of_ble_eq_true rfl) fun κ B Rt => ?_
  show Z κ 0 0 σ 0 [(0, .ref 45), (1, .int (nI s)), (2, .int (nI i))] []
  refine Z.aload_n B dX12_intAt_0 (v := .ref 45) rfl rfl ?_
  refine Z.getR (σ := σ) B fX12_53_12 dX12_intAt_1 (hl.n (k := 45) (by decide)) (hl.k (k := 45) (by decide)) (by decide) (j := 58) (hl.r (k := 45) (f := 17) (by decide) (by decide)) ?_
  refine Z.sipush B dX12_intAt_4 (v := nI 160) rfl ?_
  refine Z.iload_n B dX12_intAt_7 (x := nI s) rfl ?_
  refine Z.imulNc B dX12_intAt_8 (a := 160) (b := s) ?_
  refine Z.iload_n B dX12_intAt_9 (x := nI i) rfl ?_
  refine Z.iaddN B dX12_intAt_10 (a := s * 160) (b := i) ?_
  refine Z.lald (σ := σ) B dX12_intAt_11 (n := 1280) (hl.n (k := 58) (by decide)) (hl.k (k := 58) (by decide)) (hl.l (k := 58) (by decide)) (by decide) (j := (s * 160) + i) rfl (by omega) (v := (zY σ 58 ((s * 160) + i))) rfl ?_
  refine Z.l2i B dX12_intAt_12 ?_
  refine Z.iret B Rt dX12_intAt_13 (ty := .int) rfl rfl (by decide) (by decide) ?_
  exact ⟨rfl, rfl⟩

theorem t_X12_top {σ : zSt} {i : Nat} (hi : i < 6) : Dt mX12_top [.ref 45, .int (nI i)] σ (some (.int (nI (mo i)))) σ := by
  refine Dt.of (by decide) (Nat.le_of_ble_eq_true rfl) fun κ B Rt => ?_
  show Z κ 0 0 σ 0 [(0, .ref 45), (1, .int (nI i))] []
  refine Z.iload_n B dX12_top_0 (x := nI i) rfl ?_
  refine Z.iconst B dX12_top_1 (v := nI 4) rfl ?_
  refine Z.icmp_neN B dX12_top_2 (tgt := 9) rfl (by omega) (by omega) (fun h2 => ?_) (fun h2 => ?_)
  · skip
    refine Z.bipush B dX12_top_9 (v := nI 9) rfl ?_
    refine Z.iret B Rt dX12_top_11 (ty := .int) rfl rfl (by decide) (by decide) ?_
    exact ⟨by first | (subst h2; rfl) | rw [mo_ne hi h2], rfl⟩
  · skip
    refine Z.iconst B dX12_top_5 (v := nI 3) rfl ?_
    refine Z.goto B dX12_top_6 (tgt := 11) rfl ?_
    refine Z.iret B Rt dX12_top_11 (ty := .int) rfl rfl (by decide) (by decide) ?_
    exact ⟨by first | (subst h2; rfl) | rw [mo_ne hi h2], rfl⟩

theorem t_X12_sumOf {σ : zSt} {n a y : Nat} (H : zMd σ n a y) {c : Nat} (hc : c < 8) : Dt mX12_sumOf [.ref 45, .int (nI c)] σ (some (.int (cn (zX σ 47) c 6))) σ := by
  obtain ⟨hl, hn, hn8, ha, ha4, hy, hy8⟩ := id H
  refine Dt.of (by decide) (Nat.le_of_ble_eq_true rfl) fun κ B Rt => ?_
  show Z κ 0 0 σ 0 [(0, .ref 45), (1, .int (nI c))] []
  refine Z.aload_n B dX12_sumOf_0 (v := .ref 45) rfl rfl ?_
  refine Z.getR (σ := σ) B fX12_20_12 dX12_sumOf_1 (hl.n (k := 45) (by decide)) (hl.k (k := 45) (by decide)) (by decide) (j := 47) (hl.r (k := 45) (f := 6) (by decide) (by decide)) ?_
  refine Z.bipush B dX12_sumOf_4 (v := nI 6) rfl ?_
  refine Z.iload_n B dX12_sumOf_6 (x := nI c) rfl ?_
  refine Z.imulNc B dX12_sumOf_7 (a := 6) (b := c) ?_
  refine Z.iald (σ := σ) B dX12_sumOf_8 (n := 48) (hl.n (k := 47) (by decide)) (hl.k (k := 47) (by decide)) (hl.l (k := 47) (by decide)) (by decide) (j := c * 6) rfl (by omega) (v := (zX σ 47 (c * 6))) rfl ?_
  refine Z.aload_n B dX12_sumOf_9 (v := .ref 45) rfl rfl ?_
  refine Z.getR (σ := σ) B fX12_20_12 dX12_sumOf_10 (hl.n (k := 45) (by decide)) (hl.k (k := 45) (by decide)) (by decide) (j := 47) (hl.r (k := 45) (f := 6) (by decide) (by decide)) ?_
  refine Z.bipush B dX12_sumOf_13 (v := nI 6) rfl ?_
  refine Z.iload_n B dX12_sumOf_15 (x := nI c) rfl ?_
  refine Z.imulNc B dX12_sumOf_16 (a := 6) (b := c) ?_
  refine Z.iconst B dX12_sumOf_17 (v := nI 1) rfl ?_
  refine Z.iaddN B dX12_sumOf_18 (a := c * 6) (b := 1) ?_
  refine Z.iald (σ := σ) B dX12_sumOf_19 (n := 48) (hl.n (k := 47) (by decide)) (hl.k (k := 47) (by decide)) (hl.l (k := 47) (by decide)) (by decide) (j := (c * 6) + 1) rfl (by omega) (v := (zX σ 47 ((c * 6) + 1))) rfl ?_
  refine Z.iadd B dX12_sumOf_20 ?_
  refine Z.aload_n B dX12_sumOf_21 (v := .ref 45) rfl rfl ?_
  refine Z.getR (σ := σ) B fX12_20_12 dX12_sumOf_22 (hl.n (k := 45) (by decide)) (hl.k (k := 45) (by decide)) (by decide) (j := 47) (hl.r (k := 45) (f := 6) (by decide) (by decide)) ?_
  refine Z.bipush B dX12_sumOf_25 (v := nI 6) rfl ?_
  refine Z.iload_n B dX12_sumOf_27 (x := nI c) rfl ?_
  refine Z.imulNc B dX12_sumOf_28 (a := 6) (b := c) ?_
  refine Z.iconst B dX12_sumOf_29 (v := nI 2) rfl ?_
  refine Z.iaddN B dX12_sumOf_30 (a := c * 6) (b := 2) ?_
  refine Z.iald (σ := σ) B dX12_sumOf_31 (n := 48) (hl.n (k := 47) (by decide)) (hl.k (k := 47) (by decide)) (hl.l (k := 47) (by decide)) (by decide) (j := (c * 6) + 2) rfl (by omega) (v := (zX σ 47 ((c * 6) + 2))) rfl ?_
  refine Z.iadd B dX12_sumOf_32 ?_
  refine Z.iret B Rt dX12_sumOf_33 (ty := .int) rfl rfl (by decide) (by decide) ?_
  exact ⟨by rw [cn_6], rfl⟩

theorem t_X12_placeOf {σ : zSt} {n a y : Nat} (H : zMd σ n a y) {od : Nat → Nat} (ho : zMo σ a od) {p x : Nat} (hp : p < a) (hx : od p = x) (hmin : ∀ j, j < p → od j ≠ x) : Dt mX12_placeOf [.ref 45, .int (nI x)] σ (some (.int (nI p))) σ := by
  obtain ⟨hl, hn, hn8, ha, ha4, hy, hy8⟩ := id H
  refine Dt.of (by decide) (Nat.le_of_ble_eq_true rfl) fun κ B Rt => ?_
  show Z κ 0 0 σ 0 [(0, .ref 45), (1, .int (nI x))] []
  have hx4 : x < a := hx ▸ (ho p hp).2
  refine Z.iconst B dX12_placeOf_0 (v := nI 0) rfl ?_
  refine Z.istore_n B dX12_placeOf_1 (by decide) (L' := [(0, .ref 45), (1, .int (nI x)), (2, .int (nI 0))]) rfl ?_
  have hloop2 : ∀ i : Nat, i ≤ p → Z κ 0 0 σ 2 [(0, .ref 45), (1, .int (nI x)), (2, .int (nI i))] [] := by
    refine z_loop (fun i => p - i) (fun i ih hi => ?_)
    refine Z.aload_n B dX12_placeOf_2 (v := .ref 45) rfl rfl ?_
    refine Z.getR (σ := σ) B fX12_32_12 dX12_placeOf_3 (hl.n (k := 45) (by decide)) (hl.k (k := 45) (by decide)) (by decide) (j := 51) (hl.r (k := 45) (f := 10) (by decide) (by decide)) ?_
    refine Z.iload_n B dX12_placeOf_6 (x := nI i) rfl ?_
    refine Z.iald (σ := σ) B dX12_placeOf_7 (n := 4) (hl.n (k := 51) (by decide)) (hl.k (k := 51) (by decide)) (hl.l (k := 51) (by decide)) (by decide) (j := i) rfl (by omega) (v := nI (od i)) (ho i (by omega)).1 ?_
    refine Z.iload_n B dX12_placeOf_8 (x := nI x) rfl ?_
    have ho2 := (ho i (by omega)).2
    refine Z.icmp_eqN B dX12_placeOf_9 (tgt := 18) rfl (by omega) (by omega) (fun h9 => ?_) (fun h9 => ?_)
    · skip
      obtain rfl : i = p := Nat.le_antisymm hi (Nat.le_of_not_lt fun h => hmin i h h9)
      refine Z.iload_n B dX12_placeOf_18 (x := nI i) rfl ?_
      refine Z.iret B Rt dX12_placeOf_19 (ty := .int) rfl rfl (by decide) (by decide) ?_
      exact ⟨rfl, rfl⟩
    · skip
      have hne : i ≠ p := fun e => h9 (by rw [e]; exact hx)
      refine Z.iincN B dX12_placeOf_12 (by decide) (a := i) rfl (L' := [(0, .ref 45), (1, .int (nI x)), (2, .int (nI (i + 1)))]) rfl ?_
      refine Z.goto B dX12_placeOf_15 (tgt := 2) rfl ?_
      exact ih (i + 1) (by omega) (by have := hmin i; omega)
  exact hloop2 0 (Nat.zero_le _)

theorem t_X12_feeling_1 {σ : zSt} {n a y : Nat} (H : zMd σ n a y) {w pa : Nat} (hw : zMy σ w 1 pa) : Dt mX12_feeling [.ref 45, .int (nI w)] σ (some (.int (nI (pa % 11)))) σ := by
  obtain ⟨hl, hn, hn8, ha, ha4, hy, hy8⟩ := id H
  refine Dt.of (by decide) (Nat.le_of_ble_eq_true rfl) fun κ B Rt => ?_
  show Z κ 0 0 σ 0 [(0, .ref 45), (1, .int (nI w))] []
  obtain ⟨hk, hp, hkd, hpa, hw8⟩ := hw
  refine Z.aload_n B dX12_feeling_0 (v := .ref 45) rfl rfl ?_
  refine Z.getR (σ := σ) B fX12_38_12 dX12_feeling_1 (hl.n (k := 45) (by decide)) (hl.k (k := 45) (by decide)) (by decide) (j := 53) (hl.r (k := 45) (f := 12) (by decide) (by decide)) ?_
  refine Z.iload_n B dX12_feeling_4 (x := nI w) rfl ?_
  refine Z.iald (σ := σ) B dX12_feeling_5 (n := 8) (hl.n (k := 53) (by decide)) (hl.k (k := 53) (by decide)) (hl.l (k := 53) (by decide)) (by decide) (j := w) rfl (by omega) (v := nI pa) hp ?_
  refine Z.bipush B dX12_feeling_6 (v := nI 11) rfl ?_
  refine Z.irem B dX12_feeling_8 (by decide) ?_
  refine Z.eqS (st' := [.int (nI (pa % 11))]) (by rw [pk_rem (by omega) (by decide) (by decide)]) ?_
  refine Z.istore_n B dX12_feeling_9 (by decide) (L' := [(0, .ref 45), (1, .int (nI w)), (2, .int (nI (pa % 11)))]) rfl ?_
  refine Z.aload_n B dX12_feeling_10 (v := .ref 45) rfl rfl ?_
  refine Z.getR (σ := σ) B fX12_35_12 dX12_feeling_11 (hl.n (k := 45) (by decide)) (hl.k (k := 45) (by decide)) (by decide) (j := 52) (hl.r (k := 45) (f := 11) (by decide) (by decide)) ?_
  refine Z.iload_n B dX12_feeling_14 (x := nI w) rfl ?_
  refine Z.iald (σ := σ) B dX12_feeling_15 (n := 8) (hl.n (k := 52) (by decide)) (hl.k (k := 52) (by decide)) (hl.l (k := 52) (by decide)) (by decide) (j := w) rfl (by omega) (v := nI 1) hk ?_
  refine Z.iconst B dX12_feeling_16 (v := nI 2) rfl ?_
  refine Z.icmp_neN B dX12_feeling_17 (tgt := 26) rfl (by omega) (by omega) (fun h17 => ?_) (fun h17 => by exfalso; first | omega | contradiction | simp_all)
  refine Z.iload_n B dX12_feeling_26 (x := nI (pa % 11)) rfl ?_
  refine Z.iret B Rt dX12_feeling_27 (ty := .int) rfl rfl (by decide) (by decide) ?_
  exact ⟨rfl, rfl⟩

theorem t_X12_feeling_2 {σ : zSt} {n a y : Nat} (H : zMd σ n a y) {w pa : Nat} (hw : zMy σ w 2 pa) : Dt mX12_feeling [.ref 45, .int (nI w)] σ (some (.int (nI (pa % 11 / 2)))) σ := by
  obtain ⟨hl, hn, hn8, ha, ha4, hy, hy8⟩ := id H
  refine Dt.of (by decide) (Nat.le_of_ble_eq_true rfl) fun κ B Rt => ?_
  show Z κ 0 0 σ 0 [(0, .ref 45), (1, .int (nI w))] []
  obtain ⟨hk, hp, hkd, hpa, hw8⟩ := hw
  refine Z.aload_n B dX12_feeling_0 (v := .ref 45) rfl rfl ?_
  refine Z.getR (σ := σ) B fX12_38_12 dX12_feeling_1 (hl.n (k := 45) (by decide)) (hl.k (k := 45) (by decide)) (by decide) (j := 53) (hl.r (k := 45) (f := 12) (by decide) (by decide)) ?_
  refine Z.iload_n B dX12_feeling_4 (x := nI w) rfl ?_
  refine Z.iald (σ := σ) B dX12_feeling_5 (n := 8) (hl.n (k := 53) (by decide)) (hl.k (k := 53) (by decide)) (hl.l (k := 53) (by decide)) (by decide) (j := w) rfl (by omega) (v := nI pa) hp ?_
  refine Z.bipush B dX12_feeling_6 (v := nI 11) rfl ?_
  refine Z.irem B dX12_feeling_8 (by decide) ?_
  refine Z.eqS (st' := [.int (nI (pa % 11))]) (by rw [pk_rem (by omega) (by decide) (by decide)]) ?_
  refine Z.istore_n B dX12_feeling_9 (by decide) (L' := [(0, .ref 45), (1, .int (nI w)), (2, .int (nI (pa % 11)))]) rfl ?_
  refine Z.aload_n B dX12_feeling_10 (v := .ref 45) rfl rfl ?_
  refine Z.getR (σ := σ) B fX12_35_12 dX12_feeling_11 (hl.n (k := 45) (by decide)) (hl.k (k := 45) (by decide)) (by decide) (j := 52) (hl.r (k := 45) (f := 11) (by decide) (by decide)) ?_
  refine Z.iload_n B dX12_feeling_14 (x := nI w) rfl ?_
  refine Z.iald (σ := σ) B dX12_feeling_15 (n := 8) (hl.n (k := 52) (by decide)) (hl.k (k := 52) (by decide)) (hl.l (k := 52) (by decide)) (by decide) (j := w) rfl (by omega) (v := nI 2) hk ?_
  refine Z.iconst B dX12_feeling_16 (v := nI 2) rfl ?_
  refine Z.icmp_neN B dX12_feeling_17 (tgt := 26) rfl (by omega) (by omega) (fun h17 => by exfalso; first | omega | contradiction | simp_all) (fun h17 => ?_)
  refine Z.iload_n B dX12_feeling_20 (x := nI (pa % 11)) rfl ?_
  refine Z.iconst B dX12_feeling_21 (v := nI 2) rfl ?_
  refine Z.idiv B dX12_feeling_22 (by decide) ?_
  refine Z.eqS (st' := [.int (nI (pa % 11 / 2))]) (by rw [pk_div (by omega) (by decide) (by decide)]) ?_
  refine Z.goto B dX12_feeling_23 (tgt := 27) rfl ?_
  refine Z.iret B Rt dX12_feeling_27 (ty := .int) rfl rfl (by decide) (by decide) ?_
  exact ⟨rfl, rfl⟩

theorem t_X12_showsBy {σ : zSt} {n a y : Nat} (H : zMd σ n a y) {w kd pa : Nat} (hw : zMy σ w kd pa) {b c : Nat} (hb : b < a) (hc : c < n) : Dt mX12_showsBy [.ref 45, .int (nI w), .int (nI b), .int (nI c)] σ (some (.int (shW (zX σ 47) (zX σ 48) (zX σ 49) kd pa b c))) σ := by
  obtain ⟨hl, hn, hn8, ha, ha4, hy, hy8⟩ := id H
  refine Dt.of (by decide) (Nat.le_of_ble_eq_true rfl) fun κ B Rt => ?_
  show Z κ 0 0 σ 0 [(0, .ref 45), (1, .int (nI w)), (2, .int (nI b)), (3, .int (nI c))] []
  have hw2 := hw
  obtain ⟨hk, hp, hkd, hpa, hw8⟩ := hw
  refine Z.aload_n B dX12_showsBy_0 (v := .ref 45) rfl rfl ?_
  refine Z.getR (σ := σ) B fX12_23_12 dX12_showsBy_1 (hl.n (k := 45) (by decide)) (hl.k (k := 45) (by decide)) (by decide) (j := 48) (hl.r (k := 45) (f := 7) (by decide) (by decide)) ?_
  refine Z.iload_n B dX12_showsBy_4 (x := nI b) rfl ?_
  refine Z.iald (σ := σ) B dX12_showsBy_5 (n := 4) (hl.n (k := 48) (by decide)) (hl.k (k := 48) (by decide)) (hl.l (k := 48) (by decide)) (by decide) (j := b) rfl (by omega) (v := (zX σ 48 b)) rfl ?_
  refine Z.aload_n B dX12_showsBy_6 (v := .ref 45) rfl rfl ?_
  refine Z.getR (σ := σ) B fX12_20_12 dX12_showsBy_7 (hl.n (k := 45) (by decide)) (hl.k (k := 45) (by decide)) (by decide) (j := 47) (hl.r (k := 45) (f := 6) (by decide) (by decide)) ?_
  refine Z.bipush B dX12_showsBy_10 (v := nI 6) rfl ?_
  refine Z.iload_n B dX12_showsBy_12 (x := nI c) rfl ?_
  refine Z.imulNc B dX12_showsBy_13 (a := 6) (b := c) ?_
  refine Z.iconst B dX12_showsBy_14 (v := nI 4) rfl ?_
  refine Z.iaddN B dX12_showsBy_15 (a := c * 6) (b := 4) ?_
  refine Z.iald (σ := σ) B dX12_showsBy_16 (n := 48) (hl.n (k := 47) (by decide)) (hl.k (k := 47) (by decide)) (hl.l (k := 47) (by decide)) (by decide) (j := (c * 6) + 4) rfl (by omega) (v := (zX σ 47 ((c * 6) + 4))) rfl ?_
  refine Z.icmp_ne B dX12_showsBy_17 (tgt := 32) rfl (fun h17 => ?_) (fun h17 => ?_)
  · skip
    refine Z.iconst B dX12_showsBy_32 (v := nI 0) rfl ?_
    refine Z.eqS (st' := [.int (bo (zX σ 47) (zX σ 48) (zX σ 49) b c)]) (by unfold bo; first | rw [if_pos h17] | rw [if_neg h17]) ?_
    refine Z.istore B dX12_showsBy_33 (by decide) (L' := [(0, .ref 45), (1, .int (nI w)), (2, .int (nI b)), (3, .int (nI c)), (4, .int (bo (zX σ 47) (zX σ 48) (zX σ 49) b c))]) rfl ?_
    refine Z.bipush B dX12_showsBy_35 (v := nI 30) rfl ?_
    refine Z.aload_n B dX12_showsBy_37 (v := .ref 45) rfl rfl ?_
    refine Z.getR (σ := σ) B fX12_20_12 dX12_showsBy_38 (hl.n (k := 45) (by decide)) (hl.k (k := 45) (by decide)) (by decide) (j := 47) (hl.r (k := 45) (f := 6) (by decide) (by decide)) ?_
    refine Z.bipush B dX12_showsBy_41 (v := nI 6) rfl ?_
    refine Z.iload_n B dX12_showsBy_43 (x := nI c) rfl ?_
    refine Z.imulNc B dX12_showsBy_44 (a := 6) (b := c) ?_
    refine Z.iconst B dX12_showsBy_45 (v := nI 3) rfl ?_
    refine Z.iaddN B dX12_showsBy_46 (a := c * 6) (b := 3) ?_
    refine Z.iald (σ := σ) B dX12_showsBy_47 (n := 48) (hl.n (k := 47) (by decide)) (hl.k (k := 47) (by decide)) (hl.l (k := 47) (by decide)) (by decide) (j := (c * 6) + 3) rfl (by omega) (v := (zX σ 47 ((c * 6) + 3))) rfl ?_
    refine Z.imul B dX12_showsBy_48 ?_
    refine Z.iload B dX12_showsBy_49 (x := bo (zX σ 47) (zX σ 48) (zX σ 49) b c) rfl ?_
    refine Z.iadd B dX12_showsBy_51 ?_
    refine Z.eqS (st' := [.int (fe (zX σ 47) (zX σ 48) (zX σ 49) b c)]) (by unfold fe; rw [cn_ne (by decide)]) ?_
    refine Z.istore B dX12_showsBy_52 (by decide) (L' := [(0, .ref 45), (1, .int (nI w)), (2, .int (nI b)), (3, .int (nI c)), (4, .int (bo (zX σ 47) (zX σ 48) (zX σ 49) b c)), (5, .int (fe (zX σ 47) (zX σ 48) (zX σ 49) b c))]) rfl ?_
    refine Z.aload_n B dX12_showsBy_54 (v := .ref 45) rfl rfl ?_
    refine Z.getR (σ := σ) B fX12_35_12 dX12_showsBy_55 (hl.n (k := 45) (by decide)) (hl.k (k := 45) (by decide)) (by decide) (j := 52) (hl.r (k := 45) (f := 11) (by decide) (by decide)) ?_
    refine Z.iload_n B dX12_showsBy_58 (x := nI w) rfl ?_
    refine Z.iald (σ := σ) B dX12_showsBy_59 (n := 8) (hl.n (k := 52) (by decide)) (hl.k (k := 52) (by decide)) (hl.l (k := 52) (by decide)) (by decide) (j := w) rfl (by omega) (v := nI kd) hk ?_
    rcases (by omega : kd = 0 ∨ kd = 1 ∨ kd = 2 ∨ kd = 3 ∨ kd = 4 ∨ kd = 5 ∨ kd = 6) with rfl | rfl | rfl | rfl | rfl | rfl | rfl
    · skip
      refine Z.tabOut B dX12_showsBy_60 (by decide) (tgt := 210) rfl ?_
      refine Z.iload B dX12_showsBy_210 (x := fe (zX σ 47) (zX σ 48) (zX σ 49) b c) rfl ?_
      refine Z.iret B Rt dX12_showsBy_212 (ty := .int) rfl rfl (by decide) (by decide) ?_
      exact ⟨by rw [shW_0], rfl⟩
    · skip
      refine Z.tabIn B dX12_showsBy_60 (by decide) (by decide) (off := 40) (by decide) (tgt := 100) rfl ?_
      refine Z.aload_n B dX12_showsBy_100 (v := .ref 45) rfl rfl ?_
      refine Z.iload_n B dX12_showsBy_101 (x := nI w) rfl ?_
      refine Z.callVI (σ := σ) B (M' := mX12_feeling) (as := [.int (nI w)]) (st := []) (v := .int (nI (pa % 11))) dX12_showsBy_102 wX12_feeling iX12_feeling sX12_feeling kX12_108 (hl.n (k := 45) (by decide)) (hl.k (k := 45) (by decide)) (by decide) rfl rfl (t_X12_feeling_1 (σ := σ) H hw2) rfl rfl (by decide) (by decide) (Nat.le_of_ble_eq_true rfl) (by decide) (by decide) ?_
      refine Z.istore B dX12_showsBy_105 (by decide) (L' := [(0, .ref 45), (1, .int (nI w)), (2, .int (nI b)), (3, .int (nI c)), (4, .int (bo (zX σ 47) (zX σ 48) (zX σ 49) b c)), (5, .int (fe (zX σ 47) (zX σ 48) (zX σ 49) b c)), (6, .int (nI (pa % 11)))]) rfl ?_
      refine Z.iload B dX12_showsBy_107 (x := nI (pa % 11)) rfl ?_
      refine Z.iload B dX12_showsBy_109 (x := fe (zX σ 47) (zX σ 48) (zX σ 49) b c) rfl ?_
      refine Z.imul B dX12_showsBy_111 ?_
      refine Z.bipush B dX12_showsBy_112 (v := nI 10) rfl ?_
      refine Z.iload B dX12_showsBy_114 (x := nI (pa % 11)) rfl ?_
      refine Z.isub B dX12_showsBy_116 ?_
      refine Z.bipush B dX12_showsBy_117 (v := nI 10) rfl ?_
      refine Z.imul B dX12_showsBy_119 ?_
      refine Z.aload_n B dX12_showsBy_120 (v := .ref 45) rfl rfl ?_
      refine Z.iload_n B dX12_showsBy_121 (x := nI c) rfl ?_
      refine Z.callVI (σ := σ) B (M' := mX12_sumOf) (as := [.int (nI c)]) (st := [.int (((nI 10) - (nI (pa % 11))) * (nI 10)), .int ((nI (pa % 11)) * (fe (zX σ 47) (zX σ 48) (zX σ 49) b c))]) (v := .int (cn (zX σ 47) c 6)) dX12_showsBy_122 wX12_sumOf iX12_sumOf sX12_sumOf kX12_101 (hl.n (k := 45) (by decide)) (hl.k (k := 45) (by decide)) (by decide) rfl rfl (t_X12_sumOf (σ := σ) H (c := c) (by omega)) rfl rfl (by decide) (by decide) (Nat.le_of_ble_eq_true rfl) (by decide) (by decide) ?_
      refine Z.imul B dX12_showsBy_125 ?_
      refine Z.iadd B dX12_showsBy_126 ?_
      refine Z.bipush B dX12_showsBy_127 (v := nI 10) rfl ?_
      refine Z.idiv B dX12_showsBy_129 (by decide) ?_
      refine Z.iret B Rt dX12_showsBy_130 (ty := .int) rfl rfl (by decide) (by decide) ?_
      exact ⟨by rw [shW_1], rfl⟩
    · skip
      refine Z.tabIn B dX12_showsBy_60 (by decide) (by decide) (off := 40) (by decide) (tgt := 100) rfl ?_
      refine Z.aload_n B dX12_showsBy_100 (v := .ref 45) rfl rfl ?_
      refine Z.iload_n B dX12_showsBy_101 (x := nI w) rfl ?_
      refine Z.callVI (σ := σ) B (M' := mX12_feeling) (as := [.int (nI w)]) (st := []) (v := .int (nI (pa % 11 / 2))) dX12_showsBy_102 wX12_feeling iX12_feeling sX12_feeling kX12_108 (hl.n (k := 45) (by decide)) (hl.k (k := 45) (by decide)) (by decide) rfl rfl (t_X12_feeling_2 (σ := σ) H hw2) rfl rfl (by decide) (by decide) (Nat.le_of_ble_eq_true rfl) (by decide) (by decide) ?_
      refine Z.istore B dX12_showsBy_105 (by decide) (L' := [(0, .ref 45), (1, .int (nI w)), (2, .int (nI b)), (3, .int (nI c)), (4, .int (bo (zX σ 47) (zX σ 48) (zX σ 49) b c)), (5, .int (fe (zX σ 47) (zX σ 48) (zX σ 49) b c)), (6, .int (nI (pa % 11 / 2)))]) rfl ?_
      refine Z.iload B dX12_showsBy_107 (x := nI (pa % 11 / 2)) rfl ?_
      refine Z.iload B dX12_showsBy_109 (x := fe (zX σ 47) (zX σ 48) (zX σ 49) b c) rfl ?_
      refine Z.imul B dX12_showsBy_111 ?_
      refine Z.bipush B dX12_showsBy_112 (v := nI 10) rfl ?_
      refine Z.iload B dX12_showsBy_114 (x := nI (pa % 11 / 2)) rfl ?_
      refine Z.isub B dX12_showsBy_116 ?_
      refine Z.bipush B dX12_showsBy_117 (v := nI 10) rfl ?_
      refine Z.imul B dX12_showsBy_119 ?_
      refine Z.aload_n B dX12_showsBy_120 (v := .ref 45) rfl rfl ?_
      refine Z.iload_n B dX12_showsBy_121 (x := nI c) rfl ?_
      refine Z.callVI (σ := σ) B (M' := mX12_sumOf) (as := [.int (nI c)]) (st := [.int (((nI 10) - (nI (pa % 11 / 2))) * (nI 10)), .int ((nI (pa % 11 / 2)) * (fe (zX σ 47) (zX σ 48) (zX σ 49) b c))]) (v := .int (cn (zX σ 47) c 6)) dX12_showsBy_122 wX12_sumOf iX12_sumOf sX12_sumOf kX12_101 (hl.n (k := 45) (by decide)) (hl.k (k := 45) (by decide)) (by decide) rfl rfl (t_X12_sumOf (σ := σ) H (c := c) (by omega)) rfl rfl (by decide) (by decide) (Nat.le_of_ble_eq_true rfl) (by decide) (by decide) ?_
      refine Z.imul B dX12_showsBy_125 ?_
      refine Z.iadd B dX12_showsBy_126 ?_
      refine Z.bipush B dX12_showsBy_127 (v := nI 10) rfl ?_
      refine Z.idiv B dX12_showsBy_129 (by decide) ?_
      refine Z.iret B Rt dX12_showsBy_130 (ty := .int) rfl rfl (by decide) (by decide) ?_
      exact ⟨by rw [shW_2], rfl⟩
    · skip
      refine Z.tabIn B dX12_showsBy_60 (by decide) (by decide) (off := 71) (by decide) (tgt := 131) rfl ?_
      refine Z.bipush B dX12_showsBy_131 (v := nI 30) rfl ?_
      refine Z.aload_n B dX12_showsBy_133 (v := .ref 45) rfl rfl ?_
      refine Z.getR (σ := σ) B fX12_20_12 dX12_showsBy_134 (hl.n (k := 45) (by decide)) (hl.k (k := 45) (by decide)) (by decide) (j := 47) (hl.r (k := 45) (f := 6) (by decide) (by decide)) ?_
      refine Z.bipush B dX12_showsBy_137 (v := nI 6) rfl ?_
      refine Z.iload_n B dX12_showsBy_139 (x := nI c) rfl ?_
      refine Z.imulNc B dX12_showsBy_140 (a := 6) (b := c) ?_
      refine Z.aload_n B dX12_showsBy_141 (v := .ref 45) rfl rfl ?_
      refine Z.getR (σ := σ) B fX12_38_12 dX12_showsBy_142 (hl.n (k := 45) (by decide)) (hl.k (k := 45) (by decide)) (by decide) (j := 53) (hl.r (k := 45) (f := 12) (by decide) (by decide)) ?_
      refine Z.iload_n B dX12_showsBy_145 (x := nI w) rfl ?_
      refine Z.iald (σ := σ) B dX12_showsBy_146 (n := 8) (hl.n (k := 53) (by decide)) (hl.k (k := 53) (by decide)) (hl.l (k := 53) (by decide)) (by decide) (j := w) rfl (by omega) (v := nI pa) hp ?_
      refine Z.iconst B dX12_showsBy_147 (v := nI 3) rfl ?_
      refine Z.irem B dX12_showsBy_148 (by decide) ?_
      refine Z.eqS (st' := [.int (nI (pa % 3)), .int (nI (c * 6)), .ref 47, .int (nI 30)]) (by rw [pk_rem (by omega) (by decide) (by decide)]) ?_
      refine Z.iaddN B dX12_showsBy_149 (a := c * 6) (b := pa % 3) ?_
      refine Z.iald (σ := σ) B dX12_showsBy_150 (n := 48) (hl.n (k := 47) (by decide)) (hl.k (k := 47) (by decide)) (hl.l (k := 47) (by decide)) (by decide) (j := (c * 6) + (pa % 3)) rfl (by have := Nat.mod_lt pa (show 0 < 3 by decide); omega) (v := (zX σ 47 ((c * 6) + (pa % 3)))) rfl ?_
      refine Z.imul B dX12_showsBy_151 ?_
      refine Z.iret B Rt dX12_showsBy_152 (ty := .int) rfl rfl (by decide) (by decide) ?_
      exact ⟨by rw [shW_3, cn_ne (by omega)], rfl⟩
    · skip
      refine Z.tabIn B dX12_showsBy_60 (by decide) (by decide) (off := 93) (by decide) (tgt := 153) rfl ?_
      refine Z.aload_n B dX12_showsBy_153 (v := .ref 45) rfl rfl ?_
      refine Z.iload_n B dX12_showsBy_154 (x := nI c) rfl ?_
      refine Z.callVI (σ := σ) B (M' := mX12_sumOf) (as := [.int (nI c)]) (st := []) (v := .int (cn (zX σ 47) c 6)) dX12_showsBy_155 wX12_sumOf iX12_sumOf sX12_sumOf kX12_101 (hl.n (k := 45) (by decide)) (hl.k (k := 45) (by decide)) (by decide) rfl rfl (t_X12_sumOf (σ := σ) H (c := c) (by omega)) rfl rfl (by decide) (by decide) (Nat.le_of_ble_eq_true rfl) (by decide) (by decide) ?_
      refine Z.aload_n B dX12_showsBy_158 (v := .ref 45) rfl rfl ?_
      refine Z.getR (σ := σ) B fX12_38_12 dX12_showsBy_159 (hl.n (k := 45) (by decide)) (hl.k (k := 45) (by decide)) (by decide) (j := 53) (hl.r (k := 45) (f := 12) (by decide) (by decide)) ?_
      refine Z.iload_n B dX12_showsBy_162 (x := nI w) rfl ?_
      refine Z.iald (σ := σ) B dX12_showsBy_163 (n := 8) (hl.n (k := 53) (by decide)) (hl.k (k := 53) (by decide)) (hl.l (k := 53) (by decide)) (by decide) (j := w) rfl (by omega) (v := nI pa) hp ?_
      refine Z.icmp_ge B dX12_showsBy_164 (tgt := 173) rfl (fun h164 => ?_) (fun h164 => ?_)
      · skip
        refine Z.sipush B dX12_showsBy_173 (v := nI 270) rfl ?_
        refine Z.iret B Rt dX12_showsBy_176 (ty := .int) rfl rfl (by decide) (by decide) ?_
        rw [shW_4]
        first | exact ⟨zip (by rw [zlt_iff]; rw [zle_iff] at h164; omega), rfl⟩ | exact ⟨zin (by rw [zlt_iff]; rw [zle_iff] at h164; omega), rfl⟩
      · skip
        refine Z.sipush B dX12_showsBy_167 (v := nI 260) rfl ?_
        refine Z.goto B dX12_showsBy_170 (tgt := 176) rfl ?_
        refine Z.iret B Rt dX12_showsBy_176 (ty := .int) rfl rfl (by decide) (by decide) ?_
        rw [shW_4]
        first | exact ⟨zip (by rw [zlt_iff]; rw [zle_iff] at h164; omega), rfl⟩ | exact ⟨zin (by rw [zlt_iff]; rw [zle_iff] at h164; omega), rfl⟩
    · skip
      refine Z.tabIn B dX12_showsBy_60 (by decide) (by decide) (off := 117) (by decide) (tgt := 177) rfl ?_
      refine Z.bipush B dX12_showsBy_177 (v := nI 30) rfl ?_
      refine Z.aload_n B dX12_showsBy_179 (v := .ref 45) rfl rfl ?_
      refine Z.getR (σ := σ) B fX12_20_12 dX12_showsBy_180 (hl.n (k := 45) (by decide)) (hl.k (k := 45) (by decide)) (by decide) (j := 47) (hl.r (k := 45) (f := 6) (by decide) (by decide)) ?_
      refine Z.bipush B dX12_showsBy_183 (v := nI 6) rfl ?_
      refine Z.iload_n B dX12_showsBy_185 (x := nI c) rfl ?_
      refine Z.imulNc B dX12_showsBy_186 (a := 6) (b := c) ?_
      refine Z.iconst B dX12_showsBy_187 (v := nI 5) rfl ?_
      refine Z.iaddN B dX12_showsBy_188 (a := c * 6) (b := 5) ?_
      refine Z.iald (σ := σ) B dX12_showsBy_189 (n := 48) (hl.n (k := 47) (by decide)) (hl.k (k := 47) (by decide)) (hl.l (k := 47) (by decide)) (by decide) (j := (c * 6) + 5) rfl (by omega) (v := (zX σ 47 ((c * 6) + 5))) rfl ?_
      refine Z.imul B dX12_showsBy_190 ?_
      refine Z.iload B dX12_showsBy_191 (x := bo (zX σ 47) (zX σ 48) (zX σ 49) b c) rfl ?_
      refine Z.iadd B dX12_showsBy_193 ?_
      refine Z.iret B Rt dX12_showsBy_194 (ty := .int) rfl rfl (by decide) (by decide) ?_
      exact ⟨by rw [shW_5, cn_ne (by decide)], rfl⟩
    · skip
      refine Z.tabIn B dX12_showsBy_60 (by decide) (by decide) (off := 135) (by decide) (tgt := 195) rfl ?_
      refine Z.bipush B dX12_showsBy_195 (v := nI 30) rfl ?_
      refine Z.aload_n B dX12_showsBy_197 (v := .ref 45) rfl rfl ?_
      refine Z.getR (σ := σ) B fX12_20_12 dX12_showsBy_198 (hl.n (k := 45) (by decide)) (hl.k (k := 45) (by decide)) (by decide) (j := 47) (hl.r (k := 45) (f := 6) (by decide) (by decide)) ?_
      refine Z.bipush B dX12_showsBy_201 (v := nI 6) rfl ?_
      refine Z.iload_n B dX12_showsBy_203 (x := nI c) rfl ?_
      refine Z.imulNc B dX12_showsBy_204 (a := 6) (b := c) ?_
      refine Z.iconst B dX12_showsBy_205 (v := nI 5) rfl ?_
      refine Z.iaddN B dX12_showsBy_206 (a := c * 6) (b := 5) ?_
      refine Z.iald (σ := σ) B dX12_showsBy_207 (n := 48) (hl.n (k := 47) (by decide)) (hl.k (k := 47) (by decide)) (hl.l (k := 47) (by decide)) (by decide) (j := (c * 6) + 5) rfl (by omega) (v := (zX σ 47 ((c * 6) + 5))) rfl ?_
      refine Z.imul B dX12_showsBy_208 ?_
      refine Z.iret B Rt dX12_showsBy_209 (ty := .int) rfl rfl (by decide) (by decide) ?_
      exact ⟨by rw [shW_6, cn_ne (by decide)], rfl⟩
  · skip
    refine Z.bipush B dX12_showsBy_20 (v := nI 10) rfl ?_
    refine Z.aload_n B dX12_showsBy_22 (v := .ref 45) rfl rfl ?_
    refine Z.getR (σ := σ) B fX12_26_12 dX12_showsBy_23 (hl.n (k := 45) (by decide)) (hl.k (k := 45) (by decide)) (by decide) (j := 49) (hl.r (k := 45) (f := 8) (by decide) (by decide)) ?_
    refine Z.iload_n B dX12_showsBy_26 (x := nI b) rfl ?_
    refine Z.iald (σ := σ) B dX12_showsBy_27 (n := 4) (hl.n (k := 49) (by decide)) (hl.k (k := 49) (by decide)) (hl.l (k := 49) (by decide)) (by decide) (j := b) rfl (by omega) (v := (zX σ 49 b)) rfl ?_
    refine Z.imul B dX12_showsBy_28 ?_
    refine Z.goto B dX12_showsBy_29 (tgt := 33) rfl ?_
    refine Z.eqS (st' := [.int (bo (zX σ 47) (zX σ 48) (zX σ 49) b c)]) (by unfold bo; first | rw [if_pos h17] | rw [if_neg h17]) ?_
    refine Z.istore B dX12_showsBy_33 (by decide) (L' := [(0, .ref 45), (1, .int (nI w)), (2, .int (nI b)), (3, .int (nI c)), (4, .int (bo (zX σ 47) (zX σ 48) (zX σ 49) b c))]) rfl ?_
    refine Z.bipush B dX12_showsBy_35 (v := nI 30) rfl ?_
    refine Z.aload_n B dX12_showsBy_37 (v := .ref 45) rfl rfl ?_
    refine Z.getR (σ := σ) B fX12_20_12 dX12_showsBy_38 (hl.n (k := 45) (by decide)) (hl.k (k := 45) (by decide)) (by decide) (j := 47) (hl.r (k := 45) (f := 6) (by decide) (by decide)) ?_
    refine Z.bipush B dX12_showsBy_41 (v := nI 6) rfl ?_
    refine Z.iload_n B dX12_showsBy_43 (x := nI c) rfl ?_
    refine Z.imulNc B dX12_showsBy_44 (a := 6) (b := c) ?_
    refine Z.iconst B dX12_showsBy_45 (v := nI 3) rfl ?_
    refine Z.iaddN B dX12_showsBy_46 (a := c * 6) (b := 3) ?_
    refine Z.iald (σ := σ) B dX12_showsBy_47 (n := 48) (hl.n (k := 47) (by decide)) (hl.k (k := 47) (by decide)) (hl.l (k := 47) (by decide)) (by decide) (j := (c * 6) + 3) rfl (by omega) (v := (zX σ 47 ((c * 6) + 3))) rfl ?_
    refine Z.imul B dX12_showsBy_48 ?_
    refine Z.iload B dX12_showsBy_49 (x := bo (zX σ 47) (zX σ 48) (zX σ 49) b c) rfl ?_
    refine Z.iadd B dX12_showsBy_51 ?_
    refine Z.eqS (st' := [.int (fe (zX σ 47) (zX σ 48) (zX σ 49) b c)]) (by unfold fe; rw [cn_ne (by decide)]) ?_
    refine Z.istore B dX12_showsBy_52 (by decide) (L' := [(0, .ref 45), (1, .int (nI w)), (2, .int (nI b)), (3, .int (nI c)), (4, .int (bo (zX σ 47) (zX σ 48) (zX σ 49) b c)), (5, .int (fe (zX σ 47) (zX σ 48) (zX σ 49) b c))]) rfl ?_
    refine Z.aload_n B dX12_showsBy_54 (v := .ref 45) rfl rfl ?_
    refine Z.getR (σ := σ) B fX12_35_12 dX12_showsBy_55 (hl.n (k := 45) (by decide)) (hl.k (k := 45) (by decide)) (by decide) (j := 52) (hl.r (k := 45) (f := 11) (by decide) (by decide)) ?_
    refine Z.iload_n B dX12_showsBy_58 (x := nI w) rfl ?_
    refine Z.iald (σ := σ) B dX12_showsBy_59 (n := 8) (hl.n (k := 52) (by decide)) (hl.k (k := 52) (by decide)) (hl.l (k := 52) (by decide)) (by decide) (j := w) rfl (by omega) (v := nI kd) hk ?_
    rcases (by omega : kd = 0 ∨ kd = 1 ∨ kd = 2 ∨ kd = 3 ∨ kd = 4 ∨ kd = 5 ∨ kd = 6) with rfl | rfl | rfl | rfl | rfl | rfl | rfl
    · skip
      refine Z.tabOut B dX12_showsBy_60 (by decide) (tgt := 210) rfl ?_
      refine Z.iload B dX12_showsBy_210 (x := fe (zX σ 47) (zX σ 48) (zX σ 49) b c) rfl ?_
      refine Z.iret B Rt dX12_showsBy_212 (ty := .int) rfl rfl (by decide) (by decide) ?_
      exact ⟨by rw [shW_0], rfl⟩
    · skip
      refine Z.tabIn B dX12_showsBy_60 (by decide) (by decide) (off := 40) (by decide) (tgt := 100) rfl ?_
      refine Z.aload_n B dX12_showsBy_100 (v := .ref 45) rfl rfl ?_
      refine Z.iload_n B dX12_showsBy_101 (x := nI w) rfl ?_
      refine Z.callVI (σ := σ) B (M' := mX12_feeling) (as := [.int (nI w)]) (st := []) (v := .int (nI (pa % 11))) dX12_showsBy_102 wX12_feeling iX12_feeling sX12_feeling kX12_108 (hl.n (k := 45) (by decide)) (hl.k (k := 45) (by decide)) (by decide) rfl rfl (t_X12_feeling_1 (σ := σ) H hw2) rfl rfl (by decide) (by decide) (Nat.le_of_ble_eq_true rfl) (by decide) (by decide) ?_
      refine Z.istore B dX12_showsBy_105 (by decide) (L' := [(0, .ref 45), (1, .int (nI w)), (2, .int (nI b)), (3, .int (nI c)), (4, .int (bo (zX σ 47) (zX σ 48) (zX σ 49) b c)), (5, .int (fe (zX σ 47) (zX σ 48) (zX σ 49) b c)), (6, .int (nI (pa % 11)))]) rfl ?_
      refine Z.iload B dX12_showsBy_107 (x := nI (pa % 11)) rfl ?_
      refine Z.iload B dX12_showsBy_109 (x := fe (zX σ 47) (zX σ 48) (zX σ 49) b c) rfl ?_
      refine Z.imul B dX12_showsBy_111 ?_
      refine Z.bipush B dX12_showsBy_112 (v := nI 10) rfl ?_
      refine Z.iload B dX12_showsBy_114 (x := nI (pa % 11)) rfl ?_
      refine Z.isub B dX12_showsBy_116 ?_
      refine Z.bipush B dX12_showsBy_117 (v := nI 10) rfl ?_
      refine Z.imul B dX12_showsBy_119 ?_
      refine Z.aload_n B dX12_showsBy_120 (v := .ref 45) rfl rfl ?_
      refine Z.iload_n B dX12_showsBy_121 (x := nI c) rfl ?_
      refine Z.callVI (σ := σ) B (M' := mX12_sumOf) (as := [.int (nI c)]) (st := [.int (((nI 10) - (nI (pa % 11))) * (nI 10)), .int ((nI (pa % 11)) * (fe (zX σ 47) (zX σ 48) (zX σ 49) b c))]) (v := .int (cn (zX σ 47) c 6)) dX12_showsBy_122 wX12_sumOf iX12_sumOf sX12_sumOf kX12_101 (hl.n (k := 45) (by decide)) (hl.k (k := 45) (by decide)) (by decide) rfl rfl (t_X12_sumOf (σ := σ) H (c := c) (by omega)) rfl rfl (by decide) (by decide) (Nat.le_of_ble_eq_true rfl) (by decide) (by decide) ?_
      refine Z.imul B dX12_showsBy_125 ?_
      refine Z.iadd B dX12_showsBy_126 ?_
      refine Z.bipush B dX12_showsBy_127 (v := nI 10) rfl ?_
      refine Z.idiv B dX12_showsBy_129 (by decide) ?_
      refine Z.iret B Rt dX12_showsBy_130 (ty := .int) rfl rfl (by decide) (by decide) ?_
      exact ⟨by rw [shW_1], rfl⟩
    · skip
      refine Z.tabIn B dX12_showsBy_60 (by decide) (by decide) (off := 40) (by decide) (tgt := 100) rfl ?_
      refine Z.aload_n B dX12_showsBy_100 (v := .ref 45) rfl rfl ?_
      refine Z.iload_n B dX12_showsBy_101 (x := nI w) rfl ?_
      refine Z.callVI (σ := σ) B (M' := mX12_feeling) (as := [.int (nI w)]) (st := []) (v := .int (nI (pa % 11 / 2))) dX12_showsBy_102 wX12_feeling iX12_feeling sX12_feeling kX12_108 (hl.n (k := 45) (by decide)) (hl.k (k := 45) (by decide)) (by decide) rfl rfl (t_X12_feeling_2 (σ := σ) H hw2) rfl rfl (by decide) (by decide) (Nat.le_of_ble_eq_true rfl) (by decide) (by decide) ?_
      refine Z.istore B dX12_showsBy_105 (by decide) (L' := [(0, .ref 45), (1, .int (nI w)), (2, .int (nI b)), (3, .int (nI c)), (4, .int (bo (zX σ 47) (zX σ 48) (zX σ 49) b c)), (5, .int (fe (zX σ 47) (zX σ 48) (zX σ 49) b c)), (6, .int (nI (pa % 11 / 2)))]) rfl ?_
      refine Z.iload B dX12_showsBy_107 (x := nI (pa % 11 / 2)) rfl ?_
      refine Z.iload B dX12_showsBy_109 (x := fe (zX σ 47) (zX σ 48) (zX σ 49) b c) rfl ?_
      refine Z.imul B dX12_showsBy_111 ?_
      refine Z.bipush B dX12_showsBy_112 (v := nI 10) rfl ?_
      refine Z.iload B dX12_showsBy_114 (x := nI (pa % 11 / 2)) rfl ?_
      refine Z.isub B dX12_showsBy_116 ?_
      refine Z.bipush B dX12_showsBy_117 (v := nI 10) rfl ?_
      refine Z.imul B dX12_showsBy_119 ?_
      refine Z.aload_n B dX12_showsBy_120 (v := .ref 45) rfl rfl ?_
      refine Z.iload_n B dX12_showsBy_121 (x := nI c) rfl ?_
      refine Z.callVI (σ := σ) B (M' := mX12_sumOf) (as := [.int (nI c)]) (st := [.int (((nI 10) - (nI (pa % 11 / 2))) * (nI 10)), .int ((nI (pa % 11 / 2)) * (fe (zX σ 47) (zX σ 48) (zX σ 49) b c))]) (v := .int (cn (zX σ 47) c 6)) dX12_showsBy_122 wX12_sumOf iX12_sumOf sX12_sumOf kX12_101 (hl.n (k := 45) (by decide)) (hl.k (k := 45) (by decide)) (by decide) rfl rfl (t_X12_sumOf (σ := σ) H (c := c) (by omega)) rfl rfl (by decide) (by decide) (Nat.le_of_ble_eq_true rfl) (by decide) (by decide) ?_
      refine Z.imul B dX12_showsBy_125 ?_
      refine Z.iadd B dX12_showsBy_126 ?_
      refine Z.bipush B dX12_showsBy_127 (v := nI 10) rfl ?_
      refine Z.idiv B dX12_showsBy_129 (by decide) ?_
      refine Z.iret B Rt dX12_showsBy_130 (ty := .int) rfl rfl (by decide) (by decide) ?_
      exact ⟨by rw [shW_2], rfl⟩
    · skip
      refine Z.tabIn B dX12_showsBy_60 (by decide) (by decide) (off := 71) (by decide) (tgt := 131) rfl ?_
      refine Z.bipush B dX12_showsBy_131 (v := nI 30) rfl ?_
      refine Z.aload_n B dX12_showsBy_133 (v := .ref 45) rfl rfl ?_
      refine Z.getR (σ := σ) B fX12_20_12 dX12_showsBy_134 (hl.n (k := 45) (by decide)) (hl.k (k := 45) (by decide)) (by decide) (j := 47) (hl.r (k := 45) (f := 6) (by decide) (by decide)) ?_
      refine Z.bipush B dX12_showsBy_137 (v := nI 6) rfl ?_
      refine Z.iload_n B dX12_showsBy_139 (x := nI c) rfl ?_
      refine Z.imulNc B dX12_showsBy_140 (a := 6) (b := c) ?_
      refine Z.aload_n B dX12_showsBy_141 (v := .ref 45) rfl rfl ?_
      refine Z.getR (σ := σ) B fX12_38_12 dX12_showsBy_142 (hl.n (k := 45) (by decide)) (hl.k (k := 45) (by decide)) (by decide) (j := 53) (hl.r (k := 45) (f := 12) (by decide) (by decide)) ?_
      refine Z.iload_n B dX12_showsBy_145 (x := nI w) rfl ?_
      refine Z.iald (σ := σ) B dX12_showsBy_146 (n := 8) (hl.n (k := 53) (by decide)) (hl.k (k := 53) (by decide)) (hl.l (k := 53) (by decide)) (by decide) (j := w) rfl (by omega) (v := nI pa) hp ?_
      refine Z.iconst B dX12_showsBy_147 (v := nI 3) rfl ?_
      refine Z.irem B dX12_showsBy_148 (by decide) ?_
      refine Z.eqS (st' := [.int (nI (pa % 3)), .int (nI (c * 6)), .ref 47, .int (nI 30)]) (by rw [pk_rem (by omega) (by decide) (by decide)]) ?_
      refine Z.iaddN B dX12_showsBy_149 (a := c * 6) (b := pa % 3) ?_
      refine Z.iald (σ := σ) B dX12_showsBy_150 (n := 48) (hl.n (k := 47) (by decide)) (hl.k (k := 47) (by decide)) (hl.l (k := 47) (by decide)) (by decide) (j := (c * 6) + (pa % 3)) rfl (by have := Nat.mod_lt pa (show 0 < 3 by decide); omega) (v := (zX σ 47 ((c * 6) + (pa % 3)))) rfl ?_
      refine Z.imul B dX12_showsBy_151 ?_
      refine Z.iret B Rt dX12_showsBy_152 (ty := .int) rfl rfl (by decide) (by decide) ?_
      exact ⟨by rw [shW_3, cn_ne (by omega)], rfl⟩
    · skip
      refine Z.tabIn B dX12_showsBy_60 (by decide) (by decide) (off := 93) (by decide) (tgt := 153) rfl ?_
      refine Z.aload_n B dX12_showsBy_153 (v := .ref 45) rfl rfl ?_
      refine Z.iload_n B dX12_showsBy_154 (x := nI c) rfl ?_
      refine Z.callVI (σ := σ) B (M' := mX12_sumOf) (as := [.int (nI c)]) (st := []) (v := .int (cn (zX σ 47) c 6)) dX12_showsBy_155 wX12_sumOf iX12_sumOf sX12_sumOf kX12_101 (hl.n (k := 45) (by decide)) (hl.k (k := 45) (by decide)) (by decide) rfl rfl (t_X12_sumOf (σ := σ) H (c := c) (by omega)) rfl rfl (by decide) (by decide) (Nat.le_of_ble_eq_true rfl) (by decide) (by decide) ?_
      refine Z.aload_n B dX12_showsBy_158 (v := .ref 45) rfl rfl ?_
      refine Z.getR (σ := σ) B fX12_38_12 dX12_showsBy_159 (hl.n (k := 45) (by decide)) (hl.k (k := 45) (by decide)) (by decide) (j := 53) (hl.r (k := 45) (f := 12) (by decide) (by decide)) ?_
      refine Z.iload_n B dX12_showsBy_162 (x := nI w) rfl ?_
      refine Z.iald (σ := σ) B dX12_showsBy_163 (n := 8) (hl.n (k := 53) (by decide)) (hl.k (k := 53) (by decide)) (hl.l (k := 53) (by decide)) (by decide) (j := w) rfl (by omega) (v := nI pa) hp ?_
      refine Z.icmp_ge B dX12_showsBy_164 (tgt := 173) rfl (fun h164 => ?_) (fun h164 => ?_)
      · skip
        refine Z.sipush B dX12_showsBy_173 (v := nI 270) rfl ?_
        refine Z.iret B Rt dX12_showsBy_176 (ty := .int) rfl rfl (by decide) (by decide) ?_
        rw [shW_4]
        first | exact ⟨zip (by rw [zlt_iff]; rw [zle_iff] at h164; omega), rfl⟩ | exact ⟨zin (by rw [zlt_iff]; rw [zle_iff] at h164; omega), rfl⟩
      · skip
        refine Z.sipush B dX12_showsBy_167 (v := nI 260) rfl ?_
        refine Z.goto B dX12_showsBy_170 (tgt := 176) rfl ?_
        refine Z.iret B Rt dX12_showsBy_176 (ty := .int) rfl rfl (by decide) (by decide) ?_
        rw [shW_4]
        first | exact ⟨zip (by rw [zlt_iff]; rw [zle_iff] at h164; omega), rfl⟩ | exact ⟨zin (by rw [zlt_iff]; rw [zle_iff] at h164; omega), rfl⟩
    · skip
      refine Z.tabIn B dX12_showsBy_60 (by decide) (by decide) (off := 117) (by decide) (tgt := 177) rfl ?_
      refine Z.bipush B dX12_showsBy_177 (v := nI 30) rfl ?_
      refine Z.aload_n B dX12_showsBy_179 (v := .ref 45) rfl rfl ?_
      refine Z.getR (σ := σ) B fX12_20_12 dX12_showsBy_180 (hl.n (k := 45) (by decide)) (hl.k (k := 45) (by decide)) (by decide) (j := 47) (hl.r (k := 45) (f := 6) (by decide) (by decide)) ?_
      refine Z.bipush B dX12_showsBy_183 (v := nI 6) rfl ?_
      refine Z.iload_n B dX12_showsBy_185 (x := nI c) rfl ?_
      refine Z.imulNc B dX12_showsBy_186 (a := 6) (b := c) ?_
      refine Z.iconst B dX12_showsBy_187 (v := nI 5) rfl ?_
      refine Z.iaddN B dX12_showsBy_188 (a := c * 6) (b := 5) ?_
      refine Z.iald (σ := σ) B dX12_showsBy_189 (n := 48) (hl.n (k := 47) (by decide)) (hl.k (k := 47) (by decide)) (hl.l (k := 47) (by decide)) (by decide) (j := (c * 6) + 5) rfl (by omega) (v := (zX σ 47 ((c * 6) + 5))) rfl ?_
      refine Z.imul B dX12_showsBy_190 ?_
      refine Z.iload B dX12_showsBy_191 (x := bo (zX σ 47) (zX σ 48) (zX σ 49) b c) rfl ?_
      refine Z.iadd B dX12_showsBy_193 ?_
      refine Z.iret B Rt dX12_showsBy_194 (ty := .int) rfl rfl (by decide) (by decide) ?_
      exact ⟨by rw [shW_5, cn_ne (by decide)], rfl⟩
    · skip
      refine Z.tabIn B dX12_showsBy_60 (by decide) (by decide) (off := 135) (by decide) (tgt := 195) rfl ?_
      refine Z.bipush B dX12_showsBy_195 (v := nI 30) rfl ?_
      refine Z.aload_n B dX12_showsBy_197 (v := .ref 45) rfl rfl ?_
      refine Z.getR (σ := σ) B fX12_20_12 dX12_showsBy_198 (hl.n (k := 45) (by decide)) (hl.k (k := 45) (by decide)) (by decide) (j := 47) (hl.r (k := 45) (f := 6) (by decide) (by decide)) ?_
      refine Z.bipush B dX12_showsBy_201 (v := nI 6) rfl ?_
      refine Z.iload_n B dX12_showsBy_203 (x := nI c) rfl ?_
      refine Z.imulNc B dX12_showsBy_204 (a := 6) (b := c) ?_
      refine Z.iconst B dX12_showsBy_205 (v := nI 5) rfl ?_
      refine Z.iaddN B dX12_showsBy_206 (a := c * 6) (b := 5) ?_
      refine Z.iald (σ := σ) B dX12_showsBy_207 (n := 48) (hl.n (k := 47) (by decide)) (hl.k (k := 47) (by decide)) (hl.l (k := 47) (by decide)) (by decide) (j := (c * 6) + 5) rfl (by omega) (v := (zX σ 47 ((c * 6) + 5))) rfl ?_
      refine Z.imul B dX12_showsBy_208 ?_
      refine Z.iret B Rt dX12_showsBy_209 (ty := .int) rfl rfl (by decide) (by decide) ?_
      exact ⟨by rw [shW_6, cn_ne (by decide)], rfl⟩

theorem t_X12_saidBy_s {σ : zSt} {n a y : Nat} (H : zMd σ n a y) {od : Nat → Nat} (ho : zMo σ a od) {w kd pa : Nat} (hw : zMy σ w kd pa) {b c : Nat} (hb : b < a) (hc : c < n) : Dt mX12_saidBy [.ref 45, .int (nI w), .int (zb true), .int (nI b), .int (nI c)] σ (some (.int (shW (zX σ 47) (zX σ 48) (zX σ 49) kd pa b c))) σ := by
  obtain ⟨hl, hn, hn8, ha, ha4, hy, hy8⟩ := id H
  refine Dt.of (by decide) (Nat.le_of_ble_eq_true rfl) fun κ B Rt => ?_
  show Z κ 0 0 σ 0 [(0, .ref 45), (1, .int (nI w)), (2, .int (zb true)), (3, .int (nI b)), (4, .int (nI c))] []
  have hw8 := hw.2.2.2.2
  refine Z.iload_n B dX12_saidBy_0 (x := zb true) rfl ?_
  refine Z.if_eqB B dX12_saidBy_1 (tgt := 13) rfl (fun h1 => by cases h1) (fun h1 => ?_)
  refine Z.aload_n B dX12_saidBy_4 (v := .ref 45) rfl rfl ?_
  refine Z.iload_n B dX12_saidBy_5 (x := nI w) rfl ?_
  refine Z.iload_n B dX12_saidBy_6 (x := nI b) rfl ?_
  refine Z.iload B dX12_saidBy_7 (x := nI c) rfl ?_
  refine Z.callVI (σ := σ) B (M' := mX12_showsBy) (as := [.int (nI w), .int (nI b), .int (nI c)]) (st := []) (v := .int (shW (zX σ 47) (zX σ 48) (zX σ 49) kd pa b c)) dX12_saidBy_9 wX12_showsBy iX12_showsBy sX12_showsBy kX12_186 (hl.n (k := 45) (by decide)) (hl.k (k := 45) (by decide)) (by decide) rfl rfl (t_X12_showsBy (σ := σ) H hw hb hc) rfl rfl (by decide) (by decide) (Nat.le_of_ble_eq_true rfl) (by decide) (by decide) ?_
  refine Z.iret B Rt dX12_saidBy_12 (ty := .int) rfl rfl (by decide) (by decide) ?_
  exact ⟨rfl, rfl⟩

theorem t_X12_saidBy_f {σ : zSt} {n a y : Nat} (H : zMd σ n a y) {od : Nat → Nat} (ho : zMo σ a od) {w kd pa : Nat} (hw : zMy σ w kd pa) {b c p : Nat} (hp : p < a) (hx : od p = b) (hmin : ∀ j, j < p → od j ≠ b) (hc : c < n) : Dt mX12_saidBy [.ref 45, .int (nI w), .int (zb false), .int (nI b), .int (nI c)] σ (some (.int (msd (dd (zX σ 50) od) (ss (zX σ 47) (zX σ 48) (zX σ 49) kd pa od c) (p + 1)))) σ := by
  obtain ⟨hl, hn, hn8, ha, ha4, hy, hy8⟩ := id H
  refine Dt.of (by decide) (Nat.le_of_ble_eq_true rfl) fun κ B Rt => ?_
  show Z κ 0 0 σ 0 [(0, .ref 45), (1, .int (nI w)), (2, .int (zb false)), (3, .int (nI b)), (4, .int (nI c))] []
  have hx4 : b < a := hx ▸ (ho p hp).2
  have hw8 := hw.2.2.2.2
  refine Z.iload_n B dX12_saidBy_0 (x := zb false) rfl ?_
  refine Z.if_eqB B dX12_saidBy_1 (tgt := 13) rfl (fun h1 => ?_) (fun h1 => by cases h1)
  refine Z.iconst B dX12_saidBy_13 (v := nI 0) rfl ?_
  refine Z.istore B dX12_saidBy_14 (by decide) (L' := [(0, .ref 45), (1, .int (nI w)), (2, .int (zb false)), (3, .int (nI b)), (4, .int (nI c)), (5, .int (nI 0))]) rfl ?_
  refine Z.iconst B dX12_saidBy_16 (v := nI 0) rfl ?_
  refine Z.istore B dX12_saidBy_17 (by decide) (L' := [(0, .ref 45), (1, .int (nI w)), (2, .int (zb false)), (3, .int (nI b)), (4, .int (nI c)), (5, .int (nI 0)), (6, .int (nI 0))]) rfl ?_
  have hloop19 : ∀ i : Nat, i ≤ p → Z κ 0 0 σ 19 [(0, .ref 45), (1, .int (nI w)), (2, .int (zb false)), (3, .int (nI b)), (4, .int (nI c)), (5, .int (msd (dd (zX σ 50) od) (ss (zX σ 47) (zX σ 48) (zX σ 49) kd pa od c) i)), (6, .int (nI i))] [] := by
    refine z_loop (fun i => p - i) (fun i ih hi => ?_)
    refine Z.iload B dX12_saidBy_19 (x := nI i) rfl ?_
    refine Z.aload_n B dX12_saidBy_21 (v := .ref 45) rfl rfl ?_
    refine Z.getI (σ := σ) B fX12_84_12 dX12_saidBy_22 (hl.n (k := 45) (by decide)) (hl.k (k := 45) (by decide)) (by decide) (v := nI a) ha ?_
    refine Z.icmp_geN B dX12_saidBy_25 (tgt := 102) rfl (by omega) (by omega) (fun h25 => by exfalso; first | omega | contradiction | simp_all) (fun h25 => ?_)
    refine Z.aload_n B dX12_saidBy_28 (v := .ref 45) rfl rfl ?_
    refine Z.getR (σ := σ) B fX12_32_12 dX12_saidBy_29 (hl.n (k := 45) (by decide)) (hl.k (k := 45) (by decide)) (by decide) (j := 51) (hl.r (k := 45) (f := 10) (by decide) (by decide)) ?_
    refine Z.iload B dX12_saidBy_32 (x := nI i) rfl ?_
    refine Z.iald (σ := σ) B dX12_saidBy_34 (n := 4) (hl.n (k := 51) (by decide)) (hl.k (k := 51) (by decide)) (hl.l (k := 51) (by decide)) (by decide) (j := i) rfl (by omega) (v := nI (od i)) (ho i (by omega)).1 ?_
    have ho2 := (ho i (by omega)).2
    refine Z.istore B dX12_saidBy_35 (by decide) (L' := [(0, .ref 45), (1, .int (nI w)), (2, .int (zb false)), (3, .int (nI b)), (4, .int (nI c)), (5, .int (msd (dd (zX σ 50) od) (ss (zX σ 47) (zX σ 48) (zX σ 49) kd pa od c) i)), (6, .int (nI i)), (7, .int (nI (od i)))]) rfl ?_
    refine Z.aload_n B dX12_saidBy_37 (v := .ref 45) rfl rfl ?_
    refine Z.iload_n B dX12_saidBy_38 (x := nI w) rfl ?_
    refine Z.iload B dX12_saidBy_39 (x := nI (od i)) rfl ?_
    refine Z.iload B dX12_saidBy_41 (x := nI c) rfl ?_
    refine Z.callVI (σ := σ) B (M' := mX12_showsBy) (as := [.int (nI w), .int (nI (od i)), .int (nI c)]) (st := []) (v := .int (shW (zX σ 47) (zX σ 48) (zX σ 49) kd pa (od i) c)) dX12_saidBy_43 wX12_showsBy iX12_showsBy sX12_showsBy kX12_186 (hl.n (k := 45) (by decide)) (hl.k (k := 45) (by decide)) (by decide) rfl rfl (t_X12_showsBy (σ := σ) H hw ho2 hc) rfl rfl (by decide) (by decide) (Nat.le_of_ble_eq_true rfl) (by decide) (by decide) ?_
    refine Z.istore B dX12_saidBy_46 (by decide) (L' := [(0, .ref 45), (1, .int (nI w)), (2, .int (zb false)), (3, .int (nI b)), (4, .int (nI c)), (5, .int (msd (dd (zX σ 50) od) (ss (zX σ 47) (zX σ 48) (zX σ 49) kd pa od c) i)), (6, .int (nI i)), (7, .int (nI (od i))), (8, .int (shW (zX σ 47) (zX σ 48) (zX σ 49) kd pa (od i) c))]) rfl ?_
    refine Z.iload B dX12_saidBy_48 (x := nI i) rfl ?_
    refine Z.if_neN B dX12_saidBy_50 (tgt := 58) rfl (by omega) (fun h50 => ?_) (fun h50 => ?_)
    · skip
      refine Z.bipush B dX12_saidBy_58 (v := nI 10) rfl ?_
      refine Z.aload_n B dX12_saidBy_60 (v := .ref 45) rfl rfl ?_
      refine Z.getR (σ := σ) B fX12_29_12 dX12_saidBy_61 (hl.n (k := 45) (by decide)) (hl.k (k := 45) (by decide)) (by decide) (j := 50) (hl.r (k := 45) (f := 9) (by decide) (by decide)) ?_
      refine Z.iload B dX12_saidBy_64 (x := nI (od i)) rfl ?_
      refine Z.iald (σ := σ) B dX12_saidBy_66 (n := 4) (hl.n (k := 50) (by decide)) (hl.k (k := 50) (by decide)) (hl.l (k := 50) (by decide)) (by decide) (j := od i) rfl (by omega) (v := (dd (zX σ 50) od) i) rfl ?_
      refine Z.isub B dX12_saidBy_67 ?_
      refine Z.iload B dX12_saidBy_68 (x := shW (zX σ 47) (zX σ 48) (zX σ 49) kd pa (od i) c) rfl ?_
      refine Z.imul B dX12_saidBy_70 ?_
      refine Z.aload_n B dX12_saidBy_71 (v := .ref 45) rfl rfl ?_
      refine Z.getR (σ := σ) B fX12_29_12 dX12_saidBy_72 (hl.n (k := 45) (by decide)) (hl.k (k := 45) (by decide)) (by decide) (j := 50) (hl.r (k := 45) (f := 9) (by decide) (by decide)) ?_
      refine Z.iload B dX12_saidBy_75 (x := nI (od i)) rfl ?_
      refine Z.iald (σ := σ) B dX12_saidBy_77 (n := 4) (hl.n (k := 50) (by decide)) (hl.k (k := 50) (by decide)) (hl.l (k := 50) (by decide)) (by decide) (j := od i) rfl (by omega) (v := (dd (zX σ 50) od) i) rfl ?_
      refine Z.iload B dX12_saidBy_78 (x := msd (dd (zX σ 50) od) (ss (zX σ 47) (zX σ 48) (zX σ 49) kd pa od c) i) rfl ?_
      refine Z.imul B dX12_saidBy_80 ?_
      refine Z.iadd B dX12_saidBy_81 ?_
      refine Z.bipush B dX12_saidBy_82 (v := nI 10) rfl ?_
      refine Z.idiv B dX12_saidBy_84 (by decide) ?_
      refine Z.eqS (st' := [.int (msd (dd (zX σ 50) od) (ss (zX σ 47) (zX σ 48) (zX σ 49) kd pa od c) (i + 1))]) (by rw [msd_s]; first | (rw [if_pos h50]; rfl) | (rw [if_neg h50]; rfl)) ?_
      refine Z.istore B dX12_saidBy_85 (by decide) (L' := [(0, .ref 45), (1, .int (nI w)), (2, .int (zb false)), (3, .int (nI b)), (4, .int (nI c)), (5, .int (msd (dd (zX σ 50) od) (ss (zX σ 47) (zX σ 48) (zX σ 49) kd pa od c) (i + 1))), (6, .int (nI i)), (7, .int (nI (od i))), (8, .int (shW (zX σ 47) (zX σ 48) (zX σ 49) kd pa (od i) c))]) rfl ?_
      refine Z.iload B dX12_saidBy_87 (x := nI (od i)) rfl ?_
      refine Z.iload_n B dX12_saidBy_89 (x := nI b) rfl ?_
      refine Z.icmp_neN B dX12_saidBy_90 (tgt := 96) rfl (by omega) (by omega) (fun h90 => ?_) (fun h90 => ?_)
      · skip
        have hne : i ≠ p := fun e => h90 (by rw [e]; exact hx)
        refine Z.iincN B dX12_saidBy_96 (by decide) (a := i) rfl (L' := [(0, .ref 45), (1, .int (nI w)), (2, .int (zb false)), (3, .int (nI b)), (4, .int (nI c)), (5, .int (msd (dd (zX σ 50) od) (ss (zX σ 47) (zX σ 48) (zX σ 49) kd pa od c) (i + 1))), (6, .int (nI (i + 1))), (7, .int (nI (od i))), (8, .int (shW (zX σ 47) (zX σ 48) (zX σ 49) kd pa (od i) c))]) rfl ?_
        refine Z.goto B dX12_saidBy_99 (tgt := 19) rfl ?_
        refine Z.drop 7 (L' := [(0, .ref 45), (1, .int (nI w)), (2, .int (zb false)), (3, .int (nI b)), (4, .int (nI c)), (5, .int (msd (dd (zX σ 50) od) (ss (zX σ 47) (zX σ 48) (zX σ 49) kd pa od c) (i + 1))), (6, .int (nI (i + 1))), (8, .int (shW (zX σ 47) (zX σ 48) (zX σ 49) kd pa (od i) c))]) rfl ?_
        refine Z.drop 8 (L' := [(0, .ref 45), (1, .int (nI w)), (2, .int (zb false)), (3, .int (nI b)), (4, .int (nI c)), (5, .int (msd (dd (zX σ 50) od) (ss (zX σ 47) (zX σ 48) (zX σ 49) kd pa od c) (i + 1))), (6, .int (nI (i + 1)))]) rfl ?_
        exact ih (i + 1) (by omega) (by have := hmin i; omega)
      · skip
        obtain rfl : i = p := Nat.le_antisymm hi (Nat.le_of_not_lt fun h => hmin i h h90)
        refine Z.iload B dX12_saidBy_93 (x := (msd (dd (zX σ 50) od) (ss (zX σ 47) (zX σ 48) (zX σ 49) kd pa od c) (i + 1))) rfl ?_
        refine Z.iret B Rt dX12_saidBy_95 (ty := .int) rfl rfl (by decide) (by decide) ?_
        exact ⟨rfl, rfl⟩
    · skip
      refine Z.iload B dX12_saidBy_53 (x := shW (zX σ 47) (zX σ 48) (zX σ 49) kd pa (od i) c) rfl ?_
      refine Z.goto B dX12_saidBy_55 (tgt := 85) rfl ?_
      refine Z.eqS (st' := [.int (msd (dd (zX σ 50) od) (ss (zX σ 47) (zX σ 48) (zX σ 49) kd pa od c) (i + 1))]) (by rw [msd_s]; first | (rw [if_pos h50]; rfl) | (rw [if_neg h50]; rfl)) ?_
      refine Z.istore B dX12_saidBy_85 (by decide) (L' := [(0, .ref 45), (1, .int (nI w)), (2, .int (zb false)), (3, .int (nI b)), (4, .int (nI c)), (5, .int (msd (dd (zX σ 50) od) (ss (zX σ 47) (zX σ 48) (zX σ 49) kd pa od c) (i + 1))), (6, .int (nI i)), (7, .int (nI (od i))), (8, .int (shW (zX σ 47) (zX σ 48) (zX σ 49) kd pa (od i) c))]) rfl ?_
      refine Z.iload B dX12_saidBy_87 (x := nI (od i)) rfl ?_
      refine Z.iload_n B dX12_saidBy_89 (x := nI b) rfl ?_
      refine Z.icmp_neN B dX12_saidBy_90 (tgt := 96) rfl (by omega) (by omega) (fun h90 => ?_) (fun h90 => ?_)
      · skip
        have hne : i ≠ p := fun e => h90 (by rw [e]; exact hx)
        refine Z.iincN B dX12_saidBy_96 (by decide) (a := i) rfl (L' := [(0, .ref 45), (1, .int (nI w)), (2, .int (zb false)), (3, .int (nI b)), (4, .int (nI c)), (5, .int (msd (dd (zX σ 50) od) (ss (zX σ 47) (zX σ 48) (zX σ 49) kd pa od c) (i + 1))), (6, .int (nI (i + 1))), (7, .int (nI (od i))), (8, .int (shW (zX σ 47) (zX σ 48) (zX σ 49) kd pa (od i) c))]) rfl ?_
        refine Z.goto B dX12_saidBy_99 (tgt := 19) rfl ?_
        refine Z.drop 7 (L' := [(0, .ref 45), (1, .int (nI w)), (2, .int (zb false)), (3, .int (nI b)), (4, .int (nI c)), (5, .int (msd (dd (zX σ 50) od) (ss (zX σ 47) (zX σ 48) (zX σ 49) kd pa od c) (i + 1))), (6, .int (nI (i + 1))), (8, .int (shW (zX σ 47) (zX σ 48) (zX σ 49) kd pa (od i) c))]) rfl ?_
        refine Z.drop 8 (L' := [(0, .ref 45), (1, .int (nI w)), (2, .int (zb false)), (3, .int (nI b)), (4, .int (nI c)), (5, .int (msd (dd (zX σ 50) od) (ss (zX σ 47) (zX σ 48) (zX σ 49) kd pa od c) (i + 1))), (6, .int (nI (i + 1)))]) rfl ?_
        exact ih (i + 1) (by omega) (by have := hmin i; omega)
      · skip
        obtain rfl : i = p := Nat.le_antisymm hi (Nat.le_of_not_lt fun h => hmin i h h90)
        refine Z.iload B dX12_saidBy_93 (x := (msd (dd (zX σ 50) od) (ss (zX σ 47) (zX σ 48) (zX σ 49) kd pa od c) (i + 1))) rfl ?_
        refine Z.iret B Rt dX12_saidBy_95 (ty := .int) rfl rfl (by decide) (by decide) ?_
        exact ⟨rfl, rfl⟩
  exact hloop19 0 (Nat.zero_le _)

theorem t_X12_saidBy {σ : zSt} {n a y : Nat} (H : zMd σ n a y) {od : Nat → Nat} (ho : zMo σ a od) {pos : Nat → Nat} (hpo : zPo a od pos) {w kd pa : Nat} (hw : zMy σ w kd pa) {sl : Bool} {b c : Nat} (hb : b < a) (hc : c < n) : Dt mX12_saidBy [.ref 45, .int (nI w), .int (zb sl), .int (nI b), .int (nI c)] σ (some (.int (msv (zX σ 47) (zX σ 48) (zX σ 49) (zX σ 50) sl kd pa od pos b c))) σ := by
  cases sl with
  | true =>
    have e : msv (zX σ 47) (zX σ 48) (zX σ 49) (zX σ 50) true kd pa od pos b c = shW (zX σ 47) (zX σ 48) (zX σ 49) kd pa b c := if_pos rfl
    rw [e]
    exact t_X12_saidBy_s H ho hw hb hc
  | false =>
    have e : msv (zX σ 47) (zX σ 48) (zX σ 49) (zX σ 50) false kd pa od pos b c = msd (dd (zX σ 50) od) (ss (zX σ 47) (zX σ 48) (zX σ 49) kd pa od c) (pos b + 1) := if_neg (by decide)
    rw [e]
    exact t_X12_saidBy_f H ho hw (hpo b hb).1 (hpo b hb).2.1 (hpo b hb).2.2 hc

theorem t_X12_totalBy {σ : zSt} {n a y : Nat} (H : zMd σ n a y) {od : Nat → Nat} (ho : zMo σ a od) {pos : Nat → Nat} (hpo : zPo a od pos) {w kd pa : Nat} (hw : zMy σ w kd pa) {sl : Bool} {c : Nat} (hg : zX σ 45 28 = (-1)) (hc : c < n) : Dt mX12_totalBy [.ref 45, .int (nI w), .int (zb sl), .int (nI c)] σ (some (.int (sm (fun b => msv (zX σ 47) (zX σ 48) (zX σ 49) (zX σ 50) sl kd pa od pos b c) a))) σ := by
  obtain ⟨hl, hn, hn8, ha, ha4, hy, hy8⟩ := id H
  refine Dt.of (by decide) (Nat.le_of_ble_eq_true rfl) fun κ B Rt => ?_
  show Z κ 0 0 σ 0 [(0, .ref 45), (1, .int (nI w)), (2, .int (zb sl)), (3, .int (nI c))] []
  have hw8 := hw.2.2.2.2
  refine Z.iconst B dX12_totalBy_0 (v := nI 0) rfl ?_
  refine Z.istore B dX12_totalBy_1 (by decide) (L' := [(0, .ref 45), (1, .int (nI w)), (2, .int (zb sl)), (3, .int (nI c)), (4, .int (nI 0))]) rfl ?_
  refine Z.iconst B dX12_totalBy_3 (v := nI 0) rfl ?_
  refine Z.istore B dX12_totalBy_4 (by decide) (L' := [(0, .ref 45), (1, .int (nI w)), (2, .int (zb sl)), (3, .int (nI c)), (4, .int (nI 0)), (5, .int (nI 0))]) rfl ?_
  have hloop6 : ∀ i : Nat, i ≤ a → Z κ 0 0 σ 6 [(0, .ref 45), (1, .int (nI w)), (2, .int (zb sl)), (3, .int (nI c)), (4, .int (sm (fun b => msv (zX σ 47) (zX σ 48) (zX σ 49) (zX σ 50) sl kd pa od pos b c) i)), (5, .int (nI i))] [] := by
    refine z_loop (fun i => a - i) (fun i ih hi => ?_)
    refine Z.iload B dX12_totalBy_6 (x := nI i) rfl ?_
    refine Z.aload_n B dX12_totalBy_8 (v := .ref 45) rfl rfl ?_
    refine Z.getI (σ := σ) B fX12_84_12 dX12_totalBy_9 (hl.n (k := 45) (by decide)) (hl.k (k := 45) (by decide)) (by decide) (v := nI a) ha ?_
    refine Z.icmp_geN B dX12_totalBy_12 (tgt := 44) rfl (by omega) (by omega) (fun h12 => ?_) (fun h12 => ?_)
    · skip
      obtain rfl : a = i := by omega
      refine Z.iload B dX12_totalBy_44 (x := sm (fun b => msv (zX σ 47) (zX σ 48) (zX σ 49) (zX σ 50) sl kd pa od pos b c) a) rfl ?_
      refine Z.iret B Rt dX12_totalBy_46 (ty := .int) rfl rfl (by decide) (by decide) ?_
      exact ⟨rfl, rfl⟩
    · skip
      refine Z.iload B dX12_totalBy_15 (x := nI i) rfl ?_
      refine Z.aload_n B dX12_totalBy_17 (v := .ref 45) rfl rfl ?_
      refine Z.getI (σ := σ) B fX12_72_12 dX12_totalBy_18 (hl.n (k := 45) (by decide)) (hl.k (k := 45) (by decide)) (by decide) (v := (-1)) hg ?_
      refine Z.icmp_eq B dX12_totalBy_21 (tgt := 38) rfl (fun h21 => absurd h21 (zm1 (by omega))) (fun h21 => ?_)
      refine Z.iload B dX12_totalBy_24 (x := sm (fun b => msv (zX σ 47) (zX σ 48) (zX σ 49) (zX σ 50) sl kd pa od pos b c) i) rfl ?_
      refine Z.aload_n B dX12_totalBy_26 (v := .ref 45) rfl rfl ?_
      refine Z.iload_n B dX12_totalBy_27 (x := nI w) rfl ?_
      refine Z.iload_n B dX12_totalBy_28 (x := zb sl) rfl ?_
      refine Z.iload B dX12_totalBy_29 (x := nI i) rfl ?_
      refine Z.iload_n B dX12_totalBy_31 (x := nI c) rfl ?_
      refine Z.callVI (σ := σ) B (M' := mX12_saidBy) (as := [.int (nI w), .int (zb sl), .int (nI i), .int (nI c)]) (st := [.int (sm (fun b => msv (zX σ 47) (zX σ 48) (zX σ 49) (zX σ 50) sl kd pa od pos b c) i)]) (v := .int (msv (zX σ 47) (zX σ 48) (zX σ 49) (zX σ 50) sl kd pa od pos i c)) dX12_totalBy_32 wX12_saidBy iX12_saidBy sX12_saidBy kX12_189 (hl.n (k := 45) (by decide)) (hl.k (k := 45) (by decide)) (by decide) rfl rfl (t_X12_saidBy (σ := σ) H ho hpo hw (b := i) (by omega) hc) rfl rfl (by decide) (by decide) (Nat.le_of_ble_eq_true rfl) (by decide) (by decide) ?_
      refine Z.iadd B dX12_totalBy_35 ?_
      refine Z.istore B dX12_totalBy_36 (by decide) (L' := [(0, .ref 45), (1, .int (nI w)), (2, .int (zb sl)), (3, .int (nI c)), (4, .int ((sm (fun b => msv (zX σ 47) (zX σ 48) (zX σ 49) (zX σ 50) sl kd pa od pos b c) i) + (msv (zX σ 47) (zX σ 48) (zX σ 49) (zX σ 50) sl kd pa od pos i c))), (5, .int (nI i))]) rfl ?_
      refine Z.iincN B dX12_totalBy_38 (by decide) (a := i) rfl (L' := [(0, .ref 45), (1, .int (nI w)), (2, .int (zb sl)), (3, .int (nI c)), (4, .int ((sm (fun b => msv (zX σ 47) (zX σ 48) (zX σ 49) (zX σ 50) sl kd pa od pos b c) i) + (msv (zX σ 47) (zX σ 48) (zX σ 49) (zX σ 50) sl kd pa od pos i c))), (5, .int (nI (i + 1)))]) rfl ?_
      refine Z.goto B dX12_totalBy_41 (tgt := 6) rfl ?_
      exact ih (i + 1) (by omega) (by omega)
  exact hloop6 0 (Nat.zero_le _)

theorem t_X12_totalBy_g {σ : zSt} {n a y : Nat} (H : zMd σ n a y) {od : Nat → Nat} (ho : zMo σ a od) {pos : Nat → Nat} (hpo : zPo a od pos) {w kd pa : Nat} (hw : zMy σ w kd pa) {c g : Nat} (hg : zX σ 45 28 = nI g) (hga : g < a) (hc : c < n) : Dt mX12_totalBy [.ref 45, .int (nI w), .int (zb true), .int (nI c)] σ (some (.int (smg g (fun b => msv (zX σ 47) (zX σ 48) (zX σ 49) (zX σ 50) true kd pa od pos b c) a))) σ := by
  obtain ⟨hl, hn, hn8, ha, ha4, hy, hy8⟩ := id H
  refine Dt.of (by decide) (Nat.le_of_ble_eq_true rfl) fun κ B Rt => ?_
  show Z κ 0 0 σ 0 [(0, .ref 45), (1, .int (nI w)), (2, .int (zb true)), (3, .int (nI c))] []
  have hw8 := hw.2.2.2.2
  refine Z.iconst B dX12_totalBy_0 (v := nI 0) rfl ?_
  refine Z.istore B dX12_totalBy_1 (by decide) (L' := [(0, .ref 45), (1, .int (nI w)), (2, .int (zb true)), (3, .int (nI c)), (4, .int (nI 0))]) rfl ?_
  refine Z.iconst B dX12_totalBy_3 (v := nI 0) rfl ?_
  refine Z.istore B dX12_totalBy_4 (by decide) (L' := [(0, .ref 45), (1, .int (nI w)), (2, .int (zb true)), (3, .int (nI c)), (4, .int (nI 0)), (5, .int (nI 0))]) rfl ?_
  have hloop6 : ∀ i : Nat, i ≤ a → Z κ 0 0 σ 6 [(0, .ref 45), (1, .int (nI w)), (2, .int (zb true)), (3, .int (nI c)), (4, .int (smg g (fun b => msv (zX σ 47) (zX σ 48) (zX σ 49) (zX σ 50) true kd pa od pos b c) i)), (5, .int (nI i))] [] := by
    refine z_loop (fun i => a - i) (fun i ih hi => ?_)
    refine Z.iload B dX12_totalBy_6 (x := nI i) rfl ?_
    refine Z.aload_n B dX12_totalBy_8 (v := .ref 45) rfl rfl ?_
    refine Z.getI (σ := σ) B fX12_84_12 dX12_totalBy_9 (hl.n (k := 45) (by decide)) (hl.k (k := 45) (by decide)) (by decide) (v := nI a) ha ?_
    refine Z.icmp_geN B dX12_totalBy_12 (tgt := 44) rfl (by omega) (by omega) (fun h12 => ?_) (fun h12 => ?_)
    · skip
      obtain rfl : a = i := by omega
      refine Z.iload B dX12_totalBy_44 (x := smg g (fun b => msv (zX σ 47) (zX σ 48) (zX σ 49) (zX σ 50) true kd pa od pos b c) a) rfl ?_
      refine Z.iret B Rt dX12_totalBy_46 (ty := .int) rfl rfl (by decide) (by decide) ?_
      exact ⟨rfl, rfl⟩
    · skip
      refine Z.iload B dX12_totalBy_15 (x := nI i) rfl ?_
      refine Z.aload_n B dX12_totalBy_17 (v := .ref 45) rfl rfl ?_
      refine Z.getI (σ := σ) B fX12_72_12 dX12_totalBy_18 (hl.n (k := 45) (by decide)) (hl.k (k := 45) (by decide)) (by decide) (v := nI g) hg ?_
      refine Z.icmp_eqN B dX12_totalBy_21 (tgt := 38) rfl (by omega) (by omega) (fun h21 => ?_) (fun h21 => ?_)
      · skip
        refine Z.iincN B dX12_totalBy_38 (by decide) (a := i) rfl (L' := [(0, .ref 45), (1, .int (nI w)), (2, .int (zb true)), (3, .int (nI c)), (4, .int (smg g (fun b => msv (zX σ 47) (zX σ 48) (zX σ 49) (zX σ 50) true kd pa od pos b c) i)), (5, .int (nI (i + 1)))]) rfl ?_
        refine Z.goto B dX12_totalBy_41 (tgt := 6) rfl ?_
        have e := ih (i + 1) (by omega) (by omega)
        simp only [smg] at e
        first | (rw [if_pos h21] at e; exact e) | (rw [if_neg h21] at e; exact e)
      · skip
        refine Z.iload B dX12_totalBy_24 (x := smg g (fun b => msv (zX σ 47) (zX σ 48) (zX σ 49) (zX σ 50) true kd pa od pos b c) i) rfl ?_
        refine Z.aload_n B dX12_totalBy_26 (v := .ref 45) rfl rfl ?_
        refine Z.iload_n B dX12_totalBy_27 (x := nI w) rfl ?_
        refine Z.iload_n B dX12_totalBy_28 (x := zb true) rfl ?_
        refine Z.iload B dX12_totalBy_29 (x := nI i) rfl ?_
        refine Z.iload_n B dX12_totalBy_31 (x := nI c) rfl ?_
        refine Z.callVI (σ := σ) B (M' := mX12_saidBy) (as := [.int (nI w), .int (zb true), .int (nI i), .int (nI c)]) (st := [.int (smg g (fun b => msv (zX σ 47) (zX σ 48) (zX σ 49) (zX σ 50) true kd pa od pos b c) i)]) (v := .int (msv (zX σ 47) (zX σ 48) (zX σ 49) (zX σ 50) true kd pa od pos i c)) dX12_totalBy_32 wX12_saidBy iX12_saidBy sX12_saidBy kX12_189 (hl.n (k := 45) (by decide)) (hl.k (k := 45) (by decide)) (by decide) rfl rfl (t_X12_saidBy (σ := σ) H ho hpo hw (b := i) (by omega) hc) rfl rfl (by decide) (by decide) (Nat.le_of_ble_eq_true rfl) (by decide) (by decide) ?_
        refine Z.iadd B dX12_totalBy_35 ?_
        refine Z.istore B dX12_totalBy_36 (by decide) (L' := [(0, .ref 45), (1, .int (nI w)), (2, .int (zb true)), (3, .int (nI c)), (4, .int ((smg g (fun b => msv (zX σ 47) (zX σ 48) (zX σ 49) (zX σ 50) true kd pa od pos b c) i) + (msv (zX σ 47) (zX σ 48) (zX σ 49) (zX σ 50) true kd pa od pos i c))), (5, .int (nI i))]) rfl ?_
        refine Z.iincN B dX12_totalBy_38 (by decide) (a := i) rfl (L' := [(0, .ref 45), (1, .int (nI w)), (2, .int (zb true)), (3, .int (nI c)), (4, .int ((smg g (fun b => msv (zX σ 47) (zX σ 48) (zX σ 49) (zX σ 50) true kd pa od pos b c) i) + (msv (zX σ 47) (zX σ 48) (zX σ 49) (zX σ 50) true kd pa od pos i c))), (5, .int (nI (i + 1)))]) rfl ?_
        refine Z.goto B dX12_totalBy_41 (tgt := 6) rfl ?_
        have e := ih (i + 1) (by omega) (by omega)
        simp only [smg] at e
        first | (rw [if_pos h21] at e; exact e) | (rw [if_neg h21] at e; exact e)
  exact hloop6 0 (Nat.zero_le _)

theorem t_X12_takenBy {σ : zSt} {n a y : Nat} (H : zMd σ n a y) {od : Nat → Nat} (ho : zMo σ a od) {pos : Nat → Nat} (hpo : zPo a od pos) {w kd pa : Nat} (hw : zMy σ w kd pa) {sl : Bool} (hg : zX σ 45 28 = (-1)) : Dt mX12_takenBy [.ref 45, .int (nI w), .int (zb sl)] σ (some (.int (gI (mtf (zX σ 47) (zX σ 48) (zX σ 49) (zX σ 50) sl kd pa od pos a) n))) σ := by
  obtain ⟨hl, hn, hn8, ha, ha4, hy, hy8⟩ := id H
  refine Dt.of (by decide) (Nat.le_of_ble_eq_true rfl) fun κ B Rt => ?_
  show Z κ 0 0 σ 0 [(0, .ref 45), (1, .int (nI w)), (2, .int (zb sl))] []
  have hw8 := hw.2.2.2.2
  refine Z.iconst B dX12_takenBy_0 (v := (-1)) rfl ?_
  refine Z.istore_n B dX12_takenBy_1 (by decide) (L' := [(0, .ref 45), (1, .int (nI w)), (2, .int (zb sl)), (3, .int (-1))]) rfl ?_
  refine Z.iconst B dX12_takenBy_2 (v := nI 0) rfl ?_
  refine Z.istore B dX12_takenBy_3 (by decide) (L' := [(0, .ref 45), (1, .int (nI w)), (2, .int (zb sl)), (3, .int (-1)), (4, .int (nI 0))]) rfl ?_
  refine Z.iconst B dX12_takenBy_5 (v := nI 0) rfl ?_
  refine Z.istore B dX12_takenBy_6 (by decide) (L' := [(0, .ref 45), (1, .int (nI w)), (2, .int (zb sl)), (3, .int (-1)), (4, .int (nI 0)), (5, .int (nI 0))]) rfl ?_
  have hloop8 : ∀ i : Nat, i ≤ n → Z κ 0 0 σ 8 [(0, .ref 45), (1, .int (nI w)), (2, .int (zb sl)), (3, .int (gI (mtf (zX σ 47) (zX σ 48) (zX σ 49) (zX σ 50) sl kd pa od pos a) i)), (4, .int (gm (mtf (zX σ 47) (zX σ 48) (zX σ 49) (zX σ 50) sl kd pa od pos a) i)), (5, .int (nI i))] [] := by
    refine z_loop (fun i => n - i) (fun i ih hi => ?_)
    refine Z.iload B dX12_takenBy_8 (x := nI i) rfl ?_
    refine Z.aload_n B dX12_takenBy_10 (v := .ref 45) rfl rfl ?_
    refine Z.getI (σ := σ) B fX12_81_12 dX12_takenBy_11 (hl.n (k := 45) (by decide)) (hl.k (k := 45) (by decide)) (by decide) (v := nI n) hn ?_
    refine Z.icmp_geN B dX12_takenBy_14 (tgt := 55) rfl (by omega) (by omega) (fun h14 => ?_) (fun h14 => ?_)
    · skip
      obtain rfl : n = i := by omega
      refine Z.iload_n B dX12_takenBy_55 (x := gI (mtf (zX σ 47) (zX σ 48) (zX σ 49) (zX σ 50) sl kd pa od pos a) n) rfl ?_
      refine Z.iret B Rt dX12_takenBy_56 (ty := .int) rfl rfl (by decide) (by decide) ?_
      exact ⟨rfl, rfl⟩
    · skip
      refine Z.aload_n B dX12_takenBy_17 (v := .ref 45) rfl rfl ?_
      refine Z.iload_n B dX12_takenBy_18 (x := nI w) rfl ?_
      refine Z.iload_n B dX12_takenBy_19 (x := zb sl) rfl ?_
      refine Z.iload B dX12_takenBy_20 (x := nI i) rfl ?_
      refine Z.callVI (σ := σ) B (M' := mX12_totalBy) (as := [.int (nI w), .int (zb sl), .int (nI i)]) (st := []) (v := .int ((mtf (zX σ 47) (zX σ 48) (zX σ 49) (zX σ 50) sl kd pa od pos a) i)) dX12_takenBy_22 wX12_totalBy iX12_totalBy sX12_totalBy kX12_193 (hl.n (k := 45) (by decide)) (hl.k (k := 45) (by decide)) (by decide) rfl rfl (t_X12_totalBy (σ := σ) H ho hpo hw hg (c := i) (by omega)) rfl rfl (by decide) (by decide) (Nat.le_of_ble_eq_true rfl) (by decide) (by decide) ?_
      refine Z.istore B dX12_takenBy_25 (by decide) (L' := [(0, .ref 45), (1, .int (nI w)), (2, .int (zb sl)), (3, .int (gI (mtf (zX σ 47) (zX σ 48) (zX σ 49) (zX σ 50) sl kd pa od pos a) i)), (4, .int (gm (mtf (zX σ 47) (zX σ 48) (zX σ 49) (zX σ 50) sl kd pa od pos a) i)), (5, .int (nI i)), (6, .int ((mtf (zX σ 47) (zX σ 48) (zX σ 49) (zX σ 50) sl kd pa od pos a) i))]) rfl ?_
      refine Z.iload_n B dX12_takenBy_27 (x := gI (mtf (zX σ 47) (zX σ 48) (zX σ 49) (zX σ 50) sl kd pa od pos a) i) rfl ?_
      refine Z.iconst B dX12_takenBy_28 (v := (-1)) rfl ?_
      refine Z.icmp_eq B dX12_takenBy_29 (tgt := 42) rfl (fun h29 => ?_) (fun h29 => ?_)
      · skip
        refine Z.iload B dX12_takenBy_42 (x := nI i) rfl ?_
        refine Z.istore_n B dX12_takenBy_44 (by decide) (L' := [(0, .ref 45), (1, .int (nI w)), (2, .int (zb sl)), (3, .int (nI i)), (4, .int (gm (mtf (zX σ 47) (zX σ 48) (zX σ 49) (zX σ 50) sl kd pa od pos a) i)), (5, .int (nI i)), (6, .int ((mtf (zX σ 47) (zX σ 48) (zX σ 49) (zX σ 50) sl kd pa od pos a) i))]) rfl ?_
        refine Z.iload B dX12_takenBy_45 (x := ((mtf (zX σ 47) (zX σ 48) (zX σ 49) (zX σ 50) sl kd pa od pos a) i)) rfl ?_
        refine Z.istore B dX12_takenBy_47 (by decide) (L' := [(0, .ref 45), (1, .int (nI w)), (2, .int (zb sl)), (3, .int (nI i)), (4, .int ((mtf (zX σ 47) (zX σ 48) (zX σ 49) (zX σ 50) sl kd pa od pos a) i)), (5, .int (nI i)), (6, .int ((mtf (zX σ 47) (zX σ 48) (zX σ 49) (zX σ 50) sl kd pa od pos a) i))]) rfl ?_
        refine Z.iincN B dX12_takenBy_49 (by decide) (a := i) rfl (L' := [(0, .ref 45), (1, .int (nI w)), (2, .int (zb sl)), (3, .int (nI i)), (4, .int ((mtf (zX σ 47) (zX σ 48) (zX σ 49) (zX σ 50) sl kd pa od pos a) i)), (5, .int (nI (i + 1))), (6, .int ((mtf (zX σ 47) (zX σ 48) (zX σ 49) (zX σ 50) sl kd pa od pos a) i))]) rfl ?_
        refine Z.goto B dX12_takenBy_52 (tgt := 8) rfl ?_
        refine Z.drop 6 (L' := [(0, .ref 45), (1, .int (nI w)), (2, .int (zb sl)), (3, .int (nI i)), (4, .int ((mtf (zX σ 47) (zX σ 48) (zX σ 49) (zX σ 50) sl kd pa od pos a) i)), (5, .int (nI (i + 1)))]) rfl ?_
        have e := ih (i + 1) (by omega) (by omega)
        first | (rw [(gI_take (Or.inl h29) (by omega)).1, (gI_take (Or.inl h29) (by omega)).2] at e; exact e) | (rw [(gI_take (Or.inr h36) (by omega)).1, (gI_take (Or.inr h36) (by omega)).2] at e; exact e) | (rw [(gI_keep h29 (by rw [zle_iff]; rw [zlt_iff] at h36; omega)).1, (gI_keep h29 (by rw [zle_iff]; rw [zlt_iff] at h36; omega)).2] at e; exact e)
      · skip
        refine Z.iload B dX12_takenBy_32 (x := ((mtf (zX σ 47) (zX σ 48) (zX σ 49) (zX σ 50) sl kd pa od pos a) i)) rfl ?_
        refine Z.iload B dX12_takenBy_34 (x := gm (mtf (zX σ 47) (zX σ 48) (zX σ 49) (zX σ 50) sl kd pa od pos a) i) rfl ?_
        refine Z.icmp_gt B dX12_takenBy_36 (tgt := 42) rfl (fun h36 => ?_) (fun h36 => ?_)
        · skip
          refine Z.iload B dX12_takenBy_42 (x := nI i) rfl ?_
          refine Z.istore_n B dX12_takenBy_44 (by decide) (L' := [(0, .ref 45), (1, .int (nI w)), (2, .int (zb sl)), (3, .int (nI i)), (4, .int (gm (mtf (zX σ 47) (zX σ 48) (zX σ 49) (zX σ 50) sl kd pa od pos a) i)), (5, .int (nI i)), (6, .int ((mtf (zX σ 47) (zX σ 48) (zX σ 49) (zX σ 50) sl kd pa od pos a) i))]) rfl ?_
          refine Z.iload B dX12_takenBy_45 (x := ((mtf (zX σ 47) (zX σ 48) (zX σ 49) (zX σ 50) sl kd pa od pos a) i)) rfl ?_
          refine Z.istore B dX12_takenBy_47 (by decide) (L' := [(0, .ref 45), (1, .int (nI w)), (2, .int (zb sl)), (3, .int (nI i)), (4, .int ((mtf (zX σ 47) (zX σ 48) (zX σ 49) (zX σ 50) sl kd pa od pos a) i)), (5, .int (nI i)), (6, .int ((mtf (zX σ 47) (zX σ 48) (zX σ 49) (zX σ 50) sl kd pa od pos a) i))]) rfl ?_
          refine Z.iincN B dX12_takenBy_49 (by decide) (a := i) rfl (L' := [(0, .ref 45), (1, .int (nI w)), (2, .int (zb sl)), (3, .int (nI i)), (4, .int ((mtf (zX σ 47) (zX σ 48) (zX σ 49) (zX σ 50) sl kd pa od pos a) i)), (5, .int (nI (i + 1))), (6, .int ((mtf (zX σ 47) (zX σ 48) (zX σ 49) (zX σ 50) sl kd pa od pos a) i))]) rfl ?_
          refine Z.goto B dX12_takenBy_52 (tgt := 8) rfl ?_
          refine Z.drop 6 (L' := [(0, .ref 45), (1, .int (nI w)), (2, .int (zb sl)), (3, .int (nI i)), (4, .int ((mtf (zX σ 47) (zX σ 48) (zX σ 49) (zX σ 50) sl kd pa od pos a) i)), (5, .int (nI (i + 1)))]) rfl ?_
          have e := ih (i + 1) (by omega) (by omega)
          first | (rw [(gI_take (Or.inl h29) (by omega)).1, (gI_take (Or.inl h29) (by omega)).2] at e; exact e) | (rw [(gI_take (Or.inr h36) (by omega)).1, (gI_take (Or.inr h36) (by omega)).2] at e; exact e) | (rw [(gI_keep h29 (by rw [zle_iff]; rw [zlt_iff] at h36; omega)).1, (gI_keep h29 (by rw [zle_iff]; rw [zlt_iff] at h36; omega)).2] at e; exact e)
        · skip
          refine Z.goto B dX12_takenBy_39 (tgt := 49) rfl ?_
          refine Z.iincN B dX12_takenBy_49 (by decide) (a := i) rfl (L' := [(0, .ref 45), (1, .int (nI w)), (2, .int (zb sl)), (3, .int (gI (mtf (zX σ 47) (zX σ 48) (zX σ 49) (zX σ 50) sl kd pa od pos a) i)), (4, .int (gm (mtf (zX σ 47) (zX σ 48) (zX σ 49) (zX σ 50) sl kd pa od pos a) i)), (5, .int (nI (i + 1))), (6, .int ((mtf (zX σ 47) (zX σ 48) (zX σ 49) (zX σ 50) sl kd pa od pos a) i))]) rfl ?_
          refine Z.goto B dX12_takenBy_52 (tgt := 8) rfl ?_
          refine Z.drop 6 (L' := [(0, .ref 45), (1, .int (nI w)), (2, .int (zb sl)), (3, .int (gI (mtf (zX σ 47) (zX σ 48) (zX σ 49) (zX σ 50) sl kd pa od pos a) i)), (4, .int (gm (mtf (zX σ 47) (zX σ 48) (zX σ 49) (zX σ 50) sl kd pa od pos a) i)), (5, .int (nI (i + 1)))]) rfl ?_
          have e := ih (i + 1) (by omega) (by omega)
          first | (rw [(gI_take (Or.inl h29) (by omega)).1, (gI_take (Or.inl h29) (by omega)).2] at e; exact e) | (rw [(gI_take (Or.inr h36) (by omega)).1, (gI_take (Or.inr h36) (by omega)).2] at e; exact e) | (rw [(gI_keep h29 (by rw [zle_iff]; rw [zlt_iff] at h36; omega)).1, (gI_keep h29 (by rw [zle_iff]; rw [zlt_iff] at h36; omega)).2] at e; exact e)
  exact hloop8 0 (Nat.zero_le _)

theorem t_X12_takenBy_g {σ : zSt} {n a y : Nat} (H : zMd σ n a y) {od : Nat → Nat} (ho : zMo σ a od) {pos : Nat → Nat} (hpo : zPo a od pos) {w kd pa : Nat} (hw : zMy σ w kd pa) {g : Nat} (hg : zX σ 45 28 = nI g) (hga : g < a) : Dt mX12_takenBy [.ref 45, .int (nI w), .int (zb true)] σ (some (.int (gI (mtg (zX σ 47) (zX σ 48) (zX σ 49) (zX σ 50) kd pa od pos a g) n))) σ := by
  obtain ⟨hl, hn, hn8, ha, ha4, hy, hy8⟩ := id H
  refine Dt.of (by decide) (Nat.le_of_ble_eq_true rfl) fun κ B Rt => ?_
  show Z κ 0 0 σ 0 [(0, .ref 45), (1, .int (nI w)), (2, .int (zb true))] []
  have hw8 := hw.2.2.2.2
  refine Z.iconst B dX12_takenBy_0 (v := (-1)) rfl ?_
  refine Z.istore_n B dX12_takenBy_1 (by decide) (L' := [(0, .ref 45), (1, .int (nI w)), (2, .int (zb true)), (3, .int (-1))]) rfl ?_
  refine Z.iconst B dX12_takenBy_2 (v := nI 0) rfl ?_
  refine Z.istore B dX12_takenBy_3 (by decide) (L' := [(0, .ref 45), (1, .int (nI w)), (2, .int (zb true)), (3, .int (-1)), (4, .int (nI 0))]) rfl ?_
  refine Z.iconst B dX12_takenBy_5 (v := nI 0) rfl ?_
  refine Z.istore B dX12_takenBy_6 (by decide) (L' := [(0, .ref 45), (1, .int (nI w)), (2, .int (zb true)), (3, .int (-1)), (4, .int (nI 0)), (5, .int (nI 0))]) rfl ?_
  have hloop8 : ∀ i : Nat, i ≤ n → Z κ 0 0 σ 8 [(0, .ref 45), (1, .int (nI w)), (2, .int (zb true)), (3, .int (gI (mtg (zX σ 47) (zX σ 48) (zX σ 49) (zX σ 50) kd pa od pos a g) i)), (4, .int (gm (mtg (zX σ 47) (zX σ 48) (zX σ 49) (zX σ 50) kd pa od pos a g) i)), (5, .int (nI i))] [] := by
    refine z_loop (fun i => n - i) (fun i ih hi => ?_)
    refine Z.iload B dX12_takenBy_8 (x := nI i) rfl ?_
    refine Z.aload_n B dX12_takenBy_10 (v := .ref 45) rfl rfl ?_
    refine Z.getI (σ := σ) B fX12_81_12 dX12_takenBy_11 (hl.n (k := 45) (by decide)) (hl.k (k := 45) (by decide)) (by decide) (v := nI n) hn ?_
    refine Z.icmp_geN B dX12_takenBy_14 (tgt := 55) rfl (by omega) (by omega) (fun h14 => ?_) (fun h14 => ?_)
    · skip
      obtain rfl : n = i := by omega
      refine Z.iload_n B dX12_takenBy_55 (x := gI (mtg (zX σ 47) (zX σ 48) (zX σ 49) (zX σ 50) kd pa od pos a g) n) rfl ?_
      refine Z.iret B Rt dX12_takenBy_56 (ty := .int) rfl rfl (by decide) (by decide) ?_
      exact ⟨rfl, rfl⟩
    · skip
      refine Z.aload_n B dX12_takenBy_17 (v := .ref 45) rfl rfl ?_
      refine Z.iload_n B dX12_takenBy_18 (x := nI w) rfl ?_
      refine Z.iload_n B dX12_takenBy_19 (x := zb true) rfl ?_
      refine Z.iload B dX12_takenBy_20 (x := nI i) rfl ?_
      refine Z.callVI (σ := σ) B (M' := mX12_totalBy) (as := [.int (nI w), .int (zb true), .int (nI i)]) (st := []) (v := .int ((mtg (zX σ 47) (zX σ 48) (zX σ 49) (zX σ 50) kd pa od pos a g) i)) dX12_takenBy_22 wX12_totalBy iX12_totalBy sX12_totalBy kX12_193 (hl.n (k := 45) (by decide)) (hl.k (k := 45) (by decide)) (by decide) rfl rfl (t_X12_totalBy_g (σ := σ) H ho hpo hw hg hga (c := i) (by omega)) rfl rfl (by decide) (by decide) (Nat.le_of_ble_eq_true rfl) (by decide) (by decide) ?_
      refine Z.istore B dX12_takenBy_25 (by decide) (L' := [(0, .ref 45), (1, .int (nI w)), (2, .int (zb true)), (3, .int (gI (mtg (zX σ 47) (zX σ 48) (zX σ 49) (zX σ 50) kd pa od pos a g) i)), (4, .int (gm (mtg (zX σ 47) (zX σ 48) (zX σ 49) (zX σ 50) kd pa od pos a g) i)), (5, .int (nI i)), (6, .int ((mtg (zX σ 47) (zX σ 48) (zX σ 49) (zX σ 50) kd pa od pos a g) i))]) rfl ?_
      refine Z.iload_n B dX12_takenBy_27 (x := gI (mtg (zX σ 47) (zX σ 48) (zX σ 49) (zX σ 50) kd pa od pos a g) i) rfl ?_
      refine Z.iconst B dX12_takenBy_28 (v := (-1)) rfl ?_
      refine Z.icmp_eq B dX12_takenBy_29 (tgt := 42) rfl (fun h29 => ?_) (fun h29 => ?_)
      · skip
        refine Z.iload B dX12_takenBy_42 (x := nI i) rfl ?_
        refine Z.istore_n B dX12_takenBy_44 (by decide) (L' := [(0, .ref 45), (1, .int (nI w)), (2, .int (zb true)), (3, .int (nI i)), (4, .int (gm (mtg (zX σ 47) (zX σ 48) (zX σ 49) (zX σ 50) kd pa od pos a g) i)), (5, .int (nI i)), (6, .int ((mtg (zX σ 47) (zX σ 48) (zX σ 49) (zX σ 50) kd pa od pos a g) i))]) rfl ?_
        refine Z.iload B dX12_takenBy_45 (x := ((mtg (zX σ 47) (zX σ 48) (zX σ 49) (zX σ 50) kd pa od pos a g) i)) rfl ?_
        refine Z.istore B dX12_takenBy_47 (by decide) (L' := [(0, .ref 45), (1, .int (nI w)), (2, .int (zb true)), (3, .int (nI i)), (4, .int ((mtg (zX σ 47) (zX σ 48) (zX σ 49) (zX σ 50) kd pa od pos a g) i)), (5, .int (nI i)), (6, .int ((mtg (zX σ 47) (zX σ 48) (zX σ 49) (zX σ 50) kd pa od pos a g) i))]) rfl ?_
        refine Z.iincN B dX12_takenBy_49 (by decide) (a := i) rfl (L' := [(0, .ref 45), (1, .int (nI w)), (2, .int (zb true)), (3, .int (nI i)), (4, .int ((mtg (zX σ 47) (zX σ 48) (zX σ 49) (zX σ 50) kd pa od pos a g) i)), (5, .int (nI (i + 1))), (6, .int ((mtg (zX σ 47) (zX σ 48) (zX σ 49) (zX σ 50) kd pa od pos a g) i))]) rfl ?_
        refine Z.goto B dX12_takenBy_52 (tgt := 8) rfl ?_
        refine Z.drop 6 (L' := [(0, .ref 45), (1, .int (nI w)), (2, .int (zb true)), (3, .int (nI i)), (4, .int ((mtg (zX σ 47) (zX σ 48) (zX σ 49) (zX σ 50) kd pa od pos a g) i)), (5, .int (nI (i + 1)))]) rfl ?_
        have e := ih (i + 1) (by omega) (by omega)
        first | (rw [(gI_take (Or.inl h29) (by omega)).1, (gI_take (Or.inl h29) (by omega)).2] at e; exact e) | (rw [(gI_take (Or.inr h36) (by omega)).1, (gI_take (Or.inr h36) (by omega)).2] at e; exact e) | (rw [(gI_keep h29 (by rw [zle_iff]; rw [zlt_iff] at h36; omega)).1, (gI_keep h29 (by rw [zle_iff]; rw [zlt_iff] at h36; omega)).2] at e; exact e)
      · skip
        refine Z.iload B dX12_takenBy_32 (x := ((mtg (zX σ 47) (zX σ 48) (zX σ 49) (zX σ 50) kd pa od pos a g) i)) rfl ?_
        refine Z.iload B dX12_takenBy_34 (x := gm (mtg (zX σ 47) (zX σ 48) (zX σ 49) (zX σ 50) kd pa od pos a g) i) rfl ?_
        refine Z.icmp_gt B dX12_takenBy_36 (tgt := 42) rfl (fun h36 => ?_) (fun h36 => ?_)
        · skip
          refine Z.iload B dX12_takenBy_42 (x := nI i) rfl ?_
          refine Z.istore_n B dX12_takenBy_44 (by decide) (L' := [(0, .ref 45), (1, .int (nI w)), (2, .int (zb true)), (3, .int (nI i)), (4, .int (gm (mtg (zX σ 47) (zX σ 48) (zX σ 49) (zX σ 50) kd pa od pos a g) i)), (5, .int (nI i)), (6, .int ((mtg (zX σ 47) (zX σ 48) (zX σ 49) (zX σ 50) kd pa od pos a g) i))]) rfl ?_
          refine Z.iload B dX12_takenBy_45 (x := ((mtg (zX σ 47) (zX σ 48) (zX σ 49) (zX σ 50) kd pa od pos a g) i)) rfl ?_
          refine Z.istore B dX12_takenBy_47 (by decide) (L' := [(0, .ref 45), (1, .int (nI w)), (2, .int (zb true)), (3, .int (nI i)), (4, .int ((mtg (zX σ 47) (zX σ 48) (zX σ 49) (zX σ 50) kd pa od pos a g) i)), (5, .int (nI i)), (6, .int ((mtg (zX σ 47) (zX σ 48) (zX σ 49) (zX σ 50) kd pa od pos a g) i))]) rfl ?_
          refine Z.iincN B dX12_takenBy_49 (by decide) (a := i) rfl (L' := [(0, .ref 45), (1, .int (nI w)), (2, .int (zb true)), (3, .int (nI i)), (4, .int ((mtg (zX σ 47) (zX σ 48) (zX σ 49) (zX σ 50) kd pa od pos a g) i)), (5, .int (nI (i + 1))), (6, .int ((mtg (zX σ 47) (zX σ 48) (zX σ 49) (zX σ 50) kd pa od pos a g) i))]) rfl ?_
          refine Z.goto B dX12_takenBy_52 (tgt := 8) rfl ?_
          refine Z.drop 6 (L' := [(0, .ref 45), (1, .int (nI w)), (2, .int (zb true)), (3, .int (nI i)), (4, .int ((mtg (zX σ 47) (zX σ 48) (zX σ 49) (zX σ 50) kd pa od pos a g) i)), (5, .int (nI (i + 1)))]) rfl ?_
          have e := ih (i + 1) (by omega) (by omega)
          first | (rw [(gI_take (Or.inl h29) (by omega)).1, (gI_take (Or.inl h29) (by omega)).2] at e; exact e) | (rw [(gI_take (Or.inr h36) (by omega)).1, (gI_take (Or.inr h36) (by omega)).2] at e; exact e) | (rw [(gI_keep h29 (by rw [zle_iff]; rw [zlt_iff] at h36; omega)).1, (gI_keep h29 (by rw [zle_iff]; rw [zlt_iff] at h36; omega)).2] at e; exact e)
        · skip
          refine Z.goto B dX12_takenBy_39 (tgt := 49) rfl ?_
          refine Z.iincN B dX12_takenBy_49 (by decide) (a := i) rfl (L' := [(0, .ref 45), (1, .int (nI w)), (2, .int (zb true)), (3, .int (gI (mtg (zX σ 47) (zX σ 48) (zX σ 49) (zX σ 50) kd pa od pos a g) i)), (4, .int (gm (mtg (zX σ 47) (zX σ 48) (zX σ 49) (zX σ 50) kd pa od pos a g) i)), (5, .int (nI (i + 1))), (6, .int ((mtg (zX σ 47) (zX σ 48) (zX σ 49) (zX σ 50) kd pa od pos a g) i))]) rfl ?_
          refine Z.goto B dX12_takenBy_52 (tgt := 8) rfl ?_
          refine Z.drop 6 (L' := [(0, .ref 45), (1, .int (nI w)), (2, .int (zb true)), (3, .int (gI (mtg (zX σ 47) (zX σ 48) (zX σ 49) (zX σ 50) kd pa od pos a g) i)), (4, .int (gm (mtg (zX σ 47) (zX σ 48) (zX σ 49) (zX σ 50) kd pa od pos a g) i)), (5, .int (nI (i + 1)))]) rfl ?_
          have e := ih (i + 1) (by omega) (by omega)
          first | (rw [(gI_take (Or.inl h29) (by omega)).1, (gI_take (Or.inl h29) (by omega)).2] at e; exact e) | (rw [(gI_take (Or.inr h36) (by omega)).1, (gI_take (Or.inr h36) (by omega)).2] at e; exact e) | (rw [(gI_keep h29 (by rw [zle_iff]; rw [zlt_iff] at h36; omega)).1, (gI_keep h29 (by rw [zle_iff]; rw [zlt_iff] at h36; omega)).2] at e; exact e)
  exact hloop8 0 (Nat.zero_le _)

theorem t_X12_totals {σ : zSt} {n a y : Nat} (H : zMd σ n a y) {od : Nat → Nat} (ho : zMo σ a od) {pos : Nat → Nat} (hpo : zPo a od pos) {w kd pa : Nat} (hw : zMy σ w kd pa) {sl : Bool} (hg : zX σ 45 28 = (-1)) : Dt mX12_totals [.ref 45, .int (nI w), .int (zb sl)] σ (none) (zuX σ 64 (fi n (mtf (zX σ 47) (zX σ 48) (zX σ 49) (zX σ 50) sl kd pa od pos a) (zX σ 64))) := by
  obtain ⟨hl, hn, hn8, ha, ha4, hy, hy8⟩ := id H
  refine Dt.of (by decide) (Nat.le_of_ble_eq_true rfl) fun κ B Rt => ?_
  show Z κ 0 0 σ 0 [(0, .ref 45), (1, .int (nI w)), (2, .int (zb sl))] []
  have hw8 := hw.2.2.2.2
  refine Z.iconst B dX12_totals_0 (v := nI 0) rfl ?_
  refine Z.istore_n B dX12_totals_1 (by decide) (L' := [(0, .ref 45), (1, .int (nI w)), (2, .int (zb sl)), (3, .int (nI 0))]) rfl ?_
  have hloop2 : ∀ i : Nat, i ≤ n → Z κ 0 0 (zuX σ 64 (fi i (mtf (zX σ 47) (zX σ 48) (zX σ 49) (zX σ 50) sl kd pa od pos a) (zX σ 64))) 2 [(0, .ref 45), (1, .int (nI w)), (2, .int (zb sl)), (3, .int (nI i))] [] := by
    refine z_loop (fun i => n - i) (fun i ih hi => ?_)
    refine Z.iload_n B dX12_totals_2 (x := nI i) rfl ?_
    refine Z.aload_n B dX12_totals_3 (v := .ref 45) rfl rfl ?_
    refine Z.getI (σ := (zuX σ 64 (fi i (mtf (zX σ 47) (zX σ 48) (zX σ 49) (zX σ 50) sl kd pa od pos a) (zX σ 64)))) B fX12_81_12 dX12_totals_4 (hl.n (k := 45) (by decide)) (hl.k (k := 45) (by decide)) (by decide) (v := nI n) hn ?_
    refine Z.icmp_geN B dX12_totals_7 (tgt := 29) rfl (by omega) (by omega) (fun h7 => ?_) (fun h7 => ?_)
    · skip
      obtain rfl : n = i := by omega
      refine Z.vret B Rt dX12_totals_29 rfl (by decide) (by decide) ?_
      exact ⟨rfl, rfl⟩
    · skip
      refine Z.aload_n B dX12_totals_10 (v := .ref 45) rfl rfl ?_
      refine Z.getR (σ := (zuX σ 64 (fi i (mtf (zX σ 47) (zX σ 48) (zX σ 49) (zX σ 50) sl kd pa od pos a) (zX σ 64)))) B fX12_75_12 dX12_totals_11 (hl.n (k := 45) (by decide)) (hl.k (k := 45) (by decide)) (by decide) (j := 64) (hl.r (k := 45) (f := 29) (by decide) (by decide)) ?_
      refine Z.iload_n B dX12_totals_14 (x := nI i) rfl ?_
      refine Z.aload_n B dX12_totals_15 (v := .ref 45) rfl rfl ?_
      refine Z.iload_n B dX12_totals_16 (x := nI w) rfl ?_
      refine Z.iload_n B dX12_totals_17 (x := zb sl) rfl ?_
      refine Z.iload_n B dX12_totals_18 (x := nI i) rfl ?_
      refine Z.callVI (σ := (zuX σ 64 (fi i (mtf (zX σ 47) (zX σ 48) (zX σ 49) (zX σ 50) sl kd pa od pos a) (zX σ 64)))) B (M' := mX12_totalBy) (as := [.int (nI w), .int (zb sl), .int (nI i)]) (st := [.int (nI i), .ref 64]) (v := .int ((mtf (zX σ 47) (zX σ 48) (zX σ 49) (zX σ 50) sl kd pa od pos a) i)) dX12_totals_19 wX12_totalBy iX12_totalBy sX12_totalBy kX12_193 (hl.n (k := 45) (by decide)) (hl.k (k := 45) (by decide)) (by decide) rfl rfl (t_X12_totalBy (σ := (zuX σ 64 (fi i (mtf (zX σ 47) (zX σ 48) (zX σ 49) (zX σ 50) sl kd pa od pos a) (zX σ 64)))) H ho hpo hw hg (c := i) (by omega)) rfl rfl (by decide) (by decide) (Nat.le_of_ble_eq_true rfl) (by decide) (by decide) ?_
      refine Z.iast (σ := (zuX σ 64 (fi i (mtf (zX σ 47) (zX σ 48) (zX σ 49) (zX σ 50) sl kd pa od pos a) (zX σ 64)))) B dX12_totals_22 (n := 8) (hl.n (k := 64) (by decide)) (hl.k (k := 64) (by decide)) (hl.l (k := 64) (by decide)) (by decide) (j := i) rfl (by omega) (τ := (zuX σ 64 (fi (i + 1) (mtf (zX σ 47) (zX σ 48) (zX σ 49) (zX σ 50) sl kd pa od pos a) (zX σ 64)))) (by rw [zX_self, zuX_uX, fi_s rfl]) ?_
      refine Z.iincN B dX12_totals_23 (by decide) (a := i) rfl (L' := [(0, .ref 45), (1, .int (nI w)), (2, .int (zb sl)), (3, .int (nI (i + 1)))]) rfl ?_
      refine Z.goto B dX12_totals_26 (tgt := 2) rfl ?_
      exact ih (i + 1) (by omega) (by omega)
  have h0 := hloop2 0 (Nat.zero_le _)
  rw [fi_0, zuX_id] at h0
  exact h0

theorem t_X12_bestNow {σ : zSt} {n a y : Nat} (H : zMd σ n a y) (h0 : 0 < n) : Dt mX12_bestNow [.ref 45] σ (some (.int (nI (ga (fun c => cn (zX σ 47) c 6) (n - 1))))) σ := by
  obtain ⟨hl, hn, hn8, ha, ha4, hy, hy8⟩ := id H
  refine Dt.of (by decide) (Nat.le_of_ble_eq_true rfl) fun κ B Rt => ?_
  show Z κ 0 0 σ 0 [(0, .ref 45)] []
  refine Z.iconst B dX12_bestNow_0 (v := nI 0) rfl ?_
  refine Z.istore_n B dX12_bestNow_1 (by decide) (L' := [(0, .ref 45), (1, .int (nI 0))]) rfl ?_
  refine Z.iconst B dX12_bestNow_2 (v := nI 1) rfl ?_
  refine Z.istore_n B dX12_bestNow_3 (by decide) (L' := [(0, .ref 45), (1, .int (nI 0)), (2, .int (nI 1))]) rfl ?_
  have hloop4 : ∀ i : Nat, i + 1 ≤ n → Z κ 0 0 σ 4 [(0, .ref 45), (1, .int (nI (ga (fun c => cn (zX σ 47) c 6) i))), (2, .int (nI (i + 1)))] [] := by
    refine z_loop (fun i => n - i) (fun i ih hi => ?_)
    refine Z.iload_n B dX12_bestNow_4 (x := nI (i + 1)) rfl ?_
    refine Z.aload_n B dX12_bestNow_5 (v := .ref 45) rfl rfl ?_
    refine Z.getI (σ := σ) B fX12_81_12 dX12_bestNow_6 (hl.n (k := 45) (by decide)) (hl.k (k := 45) (by decide)) (by decide) (v := nI n) hn ?_
    refine Z.icmp_geN B dX12_bestNow_9 (tgt := 33) rfl (by omega) (by omega) (fun h9 => ?_) (fun h9 => ?_)
    · skip
      obtain rfl : (n - 1) = i := by omega
      refine Z.iload_n B dX12_bestNow_33 (x := nI (ga (fun c => cn (zX σ 47) c 6) (n - 1))) rfl ?_
      refine Z.iret B Rt dX12_bestNow_34 (ty := .int) rfl rfl (by decide) (by decide) ?_
      exact ⟨rfl, rfl⟩
    · skip
      refine Z.aload_n B dX12_bestNow_12 (v := .ref 45) rfl rfl ?_
      refine Z.iload_n B dX12_bestNow_13 (x := nI (i + 1)) rfl ?_
      refine Z.callVI (σ := σ) B (M' := mX12_sumOf) (as := [.int (nI (i + 1))]) (st := []) (v := .int (cn (zX σ 47) (i + 1) 6)) dX12_bestNow_14 wX12_sumOf iX12_sumOf sX12_sumOf kX12_101 (hl.n (k := 45) (by decide)) (hl.k (k := 45) (by decide)) (by decide) rfl rfl (t_X12_sumOf (σ := σ) H (c := i + 1) (by omega)) rfl rfl (by decide) (by decide) (Nat.le_of_ble_eq_true rfl) (by decide) (by decide) ?_
      refine Z.aload_n B dX12_bestNow_17 (v := .ref 45) rfl rfl ?_
      refine Z.iload_n B dX12_bestNow_18 (x := nI (ga (fun c => cn (zX σ 47) c 6) i)) rfl ?_
      have hga := ga_le (fun c => cn (zX σ 47) c 6) i
      refine Z.callVI (σ := σ) B (M' := mX12_sumOf) (as := [.int (nI (ga (fun c => cn (zX σ 47) c 6) i))]) (st := [.int (cn (zX σ 47) (i + 1) 6)]) (v := .int (cn (zX σ 47) (ga (fun c => cn (zX σ 47) c 6) i) 6)) dX12_bestNow_19 wX12_sumOf iX12_sumOf sX12_sumOf kX12_101 (hl.n (k := 45) (by decide)) (hl.k (k := 45) (by decide)) (by decide) rfl rfl (t_X12_sumOf (σ := σ) H (c := ga (fun c => cn (zX σ 47) c 6) i) (by omega)) rfl rfl (by decide) (by decide) (Nat.le_of_ble_eq_true rfl) (by decide) (by decide) ?_
      refine Z.icmp_le B dX12_bestNow_22 (tgt := 27) rfl (fun h22 => ?_) (fun h22 => ?_)
      · skip
        refine Z.iincN B dX12_bestNow_27 (by decide) (a := i + 1) rfl (L' := [(0, .ref 45), (1, .int (nI (ga (fun c => cn (zX σ 47) c 6) i))), (2, .int (nI (i + 1 + 1)))]) rfl ?_
        refine Z.goto B dX12_bestNow_30 (tgt := 4) rfl ?_
        have e := ih (i + 1) (by omega) (by omega)
        simp only [ga] at e
        first | (rw [if_pos h22] at e; exact e) | (rw [if_neg (by rw [zlt_iff]; rw [zle_iff] at h22; omega)] at e; exact e)
      · skip
        have h22 : cn (zX σ 47) (ga (fun c => cn (zX σ 47) c 6) i) 6 < cn (zX σ 47) (i + 1) 6 := by rw [zlt_iff]; rw [zle_iff] at h22; omega
        refine Z.iload_n B dX12_bestNow_25 (x := nI (i + 1)) rfl ?_
        refine Z.istore_n B dX12_bestNow_26 (by decide) (L' := [(0, .ref 45), (1, .int (nI (i + 1))), (2, .int (nI (i + 1)))]) rfl ?_
        refine Z.iincN B dX12_bestNow_27 (by decide) (a := i + 1) rfl (L' := [(0, .ref 45), (1, .int (nI (i + 1))), (2, .int (nI (i + 1 + 1)))]) rfl ?_
        refine Z.goto B dX12_bestNow_30 (tgt := 4) rfl ?_
        have e := ih (i + 1) (by omega) (by omega)
        simp only [ga] at e
        first | (rw [if_pos h22] at e; exact e) | (rw [if_neg (by rw [zlt_iff]; rw [zle_iff] at h22; omega)] at e; exact e)
  exact hloop4 0 h0

theorem t_X12_tellsBy {σ : zSt} {n a y : Nat} (H : zMd σ n a y) {mk : Nat} (hm : mk < 2 ^ 31) : Dt mX12_tellsBy [.ref 45, .int (nI mk)] σ (some (.int (tO (mt (am_ mk) (zX σ 47) (zX σ 64)) n))) σ := by
  obtain ⟨hl, hn, hn8, ha, ha4, hy, hy8⟩ := id H
  refine Dt.of (by decide) (Nat.le_of_ble_eq_true rfl) fun κ B Rt => ?_
  show Z κ 0 0 σ 0 [(0, .ref 45), (1, .int (nI mk))] []
  refine Z.iconst B dX12_tellsBy_0 (v := nI 0) rfl ?_
  refine Z.istore_n B dX12_tellsBy_1 (by decide) (L' := [(0, .ref 45), (1, .int (nI mk)), (2, .int (nI 0))]) rfl ?_
  refine Z.iconst B dX12_tellsBy_2 (v := nI 0) rfl ?_
  refine Z.istore_n B dX12_tellsBy_3 (by decide) (L' := [(0, .ref 45), (1, .int (nI mk)), (2, .int (nI 0)), (3, .int (nI 0))]) rfl ?_
  have hloop4 : ∀ j : Nat, j ≤ n → Z κ 0 0 σ 4 [(0, .ref 45), (1, .int (nI mk)), (2, .int (tO (mt (am_ mk) (zX σ 47) (zX σ 64)) j)), (3, .int (nI j))] [] := by
    refine z_loop (fun j => n - j) (fun j ih hj => ?_)
    refine Z.iload_n B dX12_tellsBy_4 (x := nI j) rfl ?_
    refine Z.aload_n B dX12_tellsBy_5 (v := .ref 45) rfl rfl ?_
    refine Z.getI (σ := σ) B fX12_81_12 dX12_tellsBy_6 (hl.n (k := 45) (by decide)) (hl.k (k := 45) (by decide)) (by decide) (v := nI n) hn ?_
    refine Z.icmp_geN B dX12_tellsBy_9 (tgt := 138) rfl (by omega) (by omega) (fun h9 => ?_) (fun h9 => ?_)
    · skip
      obtain rfl : n = j := by omega
      refine Z.iload_n B dX12_tellsBy_138 (x := tO (mt (am_ mk) (zX σ 47) (zX σ 64)) n) rfl ?_
      refine Z.iret B Rt dX12_tellsBy_139 (ty := .int) rfl rfl (by decide) (by decide) ?_
      exact ⟨rfl, rfl⟩
    · skip
      refine Z.iconst B dX12_tellsBy_12 (v := nI 0) rfl ?_
      refine Z.istore B dX12_tellsBy_13 (by decide) (L' := [(0, .ref 45), (1, .int (nI mk)), (2, .int (tO (mt (am_ mk) (zX σ 47) (zX σ 64)) j)), (3, .int (nI j)), (4, .int (nI 0))]) rfl ?_
      have hloop15 : ∀ i : Nat, i ≤ j → Z κ 0 0 σ 15 [(0, .ref 45), (1, .int (nI mk)), (2, .int (smz (tO (mt (am_ mk) (zX σ 47) (zX σ 64)) j) (fun o => (mt (am_ mk) (zX σ 47) (zX σ 64)) o j) i)), (3, .int (nI j)), (4, .int (nI i))] [] := by
        refine z_loop (fun i => j - i) (fun i ihi hi => ?_)
        refine Z.iload B dX12_tellsBy_15 (x := nI i) rfl ?_
        refine Z.iload_n B dX12_tellsBy_17 (x := nI j) rfl ?_
        refine Z.icmp_geN B dX12_tellsBy_18 (tgt := 132) rfl (by omega) (by omega) (fun h18 => ?_) (fun h18 => ?_)
        · skip
          obtain rfl : j = i := by omega
          refine Z.iincN B dX12_tellsBy_132 (by decide) (a := j) rfl (L' := [(0, .ref 45), (1, .int (nI mk)), (2, .int (smz (tO (mt (am_ mk) (zX σ 47) (zX σ 64)) j) (fun o => (mt (am_ mk) (zX σ 47) (zX σ 64)) o j) j)), (3, .int (nI (j + 1))), (4, .int (nI j))]) rfl ?_
          refine Z.goto B dX12_tellsBy_135 (tgt := 4) rfl ?_
          refine Z.drop 4 (L' := [(0, .ref 45), (1, .int (nI mk)), (2, .int (smz (tO (mt (am_ mk) (zX σ 47) (zX σ 64)) j) (fun o => (mt (am_ mk) (zX σ 47) (zX σ 64)) o j) j)), (3, .int (nI (j + 1)))]) rfl ?_
          exact ih (j + 1) (by omega) (by omega)
        · skip
          refine Z.iload_n B dX12_tellsBy_21 (x := nI mk) rfl ?_
          refine Z.iload_n B dX12_tellsBy_22 (x := nI j) rfl ?_
          refine Z.ishr B dX12_tellsBy_23 ?_
          refine Z.iconst B dX12_tellsBy_24 (v := nI 1) rfl ?_
          refine Z.iandv B dX12_tellsBy_25 (v := nI (mk / 2 ^ j % 2)) (zbit hm (by omega)) ?_
          refine Z.if_eqN B dX12_tellsBy_26 (tgt := 126) rfl (by omega) (fun h26 => ?_) (fun h26 => ?_)
          · skip
            refine Z.iincN B dX12_tellsBy_126 (by decide) (a := i) rfl (L' := [(0, .ref 45), (1, .int (nI mk)), (2, .int (smz (tO (mt (am_ mk) (zX σ 47) (zX σ 64)) j) (fun o => (mt (am_ mk) (zX σ 47) (zX σ 64)) o j) i)), (3, .int (nI j)), (4, .int (nI (i + 1)))]) rfl ?_
            refine Z.goto B dX12_tellsBy_129 (tgt := 15) rfl ?_
            have e := ihi (i + 1) (by omega) (by omega)
            simp only [smz] at e
            first | rw [mt_0 (fun h => am_f h26 h.1)] at e | rw [mt_0 (fun h => am_f h35 h.2.1)] at e | rw [mt_0 (fun h => h.2.2.1 h51)] at e | rw [mt_0 (fun h => h.2.2.2 h76)] at e | rw [mt_1 ⟨am_t h26, am_t h35, h51, h76⟩ (iff_of_true q87 q108)] at e | rw [mt_1 ⟨am_t h26, am_t h35, h51, h76⟩ (iff_of_false q87 q108)] at e | rw [mt_2 ⟨am_t h26, am_t h35, h51, h76⟩ (fun h => q108 (h.mp q87))] at e | rw [mt_2 ⟨am_t h26, am_t h35, h51, h76⟩ (fun h => q87 (h.mpr q108))] at e
            exact e
          · skip
            refine Z.iload_n B dX12_tellsBy_29 (x := nI mk) rfl ?_
            refine Z.iload B dX12_tellsBy_30 (x := nI i) rfl ?_
            refine Z.ishr B dX12_tellsBy_32 ?_
            refine Z.iconst B dX12_tellsBy_33 (v := nI 1) rfl ?_
            refine Z.iandv B dX12_tellsBy_34 (v := nI (mk / 2 ^ i % 2)) (zbit hm (by omega)) ?_
            refine Z.if_eqN B dX12_tellsBy_35 (tgt := 126) rfl (by omega) (fun h35 => ?_) (fun h35 => ?_)
            · skip
              refine Z.iincN B dX12_tellsBy_126 (by decide) (a := i) rfl (L' := [(0, .ref 45), (1, .int (nI mk)), (2, .int (smz (tO (mt (am_ mk) (zX σ 47) (zX σ 64)) j) (fun o => (mt (am_ mk) (zX σ 47) (zX σ 64)) o j) i)), (3, .int (nI j)), (4, .int (nI (i + 1)))]) rfl ?_
              refine Z.goto B dX12_tellsBy_129 (tgt := 15) rfl ?_
              have e := ihi (i + 1) (by omega) (by omega)
              simp only [smz] at e
              first | rw [mt_0 (fun h => am_f h26 h.1)] at e | rw [mt_0 (fun h => am_f h35 h.2.1)] at e | rw [mt_0 (fun h => h.2.2.1 h51)] at e | rw [mt_0 (fun h => h.2.2.2 h76)] at e | rw [mt_1 ⟨am_t h26, am_t h35, h51, h76⟩ (iff_of_true q87 q108)] at e | rw [mt_1 ⟨am_t h26, am_t h35, h51, h76⟩ (iff_of_false q87 q108)] at e | rw [mt_2 ⟨am_t h26, am_t h35, h51, h76⟩ (fun h => q108 (h.mp q87))] at e | rw [mt_2 ⟨am_t h26, am_t h35, h51, h76⟩ (fun h => q87 (h.mpr q108))] at e
              exact e
            · skip
              refine Z.aload_n B dX12_tellsBy_38 (v := .ref 45) rfl rfl ?_
              refine Z.getR (σ := σ) B fX12_75_12 dX12_tellsBy_39 (hl.n (k := 45) (by decide)) (hl.k (k := 45) (by decide)) (by decide) (j := 64) (hl.r (k := 45) (f := 29) (by decide) (by decide)) ?_
              refine Z.iload_n B dX12_tellsBy_42 (x := nI j) rfl ?_
              refine Z.iald (σ := σ) B dX12_tellsBy_43 (n := 8) (hl.n (k := 64) (by decide)) (hl.k (k := 64) (by decide)) (hl.l (k := 64) (by decide)) (by decide) (j := j) rfl (by omega) (v := (zX σ 64 j)) rfl ?_
              refine Z.aload_n B dX12_tellsBy_44 (v := .ref 45) rfl rfl ?_
              refine Z.getR (σ := σ) B fX12_75_12 dX12_tellsBy_45 (hl.n (k := 45) (by decide)) (hl.k (k := 45) (by decide)) (by decide) (j := 64) (hl.r (k := 45) (f := 29) (by decide) (by decide)) ?_
              refine Z.iload B dX12_tellsBy_48 (x := nI i) rfl ?_
              refine Z.iald (σ := σ) B dX12_tellsBy_50 (n := 8) (hl.n (k := 64) (by decide)) (hl.k (k := 64) (by decide)) (hl.l (k := 64) (by decide)) (by decide) (j := i) rfl (by omega) (v := (zX σ 64 i)) rfl ?_
              refine Z.icmp_ne B dX12_tellsBy_51 (tgt := 57) rfl (fun h51 => ?_) (fun h51 => ?_)
              · skip
                refine Z.aload_n B dX12_tellsBy_57 (v := .ref 45) rfl rfl ?_
                refine Z.iload_n B dX12_tellsBy_58 (x := nI j) rfl ?_
                refine Z.callVI (σ := σ) B (M' := mX12_sumOf) (as := [.int (nI j)]) (st := []) (v := .int (cn (zX σ 47) j 6)) dX12_tellsBy_59 wX12_sumOf iX12_sumOf sX12_sumOf kX12_101 (hl.n (k := 45) (by decide)) (hl.k (k := 45) (by decide)) (by decide) rfl rfl (t_X12_sumOf (σ := σ) H (c := j) (by omega)) rfl rfl (by decide) (by decide) (Nat.le_of_ble_eq_true rfl) (by decide) (by decide) ?_
                refine Z.istore B dX12_tellsBy_62 (by decide) (L' := [(0, .ref 45), (1, .int (nI mk)), (2, .int (smz (tO (mt (am_ mk) (zX σ 47) (zX σ 64)) j) (fun o => (mt (am_ mk) (zX σ 47) (zX σ 64)) o j) i)), (3, .int (nI j)), (4, .int (nI i)), (5, .int (cn (zX σ 47) j 6))]) rfl ?_
                refine Z.aload_n B dX12_tellsBy_64 (v := .ref 45) rfl rfl ?_
                refine Z.iload B dX12_tellsBy_65 (x := nI i) rfl ?_
                refine Z.callVI (σ := σ) B (M' := mX12_sumOf) (as := [.int (nI i)]) (st := []) (v := .int (cn (zX σ 47) i 6)) dX12_tellsBy_67 wX12_sumOf iX12_sumOf sX12_sumOf kX12_101 (hl.n (k := 45) (by decide)) (hl.k (k := 45) (by decide)) (by decide) rfl rfl (t_X12_sumOf (σ := σ) H (c := i) (by omega)) rfl rfl (by decide) (by decide) (Nat.le_of_ble_eq_true rfl) (by decide) (by decide) ?_
                refine Z.istore B dX12_tellsBy_70 (by decide) (L' := [(0, .ref 45), (1, .int (nI mk)), (2, .int (smz (tO (mt (am_ mk) (zX σ 47) (zX σ 64)) j) (fun o => (mt (am_ mk) (zX σ 47) (zX σ 64)) o j) i)), (3, .int (nI j)), (4, .int (nI i)), (5, .int (cn (zX σ 47) j 6)), (6, .int (cn (zX σ 47) i 6))]) rfl ?_
                refine Z.iload B dX12_tellsBy_72 (x := cn (zX σ 47) j 6) rfl ?_
                refine Z.iload B dX12_tellsBy_74 (x := cn (zX σ 47) i 6) rfl ?_
                refine Z.icmp_ne B dX12_tellsBy_76 (tgt := 82) rfl (fun h76 => ?_) (fun h76 => ?_)
                · skip
                  refine Z.iload_n B dX12_tellsBy_82 (x := smz (tO (mt (am_ mk) (zX σ 47) (zX σ 64)) j) (fun o => (mt (am_ mk) (zX σ 47) (zX σ 64)) o j) i) rfl ?_
                  refine Z.iload B dX12_tellsBy_83 (x := cn (zX σ 47) j 6) rfl ?_
                  refine Z.iload B dX12_tellsBy_85 (x := cn (zX σ 47) i 6) rfl ?_
                  refine Z.icmp_le B dX12_tellsBy_87 (tgt := 94) rfl (fun h87 => ?_) (fun h87 => ?_)
                  · skip
                    have q87 : ¬ cn (zX σ 47) i 6 < cn (zX σ 47) j 6 := by rw [zlt_iff]; rw [zle_iff] at h87; omega
                    refine Z.iconst B dX12_tellsBy_94 (v := nI 0) rfl ?_
                    refine Z.aload_n B dX12_tellsBy_95 (v := .ref 45) rfl rfl ?_
                    refine Z.getR (σ := σ) B fX12_75_12 dX12_tellsBy_96 (hl.n (k := 45) (by decide)) (hl.k (k := 45) (by decide)) (by decide) (j := 64) (hl.r (k := 45) (f := 29) (by decide) (by decide)) ?_
                    refine Z.iload_n B dX12_tellsBy_99 (x := nI j) rfl ?_
                    refine Z.iald (σ := σ) B dX12_tellsBy_100 (n := 8) (hl.n (k := 64) (by decide)) (hl.k (k := 64) (by decide)) (hl.l (k := 64) (by decide)) (by decide) (j := j) rfl (by omega) (v := (zX σ 64 j)) rfl ?_
                    refine Z.aload_n B dX12_tellsBy_101 (v := .ref 45) rfl rfl ?_
                    refine Z.getR (σ := σ) B fX12_75_12 dX12_tellsBy_102 (hl.n (k := 45) (by decide)) (hl.k (k := 45) (by decide)) (by decide) (j := 64) (hl.r (k := 45) (f := 29) (by decide) (by decide)) ?_
                    refine Z.iload B dX12_tellsBy_105 (x := nI i) rfl ?_
                    refine Z.iald (σ := σ) B dX12_tellsBy_107 (n := 8) (hl.n (k := 64) (by decide)) (hl.k (k := 64) (by decide)) (hl.l (k := 64) (by decide)) (by decide) (j := i) rfl (by omega) (v := (zX σ 64 i)) rfl ?_
                    refine Z.icmp_le B dX12_tellsBy_108 (tgt := 115) rfl (fun h108 => ?_) (fun h108 => ?_)
                    · skip
                      have q108 : ¬ zX σ 64 i < zX σ 64 j := by rw [zlt_iff]; rw [zle_iff] at h108; omega
                      refine Z.iconst B dX12_tellsBy_115 (v := nI 0) rfl ?_
                      refine Z.icmp_neN B dX12_tellsBy_116 (tgt := 123) rfl (by omega) (by omega) (fun h116 => by exfalso; first | omega | contradiction | simp_all) (fun h116 => ?_)
                      refine Z.iconst B dX12_tellsBy_119 (v := nI 1) rfl ?_
                      refine Z.goto B dX12_tellsBy_120 (tgt := 124) rfl ?_
                      refine Z.iadd B dX12_tellsBy_124 ?_
                      refine Z.istore_n B dX12_tellsBy_125 (by decide) (L' := [(0, .ref 45), (1, .int (nI mk)), (2, .int ((smz (tO (mt (am_ mk) (zX σ 47) (zX σ 64)) j) (fun o => (mt (am_ mk) (zX σ 47) (zX σ 64)) o j) i) + (nI 1))), (3, .int (nI j)), (4, .int (nI i)), (5, .int (cn (zX σ 47) j 6)), (6, .int (cn (zX σ 47) i 6))]) rfl ?_
                      refine Z.iincN B dX12_tellsBy_126 (by decide) (a := i) rfl (L' := [(0, .ref 45), (1, .int (nI mk)), (2, .int ((smz (tO (mt (am_ mk) (zX σ 47) (zX σ 64)) j) (fun o => (mt (am_ mk) (zX σ 47) (zX σ 64)) o j) i) + (nI 1))), (3, .int (nI j)), (4, .int (nI (i + 1))), (5, .int (cn (zX σ 47) j 6)), (6, .int (cn (zX σ 47) i 6))]) rfl ?_
                      refine Z.goto B dX12_tellsBy_129 (tgt := 15) rfl ?_
                      refine Z.drop 5 (L' := [(0, .ref 45), (1, .int (nI mk)), (2, .int ((smz (tO (mt (am_ mk) (zX σ 47) (zX σ 64)) j) (fun o => (mt (am_ mk) (zX σ 47) (zX σ 64)) o j) i) + (nI 1))), (3, .int (nI j)), (4, .int (nI (i + 1))), (6, .int (cn (zX σ 47) i 6))]) rfl ?_
                      refine Z.drop 6 (L' := [(0, .ref 45), (1, .int (nI mk)), (2, .int ((smz (tO (mt (am_ mk) (zX σ 47) (zX σ 64)) j) (fun o => (mt (am_ mk) (zX σ 47) (zX σ 64)) o j) i) + (nI 1))), (3, .int (nI j)), (4, .int (nI (i + 1)))]) rfl ?_
                      have e := ihi (i + 1) (by omega) (by omega)
                      simp only [smz] at e
                      first | rw [mt_0 (fun h => am_f h26 h.1)] at e | rw [mt_0 (fun h => am_f h35 h.2.1)] at e | rw [mt_0 (fun h => h.2.2.1 h51)] at e | rw [mt_0 (fun h => h.2.2.2 h76)] at e | rw [mt_1 ⟨am_t h26, am_t h35, h51, h76⟩ (iff_of_true q87 q108)] at e | rw [mt_1 ⟨am_t h26, am_t h35, h51, h76⟩ (iff_of_false q87 q108)] at e | rw [mt_2 ⟨am_t h26, am_t h35, h51, h76⟩ (fun h => q108 (h.mp q87))] at e | rw [mt_2 ⟨am_t h26, am_t h35, h51, h76⟩ (fun h => q87 (h.mpr q108))] at e
                      exact e
                    · skip
                      have q108 : zX σ 64 i < zX σ 64 j := by rw [zlt_iff]; rw [zle_iff] at h108; omega
                      refine Z.iconst B dX12_tellsBy_111 (v := nI 1) rfl ?_
                      refine Z.goto B dX12_tellsBy_112 (tgt := 116) rfl ?_
                      refine Z.icmp_neN B dX12_tellsBy_116 (tgt := 123) rfl (by omega) (by omega) (fun h116 => ?_) (fun h116 => by exfalso; first | omega | contradiction | simp_all)
                      refine Z.iconst B dX12_tellsBy_123 (v := (-1)) rfl ?_
                      refine Z.iadd B dX12_tellsBy_124 ?_
                      refine Z.istore_n B dX12_tellsBy_125 (by decide) (L' := [(0, .ref 45), (1, .int (nI mk)), (2, .int ((smz (tO (mt (am_ mk) (zX σ 47) (zX σ 64)) j) (fun o => (mt (am_ mk) (zX σ 47) (zX σ 64)) o j) i) + (-1))), (3, .int (nI j)), (4, .int (nI i)), (5, .int (cn (zX σ 47) j 6)), (6, .int (cn (zX σ 47) i 6))]) rfl ?_
                      refine Z.iincN B dX12_tellsBy_126 (by decide) (a := i) rfl (L' := [(0, .ref 45), (1, .int (nI mk)), (2, .int ((smz (tO (mt (am_ mk) (zX σ 47) (zX σ 64)) j) (fun o => (mt (am_ mk) (zX σ 47) (zX σ 64)) o j) i) + (-1))), (3, .int (nI j)), (4, .int (nI (i + 1))), (5, .int (cn (zX σ 47) j 6)), (6, .int (cn (zX σ 47) i 6))]) rfl ?_
                      refine Z.goto B dX12_tellsBy_129 (tgt := 15) rfl ?_
                      refine Z.drop 5 (L' := [(0, .ref 45), (1, .int (nI mk)), (2, .int ((smz (tO (mt (am_ mk) (zX σ 47) (zX σ 64)) j) (fun o => (mt (am_ mk) (zX σ 47) (zX σ 64)) o j) i) + (-1))), (3, .int (nI j)), (4, .int (nI (i + 1))), (6, .int (cn (zX σ 47) i 6))]) rfl ?_
                      refine Z.drop 6 (L' := [(0, .ref 45), (1, .int (nI mk)), (2, .int ((smz (tO (mt (am_ mk) (zX σ 47) (zX σ 64)) j) (fun o => (mt (am_ mk) (zX σ 47) (zX σ 64)) o j) i) + (-1))), (3, .int (nI j)), (4, .int (nI (i + 1)))]) rfl ?_
                      have e := ihi (i + 1) (by omega) (by omega)
                      simp only [smz] at e
                      first | rw [mt_0 (fun h => am_f h26 h.1)] at e | rw [mt_0 (fun h => am_f h35 h.2.1)] at e | rw [mt_0 (fun h => h.2.2.1 h51)] at e | rw [mt_0 (fun h => h.2.2.2 h76)] at e | rw [mt_1 ⟨am_t h26, am_t h35, h51, h76⟩ (iff_of_true q87 q108)] at e | rw [mt_1 ⟨am_t h26, am_t h35, h51, h76⟩ (iff_of_false q87 q108)] at e | rw [mt_2 ⟨am_t h26, am_t h35, h51, h76⟩ (fun h => q108 (h.mp q87))] at e | rw [mt_2 ⟨am_t h26, am_t h35, h51, h76⟩ (fun h => q87 (h.mpr q108))] at e
                      exact e
                  · skip
                    have q87 : cn (zX σ 47) i 6 < cn (zX σ 47) j 6 := by rw [zlt_iff]; rw [zle_iff] at h87; omega
                    refine Z.iconst B dX12_tellsBy_90 (v := nI 1) rfl ?_
                    refine Z.goto B dX12_tellsBy_91 (tgt := 95) rfl ?_
                    refine Z.aload_n B dX12_tellsBy_95 (v := .ref 45) rfl rfl ?_
                    refine Z.getR (σ := σ) B fX12_75_12 dX12_tellsBy_96 (hl.n (k := 45) (by decide)) (hl.k (k := 45) (by decide)) (by decide) (j := 64) (hl.r (k := 45) (f := 29) (by decide) (by decide)) ?_
                    refine Z.iload_n B dX12_tellsBy_99 (x := nI j) rfl ?_
                    refine Z.iald (σ := σ) B dX12_tellsBy_100 (n := 8) (hl.n (k := 64) (by decide)) (hl.k (k := 64) (by decide)) (hl.l (k := 64) (by decide)) (by decide) (j := j) rfl (by omega) (v := (zX σ 64 j)) rfl ?_
                    refine Z.aload_n B dX12_tellsBy_101 (v := .ref 45) rfl rfl ?_
                    refine Z.getR (σ := σ) B fX12_75_12 dX12_tellsBy_102 (hl.n (k := 45) (by decide)) (hl.k (k := 45) (by decide)) (by decide) (j := 64) (hl.r (k := 45) (f := 29) (by decide) (by decide)) ?_
                    refine Z.iload B dX12_tellsBy_105 (x := nI i) rfl ?_
                    refine Z.iald (σ := σ) B dX12_tellsBy_107 (n := 8) (hl.n (k := 64) (by decide)) (hl.k (k := 64) (by decide)) (hl.l (k := 64) (by decide)) (by decide) (j := i) rfl (by omega) (v := (zX σ 64 i)) rfl ?_
                    refine Z.icmp_le B dX12_tellsBy_108 (tgt := 115) rfl (fun h108 => ?_) (fun h108 => ?_)
                    · skip
                      have q108 : ¬ zX σ 64 i < zX σ 64 j := by rw [zlt_iff]; rw [zle_iff] at h108; omega
                      refine Z.iconst B dX12_tellsBy_115 (v := nI 0) rfl ?_
                      refine Z.icmp_neN B dX12_tellsBy_116 (tgt := 123) rfl (by omega) (by omega) (fun h116 => ?_) (fun h116 => by exfalso; first | omega | contradiction | simp_all)
                      refine Z.iconst B dX12_tellsBy_123 (v := (-1)) rfl ?_
                      refine Z.iadd B dX12_tellsBy_124 ?_
                      refine Z.istore_n B dX12_tellsBy_125 (by decide) (L' := [(0, .ref 45), (1, .int (nI mk)), (2, .int ((smz (tO (mt (am_ mk) (zX σ 47) (zX σ 64)) j) (fun o => (mt (am_ mk) (zX σ 47) (zX σ 64)) o j) i) + (-1))), (3, .int (nI j)), (4, .int (nI i)), (5, .int (cn (zX σ 47) j 6)), (6, .int (cn (zX σ 47) i 6))]) rfl ?_
                      refine Z.iincN B dX12_tellsBy_126 (by decide) (a := i) rfl (L' := [(0, .ref 45), (1, .int (nI mk)), (2, .int ((smz (tO (mt (am_ mk) (zX σ 47) (zX σ 64)) j) (fun o => (mt (am_ mk) (zX σ 47) (zX σ 64)) o j) i) + (-1))), (3, .int (nI j)), (4, .int (nI (i + 1))), (5, .int (cn (zX σ 47) j 6)), (6, .int (cn (zX σ 47) i 6))]) rfl ?_
                      refine Z.goto B dX12_tellsBy_129 (tgt := 15) rfl ?_
                      refine Z.drop 5 (L' := [(0, .ref 45), (1, .int (nI mk)), (2, .int ((smz (tO (mt (am_ mk) (zX σ 47) (zX σ 64)) j) (fun o => (mt (am_ mk) (zX σ 47) (zX σ 64)) o j) i) + (-1))), (3, .int (nI j)), (4, .int (nI (i + 1))), (6, .int (cn (zX σ 47) i 6))]) rfl ?_
                      refine Z.drop 6 (L' := [(0, .ref 45), (1, .int (nI mk)), (2, .int ((smz (tO (mt (am_ mk) (zX σ 47) (zX σ 64)) j) (fun o => (mt (am_ mk) (zX σ 47) (zX σ 64)) o j) i) + (-1))), (3, .int (nI j)), (4, .int (nI (i + 1)))]) rfl ?_
                      have e := ihi (i + 1) (by omega) (by omega)
                      simp only [smz] at e
                      first | rw [mt_0 (fun h => am_f h26 h.1)] at e | rw [mt_0 (fun h => am_f h35 h.2.1)] at e | rw [mt_0 (fun h => h.2.2.1 h51)] at e | rw [mt_0 (fun h => h.2.2.2 h76)] at e | rw [mt_1 ⟨am_t h26, am_t h35, h51, h76⟩ (iff_of_true q87 q108)] at e | rw [mt_1 ⟨am_t h26, am_t h35, h51, h76⟩ (iff_of_false q87 q108)] at e | rw [mt_2 ⟨am_t h26, am_t h35, h51, h76⟩ (fun h => q108 (h.mp q87))] at e | rw [mt_2 ⟨am_t h26, am_t h35, h51, h76⟩ (fun h => q87 (h.mpr q108))] at e
                      exact e
                    · skip
                      have q108 : zX σ 64 i < zX σ 64 j := by rw [zlt_iff]; rw [zle_iff] at h108; omega
                      refine Z.iconst B dX12_tellsBy_111 (v := nI 1) rfl ?_
                      refine Z.goto B dX12_tellsBy_112 (tgt := 116) rfl ?_
                      refine Z.icmp_neN B dX12_tellsBy_116 (tgt := 123) rfl (by omega) (by omega) (fun h116 => by exfalso; first | omega | contradiction | simp_all) (fun h116 => ?_)
                      refine Z.iconst B dX12_tellsBy_119 (v := nI 1) rfl ?_
                      refine Z.goto B dX12_tellsBy_120 (tgt := 124) rfl ?_
                      refine Z.iadd B dX12_tellsBy_124 ?_
                      refine Z.istore_n B dX12_tellsBy_125 (by decide) (L' := [(0, .ref 45), (1, .int (nI mk)), (2, .int ((smz (tO (mt (am_ mk) (zX σ 47) (zX σ 64)) j) (fun o => (mt (am_ mk) (zX σ 47) (zX σ 64)) o j) i) + (nI 1))), (3, .int (nI j)), (4, .int (nI i)), (5, .int (cn (zX σ 47) j 6)), (6, .int (cn (zX σ 47) i 6))]) rfl ?_
                      refine Z.iincN B dX12_tellsBy_126 (by decide) (a := i) rfl (L' := [(0, .ref 45), (1, .int (nI mk)), (2, .int ((smz (tO (mt (am_ mk) (zX σ 47) (zX σ 64)) j) (fun o => (mt (am_ mk) (zX σ 47) (zX σ 64)) o j) i) + (nI 1))), (3, .int (nI j)), (4, .int (nI (i + 1))), (5, .int (cn (zX σ 47) j 6)), (6, .int (cn (zX σ 47) i 6))]) rfl ?_
                      refine Z.goto B dX12_tellsBy_129 (tgt := 15) rfl ?_
                      refine Z.drop 5 (L' := [(0, .ref 45), (1, .int (nI mk)), (2, .int ((smz (tO (mt (am_ mk) (zX σ 47) (zX σ 64)) j) (fun o => (mt (am_ mk) (zX σ 47) (zX σ 64)) o j) i) + (nI 1))), (3, .int (nI j)), (4, .int (nI (i + 1))), (6, .int (cn (zX σ 47) i 6))]) rfl ?_
                      refine Z.drop 6 (L' := [(0, .ref 45), (1, .int (nI mk)), (2, .int ((smz (tO (mt (am_ mk) (zX σ 47) (zX σ 64)) j) (fun o => (mt (am_ mk) (zX σ 47) (zX σ 64)) o j) i) + (nI 1))), (3, .int (nI j)), (4, .int (nI (i + 1)))]) rfl ?_
                      have e := ihi (i + 1) (by omega) (by omega)
                      simp only [smz] at e
                      first | rw [mt_0 (fun h => am_f h26 h.1)] at e | rw [mt_0 (fun h => am_f h35 h.2.1)] at e | rw [mt_0 (fun h => h.2.2.1 h51)] at e | rw [mt_0 (fun h => h.2.2.2 h76)] at e | rw [mt_1 ⟨am_t h26, am_t h35, h51, h76⟩ (iff_of_true q87 q108)] at e | rw [mt_1 ⟨am_t h26, am_t h35, h51, h76⟩ (iff_of_false q87 q108)] at e | rw [mt_2 ⟨am_t h26, am_t h35, h51, h76⟩ (fun h => q108 (h.mp q87))] at e | rw [mt_2 ⟨am_t h26, am_t h35, h51, h76⟩ (fun h => q87 (h.mpr q108))] at e
                      exact e
                · skip
                  refine Z.goto B dX12_tellsBy_79 (tgt := 126) rfl ?_
                  refine Z.iincN B dX12_tellsBy_126 (by decide) (a := i) rfl (L' := [(0, .ref 45), (1, .int (nI mk)), (2, .int (smz (tO (mt (am_ mk) (zX σ 47) (zX σ 64)) j) (fun o => (mt (am_ mk) (zX σ 47) (zX σ 64)) o j) i)), (3, .int (nI j)), (4, .int (nI (i + 1))), (5, .int (cn (zX σ 47) j 6)), (6, .int (cn (zX σ 47) i 6))]) rfl ?_
                  refine Z.goto B dX12_tellsBy_129 (tgt := 15) rfl ?_
                  refine Z.drop 5 (L' := [(0, .ref 45), (1, .int (nI mk)), (2, .int (smz (tO (mt (am_ mk) (zX σ 47) (zX σ 64)) j) (fun o => (mt (am_ mk) (zX σ 47) (zX σ 64)) o j) i)), (3, .int (nI j)), (4, .int (nI (i + 1))), (6, .int (cn (zX σ 47) i 6))]) rfl ?_
                  refine Z.drop 6 (L' := [(0, .ref 45), (1, .int (nI mk)), (2, .int (smz (tO (mt (am_ mk) (zX σ 47) (zX σ 64)) j) (fun o => (mt (am_ mk) (zX σ 47) (zX σ 64)) o j) i)), (3, .int (nI j)), (4, .int (nI (i + 1)))]) rfl ?_
                  have e := ihi (i + 1) (by omega) (by omega)
                  simp only [smz] at e
                  first | rw [mt_0 (fun h => am_f h26 h.1)] at e | rw [mt_0 (fun h => am_f h35 h.2.1)] at e | rw [mt_0 (fun h => h.2.2.1 h51)] at e | rw [mt_0 (fun h => h.2.2.2 h76)] at e | rw [mt_1 ⟨am_t h26, am_t h35, h51, h76⟩ (iff_of_true q87 q108)] at e | rw [mt_1 ⟨am_t h26, am_t h35, h51, h76⟩ (iff_of_false q87 q108)] at e | rw [mt_2 ⟨am_t h26, am_t h35, h51, h76⟩ (fun h => q108 (h.mp q87))] at e | rw [mt_2 ⟨am_t h26, am_t h35, h51, h76⟩ (fun h => q87 (h.mpr q108))] at e
                  exact e
              · skip
                refine Z.goto B dX12_tellsBy_54 (tgt := 126) rfl ?_
                refine Z.iincN B dX12_tellsBy_126 (by decide) (a := i) rfl (L' := [(0, .ref 45), (1, .int (nI mk)), (2, .int (smz (tO (mt (am_ mk) (zX σ 47) (zX σ 64)) j) (fun o => (mt (am_ mk) (zX σ 47) (zX σ 64)) o j) i)), (3, .int (nI j)), (4, .int (nI (i + 1)))]) rfl ?_
                refine Z.goto B dX12_tellsBy_129 (tgt := 15) rfl ?_
                have e := ihi (i + 1) (by omega) (by omega)
                simp only [smz] at e
                first | rw [mt_0 (fun h => am_f h26 h.1)] at e | rw [mt_0 (fun h => am_f h35 h.2.1)] at e | rw [mt_0 (fun h => h.2.2.1 h51)] at e | rw [mt_0 (fun h => h.2.2.2 h76)] at e | rw [mt_1 ⟨am_t h26, am_t h35, h51, h76⟩ (iff_of_true q87 q108)] at e | rw [mt_1 ⟨am_t h26, am_t h35, h51, h76⟩ (iff_of_false q87 q108)] at e | rw [mt_2 ⟨am_t h26, am_t h35, h51, h76⟩ (fun h => q108 (h.mp q87))] at e | rw [mt_2 ⟨am_t h26, am_t h35, h51, h76⟩ (fun h => q87 (h.mpr q108))] at e
                exact e
      exact hloop15 0 (Nat.zero_le _)
  exact hloop4 0 (Nat.zero_le _)
