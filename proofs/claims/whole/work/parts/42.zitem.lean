/-! an item of a text: the class -/
theorem zLL0 {n : Nat} : ∀ q ∈ ([] : List (Nat × Value)), zLt n q.2 := fun q h => by cases h
theorem zLLc {n i : Nat} {v : Value} {L : List (Nat × Value)} (h : zLt n v) (t : ∀ q ∈ L, zLt n q.2) : ∀ q ∈ (i, v) :: L, zLt n q.2 := fun q hq => by
  rcases List.mem_cons.mp hq with rfl | h1
  · exact h
  · exact t q h1
theorem zLS0 {n : Nat} : ∀ v ∈ ([] : List Value), zLt n v := fun q h => by cases h
def ps (T : Nat → Int32) (p : Nat) : Nat → Nat
  | 0 => p
  | k + 1 => nat_ T (ps T p k)
theorem nat_le {T : Nat → Int32} {q : Nat} : q ≤ nat_ T q ∧ nat_ T q ≤ q + 3 := by
  unfold nat_ nl
  split
  · split
    · split <;> omega
    · omega
  · omega
theorem ps_le {T : Nat → Int32} {p : Nat} : ∀ k, p ≤ ps T p k ∧ ps T p k ≤ p + 3 * k
  | 0 => ⟨Nat.le_refl _, Nat.le_refl _⟩
  | k + 1 => by
    have h1 := ps_le (T := T) (p := p) k
    have h2 := nat_le (T := T) (q := ps T p k)
    show p ≤ nat_ T (ps T p k) ∧ nat_ T (ps T p k) ≤ p + 3 * (k + 1)
    omega
theorem nbd_le {T : Nat → Int32} {q : Nat} : q ≤ nbd T q ∧ nbd T q ≤ q + 1 := by
  unfold nbd
  split <;> omega
def vs (T : Nat → Int32) (p k : Nat) : Int32 := nv T (ps T p k + 1)

theorem t_X2_tell_0 {σ : zSt} {n ac y : Nat} (hl : Lay σ) (hn : zX σ 35 2 = nI n) (hn8 : n ≤ 8) (hac : zX σ 35 5 = nI ac) (hac4 : ac ≤ 4) (hy : zX σ 35 7 = nI y) (hy8 : y ≤ 8) (h8 : n < 8) : Dt mX2_tell [.ref 34, .int (nI 0)] σ (none) (zuX (zuX σ 36 (va_cpy (zX σ 42) (zX σ 36) 0 (n * 6) 6)) 35 (upd (zX σ 35) 2 (nI (n + 1)))) := by
  refine Dt.ofN (by decide) (Nat.le_of_ble_eq_true rfl) fun κ B Rt hn0 => ?_
  show Z κ 0 0 σ 0 [(0, .ref 34), (1, .int (nI 0))] []
  refine Z.iload_n B dX2_tell_0 (x := nI 0) rfl ?_
  refine Z.tabIn B dX2_tell_1 (by decide) (by decide) (off := 27) (by decide) (tgt := 28) rfl ?_
  refine Z.aload_n B dX2_tell_28 (v := .ref 34) rfl rfl ?_
  refine Z.getR (σ := σ) B fX2_9_2 dX2_tell_29 (hl.n (k := 34) (by decide)) (hl.k (k := 34) (by decide)) (by decide) (j := 35) (hl.r (k := 34) (f := 0) (by decide) (by decide)) ?_
  refine Z.aload_n B dX2_tell_32 (v := .ref 34) rfl rfl ?_
  refine Z.getR (σ := σ) B fX2_15_2 dX2_tell_33 (hl.n (k := 34) (by decide)) (hl.k (k := 34) (by decide)) (by decide) (j := 42) (hl.r (k := 34) (f := 1) (by decide) (by decide)) ?_
  refine Z.callVI (σ := σ) B (M' := mX1_addComer) (as := [.ref 42]) (st := []) (v := .int (nI n)) dX2_tell_36 wX1_addComer iX1_addComer sX1_addComer kX2_99 (hl.n (k := 35) (by decide)) (hl.k (k := 35) (by decide)) (by decide) rfl rfl (t_X1_addComer_d (σ := σ) hl hn hn8 hac hac4 hy hy8 h8) rfl rfl (by decide) (by decide) (Nat.le_of_ble_eq_true rfl) (by decide) (by decide) ?_
  refine Z.eqσ (τ := (zuX (zuX σ 36 (va_cpy (zX σ 42) (zX σ 36) 0 (n * 6) 6)) 35 (upd (zX σ 35) 2 (nI (n + 1))))) rfl ?_
  refine Z.pop B dX2_tell_39 rfl ?_
  refine Z.goto B dX2_tell_40 (tgt := 109) rfl ?_
  refine Z.vret B Rt dX2_tell_109 rfl (by decide) (by decide) ?_
  exact ⟨rfl, rfl⟩

theorem t_X2_tell_1 {σ : zSt} {n ac y : Nat} (hl : Lay σ) (hn : zX σ 35 2 = nI n) (hn8 : n ≤ 8) (hac : zX σ 35 5 = nI ac) (hac4 : ac ≤ 4) (hy : zX σ 35 7 = nI y) (hy8 : y ≤ 8) (h4 : ac < 4) : Dt mX2_tell [.ref 34, .int (nI 1)] σ (none) (zuX (zuX (zuX σ 37 (upd (upd (upd (zX σ 37) (ac * 3) (zX σ 42 0)) (ac * 3 + 1) (zX σ 42 1)) (ac * 3 + 2) (zX σ 42 2))) 38 (upd (zX σ 38) ac (nI ac))) 35 (upd (zX σ 35) 5 (nI (ac + 1)))) := by
  refine Dt.ofN (by decide) (Nat.le_of_ble_eq_true rfl) fun κ B Rt hn0 => ?_
  show Z κ 0 0 σ 0 [(0, .ref 34), (1, .int (nI 1))] []
  refine Z.iload_n B dX2_tell_0 (x := nI 1) rfl ?_
  refine Z.tabIn B dX2_tell_1 (by decide) (by decide) (off := 42) (by decide) (tgt := 43) rfl ?_
  refine Z.aload_n B dX2_tell_43 (v := .ref 34) rfl rfl ?_
  refine Z.getR (σ := σ) B fX2_9_2 dX2_tell_44 (hl.n (k := 34) (by decide)) (hl.k (k := 34) (by decide)) (by decide) (j := 35) (hl.r (k := 34) (f := 0) (by decide) (by decide)) ?_
  refine Z.aload_n B dX2_tell_47 (v := .ref 34) rfl rfl ?_
  refine Z.getR (σ := σ) B fX2_15_2 dX2_tell_48 (hl.n (k := 34) (by decide)) (hl.k (k := 34) (by decide)) (by decide) (j := 42) (hl.r (k := 34) (f := 1) (by decide) (by decide)) ?_
  refine Z.iconst B dX2_tell_51 (v := nI 0) rfl ?_
  refine Z.iald (σ := σ) B dX2_tell_52 (n := 6) (hl.n (k := 42) (by decide)) (hl.k (k := 42) (by decide)) (hl.l (k := 42) (by decide)) (by decide) (j := 0) rfl (by decide) (v := (zX σ 42 0)) rfl ?_
  refine Z.aload_n B dX2_tell_53 (v := .ref 34) rfl rfl ?_
  refine Z.getR (σ := σ) B fX2_15_2 dX2_tell_54 (hl.n (k := 34) (by decide)) (hl.k (k := 34) (by decide)) (by decide) (j := 42) (hl.r (k := 34) (f := 1) (by decide) (by decide)) ?_
  refine Z.iconst B dX2_tell_57 (v := nI 1) rfl ?_
  refine Z.iald (σ := σ) B dX2_tell_58 (n := 6) (hl.n (k := 42) (by decide)) (hl.k (k := 42) (by decide)) (hl.l (k := 42) (by decide)) (by decide) (j := 1) rfl (by decide) (v := (zX σ 42 1)) rfl ?_
  refine Z.aload_n B dX2_tell_59 (v := .ref 34) rfl rfl ?_
  refine Z.getR (σ := σ) B fX2_15_2 dX2_tell_60 (hl.n (k := 34) (by decide)) (hl.k (k := 34) (by decide)) (by decide) (j := 42) (hl.r (k := 34) (f := 1) (by decide) (by decide)) ?_
  refine Z.iconst B dX2_tell_63 (v := nI 2) rfl ?_
  refine Z.iald (σ := σ) B dX2_tell_64 (n := 6) (hl.n (k := 42) (by decide)) (hl.k (k := 42) (by decide)) (hl.l (k := 42) (by decide)) (by decide) (j := 2) rfl (by decide) (v := (zX σ 42 2)) rfl ?_
  refine Z.callVI (σ := σ) B (M' := mX1_addAsker) (as := [.int (zX σ 42 0), .int (zX σ 42 1), .int (zX σ 42 2)]) (st := []) (v := .int (nI ac)) dX2_tell_65 wX1_addAsker iX1_addAsker sX1_addAsker kX2_103 (hl.n (k := 35) (by decide)) (hl.k (k := 35) (by decide)) (by decide) rfl rfl (t_X1_addAsker_d (σ := σ) hl hn hn8 hac hac4 hy hy8 h4) rfl rfl (by decide) (by decide) (Nat.le_of_ble_eq_true rfl) (by decide) (by decide) ?_
  refine Z.eqσ (τ := (zuX (zuX (zuX σ 37 (upd (upd (upd (zX σ 37) (ac * 3) (zX σ 42 0)) (ac * 3 + 1) (zX σ 42 1)) (ac * 3 + 2) (zX σ 42 2))) 38 (upd (zX σ 38) ac (nI ac))) 35 (upd (zX σ 35) 5 (nI (ac + 1))))) rfl ?_
  refine Z.pop B dX2_tell_68 rfl ?_
  refine Z.goto B dX2_tell_69 (tgt := 109) rfl ?_
  refine Z.vret B Rt dX2_tell_109 rfl (by decide) (by decide) ?_
  exact ⟨rfl, rfl⟩

theorem t_X2_tell_2_0 {σ : zSt} {n ac y : Nat} (hl : Lay σ) (hn : zX σ 35 2 = nI n) (hn8 : n ≤ 8) (hac : zX σ 35 5 = nI ac) (hac4 : ac ≤ 4) (hy : zX σ 35 7 = nI y) (hy8 : y ≤ 8) (hcl : zCl σ) (h8 : y < 8) {pa : Nat} (h0 : zX σ 42 0 = nI 0) (h1 : zX σ 42 1 = nI pa) : Dt mX2_tell [.ref 34, .int (nI 2)] σ (none) (aW σ 35 0 pa y) := by
  refine Dt.ofN (by decide) (Nat.le_of_ble_eq_true rfl) fun κ B Rt hn0 => ?_
  show Z κ 0 0 σ 0 [(0, .ref 34), (1, .int (nI 2))] []
  refine Z.iload_n B dX2_tell_0 (x := nI 2) rfl ?_
  refine Z.tabIn B dX2_tell_1 (by decide) (by decide) (off := 71) (by decide) (tgt := 72) rfl ?_
  refine Z.aload_n B dX2_tell_72 (v := .ref 34) rfl rfl ?_
  refine Z.getR (σ := σ) B fX2_9_2 dX2_tell_73 (hl.n (k := 34) (by decide)) (hl.k (k := 34) (by decide)) (by decide) (j := 35) (hl.r (k := 34) (f := 0) (by decide) (by decide)) ?_
  refine Z.aload_n B dX2_tell_76 (v := .ref 34) rfl rfl ?_
  refine Z.getR (σ := σ) B fX2_15_2 dX2_tell_77 (hl.n (k := 34) (by decide)) (hl.k (k := 34) (by decide)) (by decide) (j := 42) (hl.r (k := 34) (f := 1) (by decide) (by decide)) ?_
  refine Z.iconst B dX2_tell_80 (v := nI 0) rfl ?_
  refine Z.iald (σ := σ) B dX2_tell_81 (n := 6) (hl.n (k := 42) (by decide)) (hl.k (k := 42) (by decide)) (hl.l (k := 42) (by decide)) (by decide) (j := 0) rfl (by decide) (v := nI 0) h0 ?_
  refine Z.aload_n B dX2_tell_82 (v := .ref 34) rfl rfl ?_
  refine Z.getR (σ := σ) B fX2_15_2 dX2_tell_83 (hl.n (k := 34) (by decide)) (hl.k (k := 34) (by decide)) (by decide) (j := 42) (hl.r (k := 34) (f := 1) (by decide) (by decide)) ?_
  refine Z.iconst B dX2_tell_86 (v := nI 1) rfl ?_
  refine Z.iald (σ := σ) B dX2_tell_87 (n := 6) (hl.n (k := 42) (by decide)) (hl.k (k := 42) (by decide)) (hl.l (k := 42) (by decide)) (by decide) (j := 1) rfl (by decide) (v := nI pa) h1 ?_
  refine Z.callVA (σ := σ) B (M' := mX1_addWay) (as := [.int (nI 0), .int (nI pa)]) (st := []) dX2_tell_88 wX1_addWay iX1_addWay sX1_addWay kX2_107 (hl.n (k := 35) (by decide)) (hl.k (k := 35) (by decide)) (by decide) rfl rfl (t_X1_addWay_d_0 hl hn hn8 hac hac4 hy hy8 hcl h8) rfl rfl (by decide) (by decide) (by decide) (by decide) (by decide) (by rw [hn0]; exact Nat.le_refl _) (zLLc (show 34 < zN σ from (by have h66 := hl.1; show 34 < zN σ; omega)) (zLLc trivial zLL0)) zLS0 ?_
  show Z κ (0 + 1) (0 + 4) (aW σ 35 0 pa y) 91 [(0, .ref 34), (1, .int (nI 2))] [.int (nI y)]
  refine Z.pop B dX2_tell_91 rfl ?_
  refine Z.goto B dX2_tell_92 (tgt := 109) rfl ?_
  refine Z.vret B Rt dX2_tell_109 rfl (by decide) (by decide) ?_
  exact ⟨rfl, rfl⟩

theorem t_X2_tell_2_1 {σ : zSt} {n ac y : Nat} (hl : Lay σ) (hn : zX σ 35 2 = nI n) (hn8 : n ≤ 8) (hac : zX σ 35 5 = nI ac) (hac4 : ac ≤ 4) (hy : zX σ 35 7 = nI y) (hy8 : y ≤ 8) (hcl : zCl σ) (h8 : y < 8) {pa : Nat} (h0 : zX σ 42 0 = nI 1) (h1 : zX σ 42 1 = nI pa) : Dt mX2_tell [.ref 34, .int (nI 2)] σ (none) (aW σ 35 1 pa y) := by
  refine Dt.ofN (by decide) (Nat.le_of_ble_eq_true rfl) fun κ B Rt hn0 => ?_
  show Z κ 0 0 σ 0 [(0, .ref 34), (1, .int (nI 2))] []
  refine Z.iload_n B dX2_tell_0 (x := nI 2) rfl ?_
  refine Z.tabIn B dX2_tell_1 (by decide) (by decide) (off := 71) (by decide) (tgt := 72) rfl ?_
  refine Z.aload_n B dX2_tell_72 (v := .ref 34) rfl rfl ?_
  refine Z.getR (σ := σ) B fX2_9_2 dX2_tell_73 (hl.n (k := 34) (by decide)) (hl.k (k := 34) (by decide)) (by decide) (j := 35) (hl.r (k := 34) (f := 0) (by decide) (by decide)) ?_
  refine Z.aload_n B dX2_tell_76 (v := .ref 34) rfl rfl ?_
  refine Z.getR (σ := σ) B fX2_15_2 dX2_tell_77 (hl.n (k := 34) (by decide)) (hl.k (k := 34) (by decide)) (by decide) (j := 42) (hl.r (k := 34) (f := 1) (by decide) (by decide)) ?_
  refine Z.iconst B dX2_tell_80 (v := nI 0) rfl ?_
  refine Z.iald (σ := σ) B dX2_tell_81 (n := 6) (hl.n (k := 42) (by decide)) (hl.k (k := 42) (by decide)) (hl.l (k := 42) (by decide)) (by decide) (j := 0) rfl (by decide) (v := nI 1) h0 ?_
  refine Z.aload_n B dX2_tell_82 (v := .ref 34) rfl rfl ?_
  refine Z.getR (σ := σ) B fX2_15_2 dX2_tell_83 (hl.n (k := 34) (by decide)) (hl.k (k := 34) (by decide)) (by decide) (j := 42) (hl.r (k := 34) (f := 1) (by decide) (by decide)) ?_
  refine Z.iconst B dX2_tell_86 (v := nI 1) rfl ?_
  refine Z.iald (σ := σ) B dX2_tell_87 (n := 6) (hl.n (k := 42) (by decide)) (hl.k (k := 42) (by decide)) (hl.l (k := 42) (by decide)) (by decide) (j := 1) rfl (by decide) (v := nI pa) h1 ?_
  refine Z.callVA (σ := σ) B (M' := mX1_addWay) (as := [.int (nI 1), .int (nI pa)]) (st := []) dX2_tell_88 wX1_addWay iX1_addWay sX1_addWay kX2_107 (hl.n (k := 35) (by decide)) (hl.k (k := 35) (by decide)) (by decide) rfl rfl (t_X1_addWay_d_1 hl hn hn8 hac hac4 hy hy8 hcl h8) rfl rfl (by decide) (by decide) (by decide) (by decide) (by decide) (by rw [hn0]; exact Nat.le_refl _) (zLLc (show 34 < zN σ from (by have h66 := hl.1; show 34 < zN σ; omega)) (zLLc trivial zLL0)) zLS0 ?_
  show Z κ (0 + 1) (0 + 4) (aW σ 35 1 pa y) 91 [(0, .ref 34), (1, .int (nI 2))] [.int (nI y)]
  refine Z.pop B dX2_tell_91 rfl ?_
  refine Z.goto B dX2_tell_92 (tgt := 109) rfl ?_
  refine Z.vret B Rt dX2_tell_109 rfl (by decide) (by decide) ?_
  exact ⟨rfl, rfl⟩

theorem t_X2_tell_2_2 {σ : zSt} {n ac y : Nat} (hl : Lay σ) (hn : zX σ 35 2 = nI n) (hn8 : n ≤ 8) (hac : zX σ 35 5 = nI ac) (hac4 : ac ≤ 4) (hy : zX σ 35 7 = nI y) (hy8 : y ≤ 8) (hcl : zCl σ) (h8 : y < 8) {pa : Nat} (h0 : zX σ 42 0 = nI 2) (h1 : zX σ 42 1 = nI pa) : Dt mX2_tell [.ref 34, .int (nI 2)] σ (none) (aW σ 35 2 pa y) := by
  refine Dt.ofN (by decide) (Nat.le_of_ble_eq_true rfl) fun κ B Rt hn0 => ?_
  show Z κ 0 0 σ 0 [(0, .ref 34), (1, .int (nI 2))] []
  refine Z.iload_n B dX2_tell_0 (x := nI 2) rfl ?_
  refine Z.tabIn B dX2_tell_1 (by decide) (by decide) (off := 71) (by decide) (tgt := 72) rfl ?_
  refine Z.aload_n B dX2_tell_72 (v := .ref 34) rfl rfl ?_
  refine Z.getR (σ := σ) B fX2_9_2 dX2_tell_73 (hl.n (k := 34) (by decide)) (hl.k (k := 34) (by decide)) (by decide) (j := 35) (hl.r (k := 34) (f := 0) (by decide) (by decide)) ?_
  refine Z.aload_n B dX2_tell_76 (v := .ref 34) rfl rfl ?_
  refine Z.getR (σ := σ) B fX2_15_2 dX2_tell_77 (hl.n (k := 34) (by decide)) (hl.k (k := 34) (by decide)) (by decide) (j := 42) (hl.r (k := 34) (f := 1) (by decide) (by decide)) ?_
  refine Z.iconst B dX2_tell_80 (v := nI 0) rfl ?_
  refine Z.iald (σ := σ) B dX2_tell_81 (n := 6) (hl.n (k := 42) (by decide)) (hl.k (k := 42) (by decide)) (hl.l (k := 42) (by decide)) (by decide) (j := 0) rfl (by decide) (v := nI 2) h0 ?_
  refine Z.aload_n B dX2_tell_82 (v := .ref 34) rfl rfl ?_
  refine Z.getR (σ := σ) B fX2_15_2 dX2_tell_83 (hl.n (k := 34) (by decide)) (hl.k (k := 34) (by decide)) (by decide) (j := 42) (hl.r (k := 34) (f := 1) (by decide) (by decide)) ?_
  refine Z.iconst B dX2_tell_86 (v := nI 1) rfl ?_
  refine Z.iald (σ := σ) B dX2_tell_87 (n := 6) (hl.n (k := 42) (by decide)) (hl.k (k := 42) (by decide)) (hl.l (k := 42) (by decide)) (by decide) (j := 1) rfl (by decide) (v := nI pa) h1 ?_
  refine Z.callVA (σ := σ) B (M' := mX1_addWay) (as := [.int (nI 2), .int (nI pa)]) (st := []) dX2_tell_88 wX1_addWay iX1_addWay sX1_addWay kX2_107 (hl.n (k := 35) (by decide)) (hl.k (k := 35) (by decide)) (by decide) rfl rfl (t_X1_addWay_d_2 hl hn hn8 hac hac4 hy hy8 hcl h8) rfl rfl (by decide) (by decide) (by decide) (by decide) (by decide) (by rw [hn0]; exact Nat.le_refl _) (zLLc (show 34 < zN σ from (by have h66 := hl.1; show 34 < zN σ; omega)) (zLLc trivial zLL0)) zLS0 ?_
  show Z κ (0 + 1) (0 + 4) (aW σ 35 2 pa y) 91 [(0, .ref 34), (1, .int (nI 2))] [.int (nI y)]
  refine Z.pop B dX2_tell_91 rfl ?_
  refine Z.goto B dX2_tell_92 (tgt := 109) rfl ?_
  refine Z.vret B Rt dX2_tell_109 rfl (by decide) (by decide) ?_
  exact ⟨rfl, rfl⟩

theorem t_X2_tell_2_3 {σ : zSt} {n ac y : Nat} (hl : Lay σ) (hn : zX σ 35 2 = nI n) (hn8 : n ≤ 8) (hac : zX σ 35 5 = nI ac) (hac4 : ac ≤ 4) (hy : zX σ 35 7 = nI y) (hy8 : y ≤ 8) (hcl : zCl σ) (h8 : y < 8) {pa : Nat} (h0 : zX σ 42 0 = nI 3) (h1 : zX σ 42 1 = nI pa) : Dt mX2_tell [.ref 34, .int (nI 2)] σ (none) (aW σ 35 3 pa y) := by
  refine Dt.ofN (by decide) (Nat.le_of_ble_eq_true rfl) fun κ B Rt hn0 => ?_
  show Z κ 0 0 σ 0 [(0, .ref 34), (1, .int (nI 2))] []
  refine Z.iload_n B dX2_tell_0 (x := nI 2) rfl ?_
  refine Z.tabIn B dX2_tell_1 (by decide) (by decide) (off := 71) (by decide) (tgt := 72) rfl ?_
  refine Z.aload_n B dX2_tell_72 (v := .ref 34) rfl rfl ?_
  refine Z.getR (σ := σ) B fX2_9_2 dX2_tell_73 (hl.n (k := 34) (by decide)) (hl.k (k := 34) (by decide)) (by decide) (j := 35) (hl.r (k := 34) (f := 0) (by decide) (by decide)) ?_
  refine Z.aload_n B dX2_tell_76 (v := .ref 34) rfl rfl ?_
  refine Z.getR (σ := σ) B fX2_15_2 dX2_tell_77 (hl.n (k := 34) (by decide)) (hl.k (k := 34) (by decide)) (by decide) (j := 42) (hl.r (k := 34) (f := 1) (by decide) (by decide)) ?_
  refine Z.iconst B dX2_tell_80 (v := nI 0) rfl ?_
  refine Z.iald (σ := σ) B dX2_tell_81 (n := 6) (hl.n (k := 42) (by decide)) (hl.k (k := 42) (by decide)) (hl.l (k := 42) (by decide)) (by decide) (j := 0) rfl (by decide) (v := nI 3) h0 ?_
  refine Z.aload_n B dX2_tell_82 (v := .ref 34) rfl rfl ?_
  refine Z.getR (σ := σ) B fX2_15_2 dX2_tell_83 (hl.n (k := 34) (by decide)) (hl.k (k := 34) (by decide)) (by decide) (j := 42) (hl.r (k := 34) (f := 1) (by decide) (by decide)) ?_
  refine Z.iconst B dX2_tell_86 (v := nI 1) rfl ?_
  refine Z.iald (σ := σ) B dX2_tell_87 (n := 6) (hl.n (k := 42) (by decide)) (hl.k (k := 42) (by decide)) (hl.l (k := 42) (by decide)) (by decide) (j := 1) rfl (by decide) (v := nI pa) h1 ?_
  refine Z.callVA (σ := σ) B (M' := mX1_addWay) (as := [.int (nI 3), .int (nI pa)]) (st := []) dX2_tell_88 wX1_addWay iX1_addWay sX1_addWay kX2_107 (hl.n (k := 35) (by decide)) (hl.k (k := 35) (by decide)) (by decide) rfl rfl (t_X1_addWay_d_3 hl hn hn8 hac hac4 hy hy8 hcl h8) rfl rfl (by decide) (by decide) (by decide) (by decide) (by decide) (by rw [hn0]; exact Nat.le_refl _) (zLLc (show 34 < zN σ from (by have h66 := hl.1; show 34 < zN σ; omega)) (zLLc trivial zLL0)) zLS0 ?_
  show Z κ (0 + 1) (0 + 4) (aW σ 35 3 pa y) 91 [(0, .ref 34), (1, .int (nI 2))] [.int (nI y)]
  refine Z.pop B dX2_tell_91 rfl ?_
  refine Z.goto B dX2_tell_92 (tgt := 109) rfl ?_
  refine Z.vret B Rt dX2_tell_109 rfl (by decide) (by decide) ?_
  exact ⟨rfl, rfl⟩

theorem t_X2_tell_2_4 {σ : zSt} {n ac y : Nat} (hl : Lay σ) (hn : zX σ 35 2 = nI n) (hn8 : n ≤ 8) (hac : zX σ 35 5 = nI ac) (hac4 : ac ≤ 4) (hy : zX σ 35 7 = nI y) (hy8 : y ≤ 8) (hcl : zCl σ) (h8 : y < 8) {pa : Nat} (h0 : zX σ 42 0 = nI 4) (h1 : zX σ 42 1 = nI pa) : Dt mX2_tell [.ref 34, .int (nI 2)] σ (none) (aW σ 35 4 pa y) := by
  refine Dt.ofN (by decide) (Nat.le_of_ble_eq_true rfl) fun κ B Rt hn0 => ?_
  show Z κ 0 0 σ 0 [(0, .ref 34), (1, .int (nI 2))] []
  refine Z.iload_n B dX2_tell_0 (x := nI 2) rfl ?_
  refine Z.tabIn B dX2_tell_1 (by decide) (by decide) (off := 71) (by decide) (tgt := 72) rfl ?_
  refine Z.aload_n B dX2_tell_72 (v := .ref 34) rfl rfl ?_
  refine Z.getR (σ := σ) B fX2_9_2 dX2_tell_73 (hl.n (k := 34) (by decide)) (hl.k (k := 34) (by decide)) (by decide) (j := 35) (hl.r (k := 34) (f := 0) (by decide) (by decide)) ?_
  refine Z.aload_n B dX2_tell_76 (v := .ref 34) rfl rfl ?_
  refine Z.getR (σ := σ) B fX2_15_2 dX2_tell_77 (hl.n (k := 34) (by decide)) (hl.k (k := 34) (by decide)) (by decide) (j := 42) (hl.r (k := 34) (f := 1) (by decide) (by decide)) ?_
  refine Z.iconst B dX2_tell_80 (v := nI 0) rfl ?_
  refine Z.iald (σ := σ) B dX2_tell_81 (n := 6) (hl.n (k := 42) (by decide)) (hl.k (k := 42) (by decide)) (hl.l (k := 42) (by decide)) (by decide) (j := 0) rfl (by decide) (v := nI 4) h0 ?_
  refine Z.aload_n B dX2_tell_82 (v := .ref 34) rfl rfl ?_
  refine Z.getR (σ := σ) B fX2_15_2 dX2_tell_83 (hl.n (k := 34) (by decide)) (hl.k (k := 34) (by decide)) (by decide) (j := 42) (hl.r (k := 34) (f := 1) (by decide) (by decide)) ?_
  refine Z.iconst B dX2_tell_86 (v := nI 1) rfl ?_
  refine Z.iald (σ := σ) B dX2_tell_87 (n := 6) (hl.n (k := 42) (by decide)) (hl.k (k := 42) (by decide)) (hl.l (k := 42) (by decide)) (by decide) (j := 1) rfl (by decide) (v := nI pa) h1 ?_
  refine Z.callVA (σ := σ) B (M' := mX1_addWay) (as := [.int (nI 4), .int (nI pa)]) (st := []) dX2_tell_88 wX1_addWay iX1_addWay sX1_addWay kX2_107 (hl.n (k := 35) (by decide)) (hl.k (k := 35) (by decide)) (by decide) rfl rfl (t_X1_addWay_d_4 hl hn hn8 hac hac4 hy hy8 hcl h8) rfl rfl (by decide) (by decide) (by decide) (by decide) (by decide) (by rw [hn0]; exact Nat.le_refl _) (zLLc (show 34 < zN σ from (by have h66 := hl.1; show 34 < zN σ; omega)) (zLLc trivial zLL0)) zLS0 ?_
  show Z κ (0 + 1) (0 + 4) (aW σ 35 4 pa y) 91 [(0, .ref 34), (1, .int (nI 2))] [.int (nI y)]
  refine Z.pop B dX2_tell_91 rfl ?_
  refine Z.goto B dX2_tell_92 (tgt := 109) rfl ?_
  refine Z.vret B Rt dX2_tell_109 rfl (by decide) (by decide) ?_
  exact ⟨rfl, rfl⟩

theorem t_X2_tell_2_5 {σ : zSt} {n ac y : Nat} (hl : Lay σ) (hn : zX σ 35 2 = nI n) (hn8 : n ≤ 8) (hac : zX σ 35 5 = nI ac) (hac4 : ac ≤ 4) (hy : zX σ 35 7 = nI y) (hy8 : y ≤ 8) (hcl : zCl σ) (h8 : y < 8) {pa : Nat} (h0 : zX σ 42 0 = nI 5) (h1 : zX σ 42 1 = nI pa) : Dt mX2_tell [.ref 34, .int (nI 2)] σ (none) (aW σ 35 5 pa y) := by
  refine Dt.ofN (by decide) (Nat.le_of_ble_eq_true rfl) fun κ B Rt hn0 => ?_
  show Z κ 0 0 σ 0 [(0, .ref 34), (1, .int (nI 2))] []
  refine Z.iload_n B dX2_tell_0 (x := nI 2) rfl ?_
  refine Z.tabIn B dX2_tell_1 (by decide) (by decide) (off := 71) (by decide) (tgt := 72) rfl ?_
  refine Z.aload_n B dX2_tell_72 (v := .ref 34) rfl rfl ?_
  refine Z.getR (σ := σ) B fX2_9_2 dX2_tell_73 (hl.n (k := 34) (by decide)) (hl.k (k := 34) (by decide)) (by decide) (j := 35) (hl.r (k := 34) (f := 0) (by decide) (by decide)) ?_
  refine Z.aload_n B dX2_tell_76 (v := .ref 34) rfl rfl ?_
  refine Z.getR (σ := σ) B fX2_15_2 dX2_tell_77 (hl.n (k := 34) (by decide)) (hl.k (k := 34) (by decide)) (by decide) (j := 42) (hl.r (k := 34) (f := 1) (by decide) (by decide)) ?_
  refine Z.iconst B dX2_tell_80 (v := nI 0) rfl ?_
  refine Z.iald (σ := σ) B dX2_tell_81 (n := 6) (hl.n (k := 42) (by decide)) (hl.k (k := 42) (by decide)) (hl.l (k := 42) (by decide)) (by decide) (j := 0) rfl (by decide) (v := nI 5) h0 ?_
  refine Z.aload_n B dX2_tell_82 (v := .ref 34) rfl rfl ?_
  refine Z.getR (σ := σ) B fX2_15_2 dX2_tell_83 (hl.n (k := 34) (by decide)) (hl.k (k := 34) (by decide)) (by decide) (j := 42) (hl.r (k := 34) (f := 1) (by decide) (by decide)) ?_
  refine Z.iconst B dX2_tell_86 (v := nI 1) rfl ?_
  refine Z.iald (σ := σ) B dX2_tell_87 (n := 6) (hl.n (k := 42) (by decide)) (hl.k (k := 42) (by decide)) (hl.l (k := 42) (by decide)) (by decide) (j := 1) rfl (by decide) (v := nI pa) h1 ?_
  refine Z.callVA (σ := σ) B (M' := mX1_addWay) (as := [.int (nI 5), .int (nI pa)]) (st := []) dX2_tell_88 wX1_addWay iX1_addWay sX1_addWay kX2_107 (hl.n (k := 35) (by decide)) (hl.k (k := 35) (by decide)) (by decide) rfl rfl (t_X1_addWay_d_5 hl hn hn8 hac hac4 hy hy8 hcl h8) rfl rfl (by decide) (by decide) (by decide) (by decide) (by decide) (by rw [hn0]; exact Nat.le_refl _) (zLLc (show 34 < zN σ from (by have h66 := hl.1; show 34 < zN σ; omega)) (zLLc trivial zLL0)) zLS0 ?_
  show Z κ (0 + 1) (0 + 4) (aW σ 35 5 pa y) 91 [(0, .ref 34), (1, .int (nI 2))] [.int (nI y)]
  refine Z.pop B dX2_tell_91 rfl ?_
  refine Z.goto B dX2_tell_92 (tgt := 109) rfl ?_
  refine Z.vret B Rt dX2_tell_109 rfl (by decide) (by decide) ?_
  exact ⟨rfl, rfl⟩

theorem t_X2_tell_2_6 {σ : zSt} {n ac y : Nat} (hl : Lay σ) (hn : zX σ 35 2 = nI n) (hn8 : n ≤ 8) (hac : zX σ 35 5 = nI ac) (hac4 : ac ≤ 4) (hy : zX σ 35 7 = nI y) (hy8 : y ≤ 8) (hcl : zCl σ) (h8 : y < 8) {pa : Nat} (h0 : zX σ 42 0 = nI 6) (h1 : zX σ 42 1 = nI pa) : Dt mX2_tell [.ref 34, .int (nI 2)] σ (none) (aW σ 35 6 pa y) := by
  refine Dt.ofN (by decide) (Nat.le_of_ble_eq_true rfl) fun κ B Rt hn0 => ?_
  show Z κ 0 0 σ 0 [(0, .ref 34), (1, .int (nI 2))] []
  refine Z.iload_n B dX2_tell_0 (x := nI 2) rfl ?_
  refine Z.tabIn B dX2_tell_1 (by decide) (by decide) (off := 71) (by decide) (tgt := 72) rfl ?_
  refine Z.aload_n B dX2_tell_72 (v := .ref 34) rfl rfl ?_
  refine Z.getR (σ := σ) B fX2_9_2 dX2_tell_73 (hl.n (k := 34) (by decide)) (hl.k (k := 34) (by decide)) (by decide) (j := 35) (hl.r (k := 34) (f := 0) (by decide) (by decide)) ?_
  refine Z.aload_n B dX2_tell_76 (v := .ref 34) rfl rfl ?_
  refine Z.getR (σ := σ) B fX2_15_2 dX2_tell_77 (hl.n (k := 34) (by decide)) (hl.k (k := 34) (by decide)) (by decide) (j := 42) (hl.r (k := 34) (f := 1) (by decide) (by decide)) ?_
  refine Z.iconst B dX2_tell_80 (v := nI 0) rfl ?_
  refine Z.iald (σ := σ) B dX2_tell_81 (n := 6) (hl.n (k := 42) (by decide)) (hl.k (k := 42) (by decide)) (hl.l (k := 42) (by decide)) (by decide) (j := 0) rfl (by decide) (v := nI 6) h0 ?_
  refine Z.aload_n B dX2_tell_82 (v := .ref 34) rfl rfl ?_
  refine Z.getR (σ := σ) B fX2_15_2 dX2_tell_83 (hl.n (k := 34) (by decide)) (hl.k (k := 34) (by decide)) (by decide) (j := 42) (hl.r (k := 34) (f := 1) (by decide) (by decide)) ?_
  refine Z.iconst B dX2_tell_86 (v := nI 1) rfl ?_
  refine Z.iald (σ := σ) B dX2_tell_87 (n := 6) (hl.n (k := 42) (by decide)) (hl.k (k := 42) (by decide)) (hl.l (k := 42) (by decide)) (by decide) (j := 1) rfl (by decide) (v := nI pa) h1 ?_
  refine Z.callVA (σ := σ) B (M' := mX1_addWay) (as := [.int (nI 6), .int (nI pa)]) (st := []) dX2_tell_88 wX1_addWay iX1_addWay sX1_addWay kX2_107 (hl.n (k := 35) (by decide)) (hl.k (k := 35) (by decide)) (by decide) rfl rfl (t_X1_addWay_d_6 hl hn hn8 hac hac4 hy hy8 hcl h8) rfl rfl (by decide) (by decide) (by decide) (by decide) (by decide) (by rw [hn0]; exact Nat.le_refl _) (zLLc (show 34 < zN σ from (by have h66 := hl.1; show 34 < zN σ; omega)) (zLLc trivial zLL0)) zLS0 ?_
  show Z κ (0 + 1) (0 + 4) (aW σ 35 6 pa y) 91 [(0, .ref 34), (1, .int (nI 2))] [.int (nI y)]
  refine Z.pop B dX2_tell_91 rfl ?_
  refine Z.goto B dX2_tell_92 (tgt := 109) rfl ?_
  refine Z.vret B Rt dX2_tell_109 rfl (by decide) (by decide) ?_
  exact ⟨rfl, rfl⟩

theorem t_X2_tell_2 {σ : zSt} {n ac y : Nat} (hl : Lay σ) (hn : zX σ 35 2 = nI n) (hn8 : n ≤ 8) (hac : zX σ 35 5 = nI ac) (hac4 : ac ≤ 4) (hy : zX σ 35 7 = nI y) (hy8 : y ≤ 8) (hcl : zCl σ) (h8 : y < 8) {kd pa : Nat} (hkd : kd ≤ 6) (h0 : zX σ 42 0 = nI kd) (h1 : zX σ 42 1 = nI pa) : Dt mX2_tell [.ref 34, .int (nI 2)] σ none (aW σ 35 kd pa y) := by
  have : kd = 0 ∨ kd = 1 ∨ kd = 2 ∨ kd = 3 ∨ kd = 4 ∨ kd = 5 ∨ kd = 6 := by omega
  rcases this with rfl | rfl | rfl | rfl | rfl | rfl | rfl
  · exact t_X2_tell_2_0 hl hn hn8 hac hac4 hy hy8 hcl h8 h0 h1
  · exact t_X2_tell_2_1 hl hn hn8 hac hac4 hy hy8 hcl h8 h0 h1
  · exact t_X2_tell_2_2 hl hn hn8 hac hac4 hy hy8 hcl h8 h0 h1
  · exact t_X2_tell_2_3 hl hn hn8 hac hac4 hy hy8 hcl h8 h0 h1
  · exact t_X2_tell_2_4 hl hn hn8 hac hac4 hy hy8 hcl h8 h0 h1
  · exact t_X2_tell_2_5 hl hn hn8 hac hac4 hy hy8 hcl h8 h0 h1
  · exact t_X2_tell_2_6 hl hn hn8 hac hac4 hy hy8 hcl h8 h0 h1
theorem t_X2_tell_3 {σ : zSt} {n ac y : Nat} (hl : Lay σ) (hn : zX σ 35 2 = nI n) (hn8 : n ≤ 8) (hac : zX σ 35 5 = nI ac) (hac4 : ac ≤ 4) (hy : zX σ 35 7 = nI y) (hy8 : y ≤ 8) {od : Nat → Nat} (ho : ∀ i, i < ac → zX σ 38 i = nI (od i) ∧ od i < ac) {p x : Nat} (hp : p < ac) (hx : od p = x) (hmin : ∀ j, j < p → od j ≠ x) (h0 : zX σ 42 0 = nI x) : Dt mX2_tell [.ref 34, .int (nI 3)] σ (none) (zuX σ 38 (pf p x (zX σ 38))) := by
  refine Dt.ofN (by decide) (Nat.le_of_ble_eq_true rfl) fun κ B Rt hn0 => ?_
  show Z κ 0 0 σ 0 [(0, .ref 34), (1, .int (nI 3))] []
  refine Z.iload_n B dX2_tell_0 (x := nI 3) rfl ?_
  refine Z.tabOut B dX2_tell_1 (by decide) (tgt := 95) rfl ?_
  refine Z.aload_n B dX2_tell_95 (v := .ref 34) rfl rfl ?_
  refine Z.getR (σ := σ) B fX2_9_2 dX2_tell_96 (hl.n (k := 34) (by decide)) (hl.k (k := 34) (by decide)) (by decide) (j := 35) (hl.r (k := 34) (f := 0) (by decide) (by decide)) ?_
  refine Z.aload_n B dX2_tell_99 (v := .ref 34) rfl rfl ?_
  refine Z.getR (σ := σ) B fX2_15_2 dX2_tell_100 (hl.n (k := 34) (by decide)) (hl.k (k := 34) (by decide)) (by decide) (j := 42) (hl.r (k := 34) (f := 1) (by decide) (by decide)) ?_
  refine Z.iconst B dX2_tell_103 (v := nI 0) rfl ?_
  refine Z.iald (σ := σ) B dX2_tell_104 (n := 6) (hl.n (k := 42) (by decide)) (hl.k (k := 42) (by decide)) (hl.l (k := 42) (by decide)) (by decide) (j := 0) rfl (by decide) (v := nI x) h0 ?_
  refine Z.callVI (σ := σ) B (M' := mX1_putFirst) (as := [.int (nI x)]) (st := []) (v := .int (nI p)) dX2_tell_105 wX1_putFirst iX1_putFirst sX1_putFirst kX2_110 (hl.n (k := 35) (by decide)) (hl.k (k := 35) (by decide)) (by decide) rfl rfl (t_X1_putFirst_d (σ := σ) hl hn hn8 hac hac4 hy hy8 ho hp hx hmin) rfl rfl (by decide) (by decide) (Nat.le_of_ble_eq_true rfl) (by decide) (by decide) ?_
  refine Z.eqσ (τ := (zuX σ 38 (pf p x (zX σ 38)))) rfl ?_
  refine Z.pop B dX2_tell_108 rfl ?_
  refine Z.vret B Rt dX2_tell_109 rfl (by decide) (by decide) ?_
  exact ⟨rfl, rfl⟩
