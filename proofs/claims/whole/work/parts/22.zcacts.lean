/-! the class's acts -/
theorem t_C_X9_feels_0 {σ : zSt} (hl : Lay σ) {q pa num r : Nat} {x : Int32} (hw : zWo σ q 0 pa num) (hr : zX σ 18 1 = nI r) (hr20 : r + 1 ≤ 20) : Dt mX9_feels [.ref q, .int x] σ (some (.int (x + nI num))) (zuX (zuX σ 19 (upd (zX σ 19) (r) (nI 10))) 18 (upd (zX σ 18) 1 (nI (r + 1)))) := by
  refine Dt.of (by decide) (Nat.le_of_ble_eq_true rfl) fun κ B Rt => ?_
  show Z κ 0 0 σ 0 [(0, .ref q), (1, .int x)] []
  refine Z.aload_n B dX9_feels_0 (v := .ref q) rfl rfl ?_
  refine Z.getR (σ := σ) B fX9_21_9 dX9_feels_1 hw.1 hw.2.1 (by decide) (j := 18) hw.2.2.1 ?_
  refine Z.bipush B dX9_feels_4 (v := nI 10) rfl ?_
  refine Z.callVN (σ := σ) B (M' := mX8_began) (as := [.int (nI 10)]) (st := []) dX9_feels_6 wX8_began iX8_began sX8_began kX9_38 (hl.n (k := 18) (by decide)) (hl.k (k := 18) (by decide)) (by decide) rfl rfl (t_X8_began (σ := σ) hl (r := r) hr (by omega) (b := nI 10)) rfl rfl (by decide) (by decide) (Nat.le_of_ble_eq_true rfl) (by decide) (by decide) ?_
  refine Z.eqσ (τ := (zuX (zuX σ 19 (upd (zX σ 19) (r) (nI 10))) 18 (upd (zX σ 18) 1 (nI (r + 1))))) rfl ?_
  have hwc1 : zWo (zuX (zuX σ 19 (upd (zX σ 19) (r) (nI 10))) 18 (upd (zX σ 18) 1 (nI (r + 1)))) q 0 pa num := (hw.uX (by decide)).uX (by decide)
  refine Z.iload_n B dX9_feels_9 (x := x) rfl ?_
  refine Z.aload_n B dX9_feels_10 (v := .ref q) rfl rfl ?_
  refine Z.getI (σ := (zuX (zuX σ 19 (upd (zX σ 19) (r) (nI 10))) 18 (upd (zX σ 18) 1 (nI (r + 1))))) B fX9_15_9 dX9_feels_11 hw.1 hw.2.1 (by decide) (v := nI num) hwc1.2.2.2.2.1 ?_
  refine Z.iadd B dX9_feels_14 ?_
  refine Z.iret B Rt dX9_feels_15 (ty := .int) rfl rfl (by decide) (by decide) ?_
  exact ⟨rfl, rfl⟩

theorem t_C_X9_asks_0 {σ : zSt} (hl : Lay σ) {q pa num r : Nat} {x : Int32} (hw : zWo σ q 0 pa num) (hr : zX σ 18 1 = nI r) (hr20 : r + 2 ≤ 20) : Dt mX9_asks [.ref q, .int x] σ (some (.int ((x + nI num) * nI 2))) (zuX (zuX σ 19 (upd (upd (zX σ 19) (r) (nI 11)) (r + 1) (nI 10))) 18 (upd (zX σ 18) 1 (nI (r + 2)))) := by
  refine Dt.of (by decide) (Nat.le_of_ble_eq_true rfl) fun κ B Rt => ?_
  show Z κ 0 0 σ 0 [(0, .ref q), (1, .int x)] []
  refine Z.aload_n B dX9_asks_0 (v := .ref q) rfl rfl ?_
  refine Z.getR (σ := σ) B fX9_21_9 dX9_asks_1 hw.1 hw.2.1 (by decide) (j := 18) hw.2.2.1 ?_
  refine Z.bipush B dX9_asks_4 (v := nI 11) rfl ?_
  refine Z.callVN (σ := σ) B (M' := mX8_began) (as := [.int (nI 11)]) (st := []) dX9_asks_6 wX8_began iX8_began sX8_began kX9_38 (hl.n (k := 18) (by decide)) (hl.k (k := 18) (by decide)) (by decide) rfl rfl (t_X8_began (σ := σ) hl (r := r) hr (by omega) (b := nI 11)) rfl rfl (by decide) (by decide) (Nat.le_of_ble_eq_true rfl) (by decide) (by decide) ?_
  refine Z.eqσ (τ := (zuX (zuX σ 19 (upd (zX σ 19) (r) (nI 11))) 18 (upd (zX σ 18) 1 (nI (r + 1))))) rfl ?_
  have hwc2 : zWo (zuX (zuX σ 19 (upd (zX σ 19) (r) (nI 11))) 18 (upd (zX σ 18) 1 (nI (r + 1)))) q 0 pa num := (hw.uX (by decide)).uX (by decide)
  refine Z.aload_n B dX9_asks_9 (v := .ref q) rfl rfl ?_
  refine Z.iload_n B dX9_asks_10 (x := x) rfl ?_
  refine Z.callVI (σ := (zuX (zuX σ 19 (upd (zX σ 19) (r) (nI 11))) 18 (upd (zX σ 18) 1 (nI (r + 1))))) B (M' := mX9_feels) (as := [.int x]) (st := []) (v := .int (x + nI num)) dX9_asks_11 wX9_feels iX9_feels sX9_feels kX9_44 hw.1 hw.2.1 (by decide) rfl rfl (t_C_X9_feels_0 (σ := (zuX (zuX σ 19 (upd (zX σ 19) (r) (nI 11))) 18 (upd (zX σ 18) 1 (nI (r + 1))))) hl (q := q) (r := r + 1) (x := x) hwc2 rfl (by omega)) rfl rfl (by decide) (by decide) (Nat.le_of_ble_eq_true rfl) (by decide) (by decide) ?_
  refine Z.eqσ (τ := (zuX (zuX σ 19 (upd (upd (zX σ 19) (r) (nI 11)) (r + 1) (nI 10))) 18 (upd (zX σ 18) 1 (nI (r + 2))))) (by rw [show zX (zuX (zuX σ 19 (upd (zX σ 19) (r) (nI 11))) 18 (upd (zX σ 18) 1 (nI (r + 1)))) 19 = upd (zX σ 19) (r) (nI 11) from rfl, show zX (zuX (zuX σ 19 (upd (zX σ 19) (r) (nI 11))) 18 (upd (zX σ 18) 1 (nI (r + 1)))) 18 = upd (zX σ 18) 1 (nI (r + 1)) from rfl, upd_upd, zuX_sw (by decide), zuX_sw (by decide)]; try rfl) ?_
  refine Z.iconst B dX9_asks_14 (v := nI 2) rfl ?_
  refine Z.imul B dX9_asks_15 ?_
  refine Z.iret B Rt dX9_asks_16 (ty := .int) rfl rfl (by decide) (by decide) ?_
  exact ⟨rfl, rfl⟩

theorem t_C_X9_sums_0 {σ : zSt} (hl : Lay σ) {q pa num r : Nat} {x : Int32} (hw : zWo σ q 0 pa num) (hr : zX σ 18 1 = nI r) (hr20 : r + 4 ≤ 20) : Dt mX9_sums [.ref q, .int x] σ (some (.int (((x + nI num) * nI 2) ^^^ ((x - nI pa) + nI num)))) (zuX (zuX σ 19 (upd (upd (upd (upd (zX σ 19) (r) (nI 12)) (r + 1) (nI 11)) (r + 2) (nI 10)) (r + 3) (nI 10))) 18 (upd (zX σ 18) 1 (nI (r + 4)))) := by
  refine Dt.of (by decide) (Nat.le_of_ble_eq_true rfl) fun κ B Rt => ?_
  show Z κ 0 0 σ 0 [(0, .ref q), (1, .int x)] []
  refine Z.aload_n B dX9_sums_0 (v := .ref q) rfl rfl ?_
  refine Z.getR (σ := σ) B fX9_21_9 dX9_sums_1 hw.1 hw.2.1 (by decide) (j := 18) hw.2.2.1 ?_
  refine Z.bipush B dX9_sums_4 (v := nI 12) rfl ?_
  refine Z.callVN (σ := σ) B (M' := mX8_began) (as := [.int (nI 12)]) (st := []) dX9_sums_6 wX8_began iX8_began sX8_began kX9_38 (hl.n (k := 18) (by decide)) (hl.k (k := 18) (by decide)) (by decide) rfl rfl (t_X8_began (σ := σ) hl (r := r) hr (by omega) (b := nI 12)) rfl rfl (by decide) (by decide) (Nat.le_of_ble_eq_true rfl) (by decide) (by decide) ?_
  refine Z.eqσ (τ := (zuX (zuX σ 19 (upd (zX σ 19) (r) (nI 12))) 18 (upd (zX σ 18) 1 (nI (r + 1))))) rfl ?_
  have hwc3 : zWo (zuX (zuX σ 19 (upd (zX σ 19) (r) (nI 12))) 18 (upd (zX σ 18) 1 (nI (r + 1)))) q 0 pa num := (hw.uX (by decide)).uX (by decide)
  refine Z.aload_n B dX9_sums_9 (v := .ref q) rfl rfl ?_
  refine Z.iload_n B dX9_sums_10 (x := x) rfl ?_
  refine Z.callVI (σ := (zuX (zuX σ 19 (upd (zX σ 19) (r) (nI 12))) 18 (upd (zX σ 18) 1 (nI (r + 1))))) B (M' := mX9_asks) (as := [.int x]) (st := []) (v := .int ((x + nI num) * nI 2)) dX9_sums_11 wX9_asks iX9_asks sX9_asks kX9_48 hw.1 hw.2.1 (by decide) rfl rfl (t_C_X9_asks_0 (σ := (zuX (zuX σ 19 (upd (zX σ 19) (r) (nI 12))) 18 (upd (zX σ 18) 1 (nI (r + 1))))) hl (q := q) (r := r + 1) (x := x) hwc3 rfl (by omega)) rfl rfl (by decide) (by decide) (Nat.le_of_ble_eq_true rfl) (by decide) (by decide) ?_
  refine Z.eqσ (τ := (zuX (zuX σ 19 (upd (upd (upd (zX σ 19) (r) (nI 12)) (r + 1) (nI 11)) (r + 2) (nI 10))) 18 (upd (zX σ 18) 1 (nI (r + 3))))) (by rw [show zX (zuX (zuX σ 19 (upd (zX σ 19) (r) (nI 12))) 18 (upd (zX σ 18) 1 (nI (r + 1)))) 19 = upd (zX σ 19) (r) (nI 12) from rfl, show zX (zuX (zuX σ 19 (upd (zX σ 19) (r) (nI 12))) 18 (upd (zX σ 18) 1 (nI (r + 1)))) 18 = upd (zX σ 18) 1 (nI (r + 1)) from rfl, upd_upd, zuX_sw (by decide), zuX_sw (by decide)]; try rfl) ?_
  have hwc4 : zWo (zuX (zuX σ 19 (upd (upd (upd (zX σ 19) (r) (nI 12)) (r + 1) (nI 11)) (r + 2) (nI 10))) 18 (upd (zX σ 18) 1 (nI (r + 3)))) q 0 pa num := (hw.uX (by decide)).uX (by decide)
  refine Z.aload_n B dX9_sums_14 (v := .ref q) rfl rfl ?_
  refine Z.iload_n B dX9_sums_15 (x := x) rfl ?_
  refine Z.aload_n B dX9_sums_16 (v := .ref q) rfl rfl ?_
  refine Z.getI (σ := (zuX (zuX σ 19 (upd (upd (upd (zX σ 19) (r) (nI 12)) (r + 1) (nI 11)) (r + 2) (nI 10))) 18 (upd (zX σ 18) 1 (nI (r + 3))))) B fX9_18_9 dX9_sums_17 hw.1 hw.2.1 (by decide) (v := nI pa) hwc4.2.2.2.2.2.1 ?_
  refine Z.isub B dX9_sums_20 ?_
  refine Z.callVI (σ := (zuX (zuX σ 19 (upd (upd (upd (zX σ 19) (r) (nI 12)) (r + 1) (nI 11)) (r + 2) (nI 10))) 18 (upd (zX σ 18) 1 (nI (r + 3))))) B (M' := mX9_feels) (as := [.int (x - (nI pa))]) (st := [.int ((x + nI num) * nI 2)]) (v := .int ((x - nI pa) + nI num)) dX9_sums_21 wX9_feels iX9_feels sX9_feels kX9_44 hw.1 hw.2.1 (by decide) rfl rfl (t_C_X9_feels_0 (σ := (zuX (zuX σ 19 (upd (upd (upd (zX σ 19) (r) (nI 12)) (r + 1) (nI 11)) (r + 2) (nI 10))) 18 (upd (zX σ 18) 1 (nI (r + 3))))) hl (q := q) (r := r + 3) (x := (x - nI pa)) hwc4 rfl (by omega)) rfl rfl (by decide) (by decide) (Nat.le_of_ble_eq_true rfl) (by decide) (by decide) ?_
  refine Z.eqσ (τ := (zuX (zuX σ 19 (upd (upd (upd (upd (zX σ 19) (r) (nI 12)) (r + 1) (nI 11)) (r + 2) (nI 10)) (r + 3) (nI 10))) 18 (upd (zX σ 18) 1 (nI (r + 4))))) (by rw [show zX (zuX (zuX σ 19 (upd (upd (upd (zX σ 19) (r) (nI 12)) (r + 1) (nI 11)) (r + 2) (nI 10))) 18 (upd (zX σ 18) 1 (nI (r + 3)))) 19 = upd (upd (upd (zX σ 19) (r) (nI 12)) (r + 1) (nI 11)) (r + 2) (nI 10) from rfl, show zX (zuX (zuX σ 19 (upd (upd (upd (zX σ 19) (r) (nI 12)) (r + 1) (nI 11)) (r + 2) (nI 10))) 18 (upd (zX σ 18) 1 (nI (r + 3)))) 18 = upd (zX σ 18) 1 (nI (r + 3)) from rfl, upd_upd, zuX_sw (by decide), zuX_sw (by decide)]; try rfl) ?_
  refine Z.ixor B dX9_sums_24 ?_
  refine Z.iret B Rt dX9_sums_25 (ty := .int) rfl rfl (by decide) (by decide) ?_
  exact ⟨rfl, rfl⟩

theorem t_C_X9_feels_1 {σ : zSt} (hl : Lay σ) {q pa num r : Nat} {x : Int32} (hw : zWo σ q 1 pa num) (hr : zX σ 18 1 = nI r) (hr20 : r + 1 ≤ 20) : Dt mX9_feels [.ref q, .int x] σ (some (.int (x + nI num))) (zuX (zuX σ 19 (upd (zX σ 19) (r) (nI 10))) 18 (upd (zX σ 18) 1 (nI (r + 1)))) := by
  refine Dt.of (by decide) (Nat.le_of_ble_eq_true rfl) fun κ B Rt => ?_
  show Z κ 0 0 σ 0 [(0, .ref q), (1, .int x)] []
  refine Z.aload_n B dX9_feels_0 (v := .ref q) rfl rfl ?_
  refine Z.getR (σ := σ) B fX9_21_7 dX9_feels_1 hw.1 hw.2.1 (by decide) (j := 18) hw.2.2.1 ?_
  refine Z.bipush B dX9_feels_4 (v := nI 10) rfl ?_
  refine Z.callVN (σ := σ) B (M' := mX8_began) (as := [.int (nI 10)]) (st := []) dX9_feels_6 wX8_began iX8_began sX8_began kX9_38 (hl.n (k := 18) (by decide)) (hl.k (k := 18) (by decide)) (by decide) rfl rfl (t_X8_began (σ := σ) hl (r := r) hr (by omega) (b := nI 10)) rfl rfl (by decide) (by decide) (Nat.le_of_ble_eq_true rfl) (by decide) (by decide) ?_
  refine Z.eqσ (τ := (zuX (zuX σ 19 (upd (zX σ 19) (r) (nI 10))) 18 (upd (zX σ 18) 1 (nI (r + 1))))) rfl ?_
  have hwc5 : zWo (zuX (zuX σ 19 (upd (zX σ 19) (r) (nI 10))) 18 (upd (zX σ 18) 1 (nI (r + 1)))) q 1 pa num := (hw.uX (by decide)).uX (by decide)
  refine Z.iload_n B dX9_feels_9 (x := x) rfl ?_
  refine Z.aload_n B dX9_feels_10 (v := .ref q) rfl rfl ?_
  refine Z.getI (σ := (zuX (zuX σ 19 (upd (zX σ 19) (r) (nI 10))) 18 (upd (zX σ 18) 1 (nI (r + 1))))) B fX9_15_7 dX9_feels_11 hw.1 hw.2.1 (by decide) (v := nI num) hwc5.2.2.2.2.1 ?_
  refine Z.iadd B dX9_feels_14 ?_
  refine Z.iret B Rt dX9_feels_15 (ty := .int) rfl rfl (by decide) (by decide) ?_
  exact ⟨rfl, rfl⟩

theorem t_C_X7_feels_1 {σ : zSt} (hl : Lay σ) {q pa num r : Nat} {x : Int32} (hw : zWo σ q 1 pa num) (hr : zX σ 18 1 = nI r) (hr20 : r + 2 ≤ 20) : Dt mX7_feels [.ref q, .int x] σ (some (.int (x + nI num + nI pa))) (zuX (zuX σ 19 (upd (upd (zX σ 19) (r) (nI 20)) (r + 1) (nI 10))) 18 (upd (zX σ 18) 1 (nI (r + 2)))) := by
  refine Dt.of (by decide) (Nat.le_of_ble_eq_true rfl) fun κ B Rt => ?_
  show Z κ 0 0 σ 0 [(0, .ref q), (1, .int x)] []
  refine Z.aload_n B dX7_feels_0 (v := .ref q) rfl rfl ?_
  refine Z.getR (σ := σ) B fX7_29_7 dX7_feels_1 hw.1 hw.2.1 (by decide) (j := 18) hw.2.2.1 ?_
  refine Z.bipush B dX7_feels_4 (v := nI 20) rfl ?_
  refine Z.callVN (σ := σ) B (M' := mX8_began) (as := [.int (nI 20)]) (st := []) dX7_feels_6 wX8_began iX8_began sX8_began kX7_33 (hl.n (k := 18) (by decide)) (hl.k (k := 18) (by decide)) (by decide) rfl rfl (t_X8_began (σ := σ) hl (r := r) hr (by omega) (b := nI 20)) rfl rfl (by decide) (by decide) (Nat.le_of_ble_eq_true rfl) (by decide) (by decide) ?_
  refine Z.eqσ (τ := (zuX (zuX σ 19 (upd (zX σ 19) (r) (nI 20))) 18 (upd (zX σ 18) 1 (nI (r + 1))))) rfl ?_
  have hwc6 : zWo (zuX (zuX σ 19 (upd (zX σ 19) (r) (nI 20))) 18 (upd (zX σ 18) 1 (nI (r + 1)))) q 1 pa num := (hw.uX (by decide)).uX (by decide)
  refine Z.aload_n B dX7_feels_9 (v := .ref q) rfl rfl ?_
  refine Z.iload_n B dX7_feels_10 (x := x) rfl ?_
  refine Z.callSUI (σ := (zuX (zuX σ 19 (upd (zX σ 19) (r) (nI 20))) 18 (upd (zX σ 18) 1 (nI (r + 1))))) B (M' := mX9_feels) (as := [.int x]) (st := []) (v := .int (x + nI num)) dX7_feels_11 wX9_feels iX9_feels kX7_39 (zT_at 981 (by decide +kernel) rfl) (zT_at 521 (by decide +kernel) rfl) (by decide) hw.1 hw.2.1 (by decide) rfl (t_C_X9_feels_1 (σ := (zuX (zuX σ 19 (upd (zX σ 19) (r) (nI 20))) 18 (upd (zX σ 18) 1 (nI (r + 1))))) hl (q := q) (r := r + 1) (x := x) hwc6 rfl (by omega)) rfl rfl (by decide) (by decide) (Nat.le_of_ble_eq_true rfl) (by decide) (by decide) ?_
  refine Z.eqσ (τ := (zuX (zuX σ 19 (upd (upd (zX σ 19) (r) (nI 20)) (r + 1) (nI 10))) 18 (upd (zX σ 18) 1 (nI (r + 2))))) (by rw [show zX (zuX (zuX σ 19 (upd (zX σ 19) (r) (nI 20))) 18 (upd (zX σ 18) 1 (nI (r + 1)))) 19 = upd (zX σ 19) (r) (nI 20) from rfl, show zX (zuX (zuX σ 19 (upd (zX σ 19) (r) (nI 20))) 18 (upd (zX σ 18) 1 (nI (r + 1)))) 18 = upd (zX σ 18) 1 (nI (r + 1)) from rfl, upd_upd, zuX_sw (by decide), zuX_sw (by decide)]; try rfl) ?_
  have hwc7 : zWo (zuX (zuX σ 19 (upd (upd (zX σ 19) (r) (nI 20)) (r + 1) (nI 10))) 18 (upd (zX σ 18) 1 (nI (r + 2)))) q 1 pa num := (hw.uX (by decide)).uX (by decide)
  refine Z.aload_n B dX7_feels_14 (v := .ref q) rfl rfl ?_
  refine Z.getI (σ := (zuX (zuX σ 19 (upd (upd (zX σ 19) (r) (nI 20)) (r + 1) (nI 10))) 18 (upd (zX σ 18) 1 (nI (r + 2))))) B fX7_9_7 dX7_feels_15 hw.1 hw.2.1 (by decide) (v := nI pa) hwc7.2.2.2.2.2.1 ?_
  refine Z.iadd B dX7_feels_18 ?_
  refine Z.iret B Rt dX7_feels_19 (ty := .int) rfl rfl (by decide) (by decide) ?_
  exact ⟨rfl, rfl⟩

theorem t_C_X9_asks_1 {σ : zSt} (hl : Lay σ) {q pa num r : Nat} {x : Int32} (hw : zWo σ q 1 pa num) (hr : zX σ 18 1 = nI r) (hr20 : r + 3 ≤ 20) : Dt mX9_asks [.ref q, .int x] σ (some (.int ((x + nI num + nI pa) * nI 2))) (zuX (zuX σ 19 (upd (upd (upd (zX σ 19) (r) (nI 11)) (r + 1) (nI 20)) (r + 2) (nI 10))) 18 (upd (zX σ 18) 1 (nI (r + 3)))) := by
  refine Dt.of (by decide) (Nat.le_of_ble_eq_true rfl) fun κ B Rt => ?_
  show Z κ 0 0 σ 0 [(0, .ref q), (1, .int x)] []
  refine Z.aload_n B dX9_asks_0 (v := .ref q) rfl rfl ?_
  refine Z.getR (σ := σ) B fX9_21_7 dX9_asks_1 hw.1 hw.2.1 (by decide) (j := 18) hw.2.2.1 ?_
  refine Z.bipush B dX9_asks_4 (v := nI 11) rfl ?_
  refine Z.callVN (σ := σ) B (M' := mX8_began) (as := [.int (nI 11)]) (st := []) dX9_asks_6 wX8_began iX8_began sX8_began kX9_38 (hl.n (k := 18) (by decide)) (hl.k (k := 18) (by decide)) (by decide) rfl rfl (t_X8_began (σ := σ) hl (r := r) hr (by omega) (b := nI 11)) rfl rfl (by decide) (by decide) (Nat.le_of_ble_eq_true rfl) (by decide) (by decide) ?_
  refine Z.eqσ (τ := (zuX (zuX σ 19 (upd (zX σ 19) (r) (nI 11))) 18 (upd (zX σ 18) 1 (nI (r + 1))))) rfl ?_
  have hwc8 : zWo (zuX (zuX σ 19 (upd (zX σ 19) (r) (nI 11))) 18 (upd (zX σ 18) 1 (nI (r + 1)))) q 1 pa num := (hw.uX (by decide)).uX (by decide)
  refine Z.aload_n B dX9_asks_9 (v := .ref q) rfl rfl ?_
  refine Z.iload_n B dX9_asks_10 (x := x) rfl ?_
  refine Z.callUI (σ := (zuX (zuX σ 19 (upd (zX σ 19) (r) (nI 11))) 18 (upd (zX σ 18) 1 (nI (r + 1))))) B (M' := mX7_feels) (as := [.int x]) (st := []) (v := .int (x + nI num + nI pa)) dX9_asks_11 wX7_feels iX7_feels (x := yX9_feels) (owner := "FourAskOne$Way") kX9_44 (zT_at 981 (by decide +kernel) rfl) iX9_feels wX9_feels.1 (by decide +kernel) hw.1 hw.2.1 (by decide) rfl (zT_at 997 (by decide +kernel) rfl) (t_C_X7_feels_1 (σ := (zuX (zuX σ 19 (upd (zX σ 19) (r) (nI 11))) 18 (upd (zX σ 18) 1 (nI (r + 1))))) hl (q := q) (r := r + 1) (x := x) hwc8 rfl (by omega)) rfl rfl (by decide) (by decide) (Nat.le_of_ble_eq_true rfl) (by decide) (by decide) ?_
  refine Z.eqσ (τ := (zuX (zuX σ 19 (upd (upd (upd (zX σ 19) (r) (nI 11)) (r + 1) (nI 20)) (r + 2) (nI 10))) 18 (upd (zX σ 18) 1 (nI (r + 3))))) (by rw [show zX (zuX (zuX σ 19 (upd (zX σ 19) (r) (nI 11))) 18 (upd (zX σ 18) 1 (nI (r + 1)))) 19 = upd (zX σ 19) (r) (nI 11) from rfl, show zX (zuX (zuX σ 19 (upd (zX σ 19) (r) (nI 11))) 18 (upd (zX σ 18) 1 (nI (r + 1)))) 18 = upd (zX σ 18) 1 (nI (r + 1)) from rfl, upd_upd, zuX_sw (by decide), zuX_sw (by decide)]; try rfl) ?_
  refine Z.iconst B dX9_asks_14 (v := nI 2) rfl ?_
  refine Z.imul B dX9_asks_15 ?_
  refine Z.iret B Rt dX9_asks_16 (ty := .int) rfl rfl (by decide) (by decide) ?_
  exact ⟨rfl, rfl⟩

theorem t_C_X9_sums_1 {σ : zSt} (hl : Lay σ) {q pa num r : Nat} {x : Int32} (hw : zWo σ q 1 pa num) (hr : zX σ 18 1 = nI r) (hr20 : r + 6 ≤ 20) : Dt mX9_sums [.ref q, .int x] σ (some (.int (((x + nI num + nI pa) * nI 2) ^^^ ((x - nI pa) + nI num + nI pa)))) (zuX (zuX σ 19 (upd (upd (upd (upd (upd (upd (zX σ 19) (r) (nI 12)) (r + 1) (nI 11)) (r + 2) (nI 20)) (r + 3) (nI 10)) (r + 4) (nI 20)) (r + 5) (nI 10))) 18 (upd (zX σ 18) 1 (nI (r + 6)))) := by
  refine Dt.of (by decide) (Nat.le_of_ble_eq_true rfl) fun κ B Rt => ?_
  show Z κ 0 0 σ 0 [(0, .ref q), (1, .int x)] []
  refine Z.aload_n B dX9_sums_0 (v := .ref q) rfl rfl ?_
  refine Z.getR (σ := σ) B fX9_21_7 dX9_sums_1 hw.1 hw.2.1 (by decide) (j := 18) hw.2.2.1 ?_
  refine Z.bipush B dX9_sums_4 (v := nI 12) rfl ?_
  refine Z.callVN (σ := σ) B (M' := mX8_began) (as := [.int (nI 12)]) (st := []) dX9_sums_6 wX8_began iX8_began sX8_began kX9_38 (hl.n (k := 18) (by decide)) (hl.k (k := 18) (by decide)) (by decide) rfl rfl (t_X8_began (σ := σ) hl (r := r) hr (by omega) (b := nI 12)) rfl rfl (by decide) (by decide) (Nat.le_of_ble_eq_true rfl) (by decide) (by decide) ?_
  refine Z.eqσ (τ := (zuX (zuX σ 19 (upd (zX σ 19) (r) (nI 12))) 18 (upd (zX σ 18) 1 (nI (r + 1))))) rfl ?_
  have hwc9 : zWo (zuX (zuX σ 19 (upd (zX σ 19) (r) (nI 12))) 18 (upd (zX σ 18) 1 (nI (r + 1)))) q 1 pa num := (hw.uX (by decide)).uX (by decide)
  refine Z.aload_n B dX9_sums_9 (v := .ref q) rfl rfl ?_
  refine Z.iload_n B dX9_sums_10 (x := x) rfl ?_
  refine Z.callUI (σ := (zuX (zuX σ 19 (upd (zX σ 19) (r) (nI 12))) 18 (upd (zX σ 18) 1 (nI (r + 1))))) B (M' := mX9_asks) (as := [.int x]) (st := []) (v := .int ((x + nI num + nI pa) * nI 2)) dX9_sums_11 wX9_asks iX9_asks (x := yX9_asks) (owner := "FourAskOne$Way") kX9_48 (zT_at 1004 (by decide +kernel) rfl) iX9_asks wX9_asks.1 (by decide +kernel) hw.1 hw.2.1 (by decide) rfl (zT_at 1020 (by decide +kernel) rfl) (t_C_X9_asks_1 (σ := (zuX (zuX σ 19 (upd (zX σ 19) (r) (nI 12))) 18 (upd (zX σ 18) 1 (nI (r + 1))))) hl (q := q) (r := r + 1) (x := x) hwc9 rfl (by omega)) rfl rfl (by decide) (by decide) (Nat.le_of_ble_eq_true rfl) (by decide) (by decide) ?_
  refine Z.eqσ (τ := (zuX (zuX σ 19 (upd (upd (upd (upd (zX σ 19) (r) (nI 12)) (r + 1) (nI 11)) (r + 2) (nI 20)) (r + 3) (nI 10))) 18 (upd (zX σ 18) 1 (nI (r + 4))))) (by rw [show zX (zuX (zuX σ 19 (upd (zX σ 19) (r) (nI 12))) 18 (upd (zX σ 18) 1 (nI (r + 1)))) 19 = upd (zX σ 19) (r) (nI 12) from rfl, show zX (zuX (zuX σ 19 (upd (zX σ 19) (r) (nI 12))) 18 (upd (zX σ 18) 1 (nI (r + 1)))) 18 = upd (zX σ 18) 1 (nI (r + 1)) from rfl, upd_upd, zuX_sw (by decide), zuX_sw (by decide)]; try rfl) ?_
  have hwc10 : zWo (zuX (zuX σ 19 (upd (upd (upd (upd (zX σ 19) (r) (nI 12)) (r + 1) (nI 11)) (r + 2) (nI 20)) (r + 3) (nI 10))) 18 (upd (zX σ 18) 1 (nI (r + 4)))) q 1 pa num := (hw.uX (by decide)).uX (by decide)
  refine Z.aload_n B dX9_sums_14 (v := .ref q) rfl rfl ?_
  refine Z.iload_n B dX9_sums_15 (x := x) rfl ?_
  refine Z.aload_n B dX9_sums_16 (v := .ref q) rfl rfl ?_
  refine Z.getI (σ := (zuX (zuX σ 19 (upd (upd (upd (upd (zX σ 19) (r) (nI 12)) (r + 1) (nI 11)) (r + 2) (nI 20)) (r + 3) (nI 10))) 18 (upd (zX σ 18) 1 (nI (r + 4))))) B fX9_18_7 dX9_sums_17 hw.1 hw.2.1 (by decide) (v := nI pa) hwc10.2.2.2.2.2.1 ?_
  refine Z.isub B dX9_sums_20 ?_
  refine Z.callUI (σ := (zuX (zuX σ 19 (upd (upd (upd (upd (zX σ 19) (r) (nI 12)) (r + 1) (nI 11)) (r + 2) (nI 20)) (r + 3) (nI 10))) 18 (upd (zX σ 18) 1 (nI (r + 4))))) B (M' := mX7_feels) (as := [.int (x - (nI pa))]) (st := [.int ((x + nI num + nI pa) * nI 2)]) (v := .int ((x - nI pa) + nI num + nI pa)) dX9_sums_21 wX7_feels iX7_feels (x := yX9_feels) (owner := "FourAskOne$Way") kX9_44 (zT_at 981 (by decide +kernel) rfl) iX9_feels wX9_feels.1 (by decide +kernel) hw.1 hw.2.1 (by decide) rfl (zT_at 997 (by decide +kernel) rfl) (t_C_X7_feels_1 (σ := (zuX (zuX σ 19 (upd (upd (upd (upd (zX σ 19) (r) (nI 12)) (r + 1) (nI 11)) (r + 2) (nI 20)) (r + 3) (nI 10))) 18 (upd (zX σ 18) 1 (nI (r + 4))))) hl (q := q) (r := r + 4) (x := (x - nI pa)) hwc10 rfl (by omega)) rfl rfl (by decide) (by decide) (Nat.le_of_ble_eq_true rfl) (by decide) (by decide) ?_
  refine Z.eqσ (τ := (zuX (zuX σ 19 (upd (upd (upd (upd (upd (upd (zX σ 19) (r) (nI 12)) (r + 1) (nI 11)) (r + 2) (nI 20)) (r + 3) (nI 10)) (r + 4) (nI 20)) (r + 5) (nI 10))) 18 (upd (zX σ 18) 1 (nI (r + 6))))) (by rw [show zX (zuX (zuX σ 19 (upd (upd (upd (upd (zX σ 19) (r) (nI 12)) (r + 1) (nI 11)) (r + 2) (nI 20)) (r + 3) (nI 10))) 18 (upd (zX σ 18) 1 (nI (r + 4)))) 19 = upd (upd (upd (upd (zX σ 19) (r) (nI 12)) (r + 1) (nI 11)) (r + 2) (nI 20)) (r + 3) (nI 10) from rfl, show zX (zuX (zuX σ 19 (upd (upd (upd (upd (zX σ 19) (r) (nI 12)) (r + 1) (nI 11)) (r + 2) (nI 20)) (r + 3) (nI 10))) 18 (upd (zX σ 18) 1 (nI (r + 4)))) 18 = upd (zX σ 18) 1 (nI (r + 4)) from rfl, upd_upd, zuX_sw (by decide), zuX_sw (by decide)]; try rfl) ?_
  refine Z.ixor B dX9_sums_24 ?_
  refine Z.iret B Rt dX9_sums_25 (ty := .int) rfl rfl (by decide) (by decide) ?_
  exact ⟨rfl, rfl⟩

theorem t_C_X9_feels_2 {σ : zSt} (hl : Lay σ) {q pa num r : Nat} {x : Int32} (hw : zWo σ q 2 pa num) (hr : zX σ 18 1 = nI r) (hr20 : r + 1 ≤ 20) : Dt mX9_feels [.ref q, .int x] σ (some (.int (x + nI num))) (zuX (zuX σ 19 (upd (zX σ 19) (r) (nI 10))) 18 (upd (zX σ 18) 1 (nI (r + 1)))) := by
  refine Dt.of (by decide) (Nat.le_of_ble_eq_true rfl) fun κ B Rt => ?_
  show Z κ 0 0 σ 0 [(0, .ref q), (1, .int x)] []
  refine Z.aload_n B dX9_feels_0 (v := .ref q) rfl rfl ?_
  refine Z.getR (σ := σ) B fX9_21_4 dX9_feels_1 hw.1 hw.2.1 (by decide) (j := 18) hw.2.2.1 ?_
  refine Z.bipush B dX9_feels_4 (v := nI 10) rfl ?_
  refine Z.callVN (σ := σ) B (M' := mX8_began) (as := [.int (nI 10)]) (st := []) dX9_feels_6 wX8_began iX8_began sX8_began kX9_38 (hl.n (k := 18) (by decide)) (hl.k (k := 18) (by decide)) (by decide) rfl rfl (t_X8_began (σ := σ) hl (r := r) hr (by omega) (b := nI 10)) rfl rfl (by decide) (by decide) (Nat.le_of_ble_eq_true rfl) (by decide) (by decide) ?_
  refine Z.eqσ (τ := (zuX (zuX σ 19 (upd (zX σ 19) (r) (nI 10))) 18 (upd (zX σ 18) 1 (nI (r + 1))))) rfl ?_
  have hwc11 : zWo (zuX (zuX σ 19 (upd (zX σ 19) (r) (nI 10))) 18 (upd (zX σ 18) 1 (nI (r + 1)))) q 2 pa num := (hw.uX (by decide)).uX (by decide)
  refine Z.iload_n B dX9_feels_9 (x := x) rfl ?_
  refine Z.aload_n B dX9_feels_10 (v := .ref q) rfl rfl ?_
  refine Z.getI (σ := (zuX (zuX σ 19 (upd (zX σ 19) (r) (nI 10))) 18 (upd (zX σ 18) 1 (nI (r + 1))))) B fX9_15_4 dX9_feels_11 hw.1 hw.2.1 (by decide) (v := nI num) hwc11.2.2.2.2.1 ?_
  refine Z.iadd B dX9_feels_14 ?_
  refine Z.iret B Rt dX9_feels_15 (ty := .int) rfl rfl (by decide) (by decide) ?_
  exact ⟨rfl, rfl⟩

theorem t_C_X7_feels_2 {σ : zSt} (hl : Lay σ) {q pa num r : Nat} {x : Int32} (hw : zWo σ q 2 pa num) (hr : zX σ 18 1 = nI r) (hr20 : r + 2 ≤ 20) : Dt mX7_feels [.ref q, .int x] σ (some (.int (x + nI num + nI pa))) (zuX (zuX σ 19 (upd (upd (zX σ 19) (r) (nI 20)) (r + 1) (nI 10))) 18 (upd (zX σ 18) 1 (nI (r + 2)))) := by
  refine Dt.of (by decide) (Nat.le_of_ble_eq_true rfl) fun κ B Rt => ?_
  show Z κ 0 0 σ 0 [(0, .ref q), (1, .int x)] []
  refine Z.aload_n B dX7_feels_0 (v := .ref q) rfl rfl ?_
  refine Z.getR (σ := σ) B fX7_29_4 dX7_feels_1 hw.1 hw.2.1 (by decide) (j := 18) hw.2.2.1 ?_
  refine Z.bipush B dX7_feels_4 (v := nI 20) rfl ?_
  refine Z.callVN (σ := σ) B (M' := mX8_began) (as := [.int (nI 20)]) (st := []) dX7_feels_6 wX8_began iX8_began sX8_began kX7_33 (hl.n (k := 18) (by decide)) (hl.k (k := 18) (by decide)) (by decide) rfl rfl (t_X8_began (σ := σ) hl (r := r) hr (by omega) (b := nI 20)) rfl rfl (by decide) (by decide) (Nat.le_of_ble_eq_true rfl) (by decide) (by decide) ?_
  refine Z.eqσ (τ := (zuX (zuX σ 19 (upd (zX σ 19) (r) (nI 20))) 18 (upd (zX σ 18) 1 (nI (r + 1))))) rfl ?_
  have hwc12 : zWo (zuX (zuX σ 19 (upd (zX σ 19) (r) (nI 20))) 18 (upd (zX σ 18) 1 (nI (r + 1)))) q 2 pa num := (hw.uX (by decide)).uX (by decide)
  refine Z.aload_n B dX7_feels_9 (v := .ref q) rfl rfl ?_
  refine Z.iload_n B dX7_feels_10 (x := x) rfl ?_
  refine Z.callSUI (σ := (zuX (zuX σ 19 (upd (zX σ 19) (r) (nI 20))) 18 (upd (zX σ 18) 1 (nI (r + 1))))) B (M' := mX9_feels) (as := [.int x]) (st := []) (v := .int (x + nI num)) dX7_feels_11 wX9_feels iX9_feels kX7_39 (zT_at 981 (by decide +kernel) rfl) (zT_at 521 (by decide +kernel) rfl) (by decide) hw.1 hw.2.1 (by decide) rfl (t_C_X9_feels_2 (σ := (zuX (zuX σ 19 (upd (zX σ 19) (r) (nI 20))) 18 (upd (zX σ 18) 1 (nI (r + 1))))) hl (q := q) (r := r + 1) (x := x) hwc12 rfl (by omega)) rfl rfl (by decide) (by decide) (Nat.le_of_ble_eq_true rfl) (by decide) (by decide) ?_
  refine Z.eqσ (τ := (zuX (zuX σ 19 (upd (upd (zX σ 19) (r) (nI 20)) (r + 1) (nI 10))) 18 (upd (zX σ 18) 1 (nI (r + 2))))) (by rw [show zX (zuX (zuX σ 19 (upd (zX σ 19) (r) (nI 20))) 18 (upd (zX σ 18) 1 (nI (r + 1)))) 19 = upd (zX σ 19) (r) (nI 20) from rfl, show zX (zuX (zuX σ 19 (upd (zX σ 19) (r) (nI 20))) 18 (upd (zX σ 18) 1 (nI (r + 1)))) 18 = upd (zX σ 18) 1 (nI (r + 1)) from rfl, upd_upd, zuX_sw (by decide), zuX_sw (by decide)]; try rfl) ?_
  have hwc13 : zWo (zuX (zuX σ 19 (upd (upd (zX σ 19) (r) (nI 20)) (r + 1) (nI 10))) 18 (upd (zX σ 18) 1 (nI (r + 2)))) q 2 pa num := (hw.uX (by decide)).uX (by decide)
  refine Z.aload_n B dX7_feels_14 (v := .ref q) rfl rfl ?_
  refine Z.getI (σ := (zuX (zuX σ 19 (upd (upd (zX σ 19) (r) (nI 20)) (r + 1) (nI 10))) 18 (upd (zX σ 18) 1 (nI (r + 2))))) B fX7_9_4 dX7_feels_15 hw.1 hw.2.1 (by decide) (v := nI pa) hwc13.2.2.2.2.2.1 ?_
  refine Z.iadd B dX7_feels_18 ?_
  refine Z.iret B Rt dX7_feels_19 (ty := .int) rfl rfl (by decide) (by decide) ?_
  exact ⟨rfl, rfl⟩

theorem t_C_X9_asks_2 {σ : zSt} (hl : Lay σ) {q pa num r : Nat} {x : Int32} (hw : zWo σ q 2 pa num) (hr : zX σ 18 1 = nI r) (hr20 : r + 3 ≤ 20) : Dt mX9_asks [.ref q, .int x] σ (some (.int ((x + nI num + nI pa) * nI 2))) (zuX (zuX σ 19 (upd (upd (upd (zX σ 19) (r) (nI 11)) (r + 1) (nI 20)) (r + 2) (nI 10))) 18 (upd (zX σ 18) 1 (nI (r + 3)))) := by
  refine Dt.of (by decide) (Nat.le_of_ble_eq_true rfl) fun κ B Rt => ?_
  show Z κ 0 0 σ 0 [(0, .ref q), (1, .int x)] []
  refine Z.aload_n B dX9_asks_0 (v := .ref q) rfl rfl ?_
  refine Z.getR (σ := σ) B fX9_21_4 dX9_asks_1 hw.1 hw.2.1 (by decide) (j := 18) hw.2.2.1 ?_
  refine Z.bipush B dX9_asks_4 (v := nI 11) rfl ?_
  refine Z.callVN (σ := σ) B (M' := mX8_began) (as := [.int (nI 11)]) (st := []) dX9_asks_6 wX8_began iX8_began sX8_began kX9_38 (hl.n (k := 18) (by decide)) (hl.k (k := 18) (by decide)) (by decide) rfl rfl (t_X8_began (σ := σ) hl (r := r) hr (by omega) (b := nI 11)) rfl rfl (by decide) (by decide) (Nat.le_of_ble_eq_true rfl) (by decide) (by decide) ?_
  refine Z.eqσ (τ := (zuX (zuX σ 19 (upd (zX σ 19) (r) (nI 11))) 18 (upd (zX σ 18) 1 (nI (r + 1))))) rfl ?_
  have hwc14 : zWo (zuX (zuX σ 19 (upd (zX σ 19) (r) (nI 11))) 18 (upd (zX σ 18) 1 (nI (r + 1)))) q 2 pa num := (hw.uX (by decide)).uX (by decide)
  refine Z.aload_n B dX9_asks_9 (v := .ref q) rfl rfl ?_
  refine Z.iload_n B dX9_asks_10 (x := x) rfl ?_
  refine Z.callUI (σ := (zuX (zuX σ 19 (upd (zX σ 19) (r) (nI 11))) 18 (upd (zX σ 18) 1 (nI (r + 1))))) B (M' := mX7_feels) (as := [.int x]) (st := []) (v := .int (x + nI num + nI pa)) dX9_asks_11 wX7_feels iX7_feels (x := yX9_feels) (owner := "FourAskOne$Way") kX9_44 (zT_at 981 (by decide +kernel) rfl) iX9_feels wX9_feels.1 (by decide +kernel) hw.1 hw.2.1 (by decide) rfl (zT_at 991 (by decide +kernel) rfl) (t_C_X7_feels_2 (σ := (zuX (zuX σ 19 (upd (zX σ 19) (r) (nI 11))) 18 (upd (zX σ 18) 1 (nI (r + 1))))) hl (q := q) (r := r + 1) (x := x) hwc14 rfl (by omega)) rfl rfl (by decide) (by decide) (Nat.le_of_ble_eq_true rfl) (by decide) (by decide) ?_
  refine Z.eqσ (τ := (zuX (zuX σ 19 (upd (upd (upd (zX σ 19) (r) (nI 11)) (r + 1) (nI 20)) (r + 2) (nI 10))) 18 (upd (zX σ 18) 1 (nI (r + 3))))) (by rw [show zX (zuX (zuX σ 19 (upd (zX σ 19) (r) (nI 11))) 18 (upd (zX σ 18) 1 (nI (r + 1)))) 19 = upd (zX σ 19) (r) (nI 11) from rfl, show zX (zuX (zuX σ 19 (upd (zX σ 19) (r) (nI 11))) 18 (upd (zX σ 18) 1 (nI (r + 1)))) 18 = upd (zX σ 18) 1 (nI (r + 1)) from rfl, upd_upd, zuX_sw (by decide), zuX_sw (by decide)]; try rfl) ?_
  refine Z.iconst B dX9_asks_14 (v := nI 2) rfl ?_
  refine Z.imul B dX9_asks_15 ?_
  refine Z.iret B Rt dX9_asks_16 (ty := .int) rfl rfl (by decide) (by decide) ?_
  exact ⟨rfl, rfl⟩

theorem t_C_X4_asks_2 {σ : zSt} (hl : Lay σ) {q pa num r : Nat} {x : Int32} (hw : zWo σ q 2 pa num) (hr : zX σ 18 1 = nI r) (hr20 : r + 4 ≤ 20) : Dt mX4_asks [.ref q, .int x] σ (some (.int (((x + nI num + nI pa) * nI 2) * nI 3))) (zuX (zuX σ 19 (upd (upd (upd (upd (zX σ 19) (r) (nI 30)) (r + 1) (nI 11)) (r + 2) (nI 20)) (r + 3) (nI 10))) 18 (upd (zX σ 18) 1 (nI (r + 4)))) := by
  refine Dt.of (by decide) (Nat.le_of_ble_eq_true rfl) fun κ B Rt => ?_
  show Z κ 0 0 σ 0 [(0, .ref q), (1, .int x)] []
  refine Z.aload_n B dX4_asks_0 (v := .ref q) rfl rfl ?_
  refine Z.getR (σ := σ) B fX4_11_4 dX4_asks_1 hw.1 hw.2.1 (by decide) (j := 18) hw.2.2.1 ?_
  refine Z.bipush B dX4_asks_4 (v := nI 30) rfl ?_
  refine Z.callVN (σ := σ) B (M' := mX8_began) (as := [.int (nI 30)]) (st := []) dX4_asks_6 wX8_began iX8_began sX8_began kX4_17 (hl.n (k := 18) (by decide)) (hl.k (k := 18) (by decide)) (by decide) rfl rfl (t_X8_began (σ := σ) hl (r := r) hr (by omega) (b := nI 30)) rfl rfl (by decide) (by decide) (Nat.le_of_ble_eq_true rfl) (by decide) (by decide) ?_
  refine Z.eqσ (τ := (zuX (zuX σ 19 (upd (zX σ 19) (r) (nI 30))) 18 (upd (zX σ 18) 1 (nI (r + 1))))) rfl ?_
  have hwc15 : zWo (zuX (zuX σ 19 (upd (zX σ 19) (r) (nI 30))) 18 (upd (zX σ 18) 1 (nI (r + 1)))) q 2 pa num := (hw.uX (by decide)).uX (by decide)
  refine Z.aload_n B dX4_asks_9 (v := .ref q) rfl rfl ?_
  refine Z.iload_n B dX4_asks_10 (x := x) rfl ?_
  refine Z.callSUi (σ := (zuX (zuX σ 19 (upd (zX σ 19) (r) (nI 30))) 18 (upd (zX σ 18) 1 (nI (r + 1))))) B (M' := mX9_asks) (as := [.int x]) (st := []) (v := .int ((x + nI num + nI pa) * nI 2)) dX4_asks_11 (t_C_X9_asks_2 (σ := (zuX (zuX σ 19 (upd (zX σ 19) (r) (nI 30))) 18 (upd (zX σ 18) 1 (nI (r + 1))))) hl (q := q) (r := r + 1) (x := x) hwc15 rfl (by omega)) rfl wX9_asks iX9_asks (x := ⟨"FourAskOne$Talked", "asks", "(I)I"⟩) kX4_23 (zT_at 1018 (by decide +kernel) rfl) ⟨rfl, rfl⟩ (zT_at 332 (by decide +kernel) rfl) (zT_at 521 (by decide +kernel) rfl) (by decide) hw.1 hw.2.1 (by decide) rfl rfl (by decide) (by decide) (Nat.le_of_ble_eq_true rfl) (by decide) (by decide) ?_
  refine Z.eqσ (τ := (zuX (zuX σ 19 (upd (upd (upd (upd (zX σ 19) (r) (nI 30)) (r + 1) (nI 11)) (r + 2) (nI 20)) (r + 3) (nI 10))) 18 (upd (zX σ 18) 1 (nI (r + 4))))) (by rw [show zX (zuX (zuX σ 19 (upd (zX σ 19) (r) (nI 30))) 18 (upd (zX σ 18) 1 (nI (r + 1)))) 19 = upd (zX σ 19) (r) (nI 30) from rfl, show zX (zuX (zuX σ 19 (upd (zX σ 19) (r) (nI 30))) 18 (upd (zX σ 18) 1 (nI (r + 1)))) 18 = upd (zX σ 18) 1 (nI (r + 1)) from rfl, upd_upd, zuX_sw (by decide), zuX_sw (by decide)]; try rfl) ?_
  refine Z.iconst B dX4_asks_14 (v := nI 3) rfl ?_
  refine Z.imul B dX4_asks_15 ?_
  refine Z.iret B Rt dX4_asks_16 (ty := .int) rfl rfl (by decide) (by decide) ?_
  exact ⟨rfl, rfl⟩

theorem t_C_X9_sums_2 {σ : zSt} (hl : Lay σ) {q pa num r : Nat} {x : Int32} (hw : zWo σ q 2 pa num) (hr : zX σ 18 1 = nI r) (hr20 : r + 7 ≤ 20) : Dt mX9_sums [.ref q, .int x] σ (some (.int ((((x + nI num + nI pa) * nI 2) * nI 3) ^^^ ((x - nI pa) + nI num + nI pa)))) (zuX (zuX σ 19 (upd (upd (upd (upd (upd (upd (upd (zX σ 19) (r) (nI 12)) (r + 1) (nI 30)) (r + 2) (nI 11)) (r + 3) (nI 20)) (r + 4) (nI 10)) (r + 5) (nI 20)) (r + 6) (nI 10))) 18 (upd (zX σ 18) 1 (nI (r + 7)))) := by
  refine Dt.of (by decide) (Nat.le_of_ble_eq_true rfl) fun κ B Rt => ?_
  show Z κ 0 0 σ 0 [(0, .ref q), (1, .int x)] []
  refine Z.aload_n B dX9_sums_0 (v := .ref q) rfl rfl ?_
  refine Z.getR (σ := σ) B fX9_21_4 dX9_sums_1 hw.1 hw.2.1 (by decide) (j := 18) hw.2.2.1 ?_
  refine Z.bipush B dX9_sums_4 (v := nI 12) rfl ?_
  refine Z.callVN (σ := σ) B (M' := mX8_began) (as := [.int (nI 12)]) (st := []) dX9_sums_6 wX8_began iX8_began sX8_began kX9_38 (hl.n (k := 18) (by decide)) (hl.k (k := 18) (by decide)) (by decide) rfl rfl (t_X8_began (σ := σ) hl (r := r) hr (by omega) (b := nI 12)) rfl rfl (by decide) (by decide) (Nat.le_of_ble_eq_true rfl) (by decide) (by decide) ?_
  refine Z.eqσ (τ := (zuX (zuX σ 19 (upd (zX σ 19) (r) (nI 12))) 18 (upd (zX σ 18) 1 (nI (r + 1))))) rfl ?_
  have hwc16 : zWo (zuX (zuX σ 19 (upd (zX σ 19) (r) (nI 12))) 18 (upd (zX σ 18) 1 (nI (r + 1)))) q 2 pa num := (hw.uX (by decide)).uX (by decide)
  refine Z.aload_n B dX9_sums_9 (v := .ref q) rfl rfl ?_
  refine Z.iload_n B dX9_sums_10 (x := x) rfl ?_
  refine Z.callUI (σ := (zuX (zuX σ 19 (upd (zX σ 19) (r) (nI 12))) 18 (upd (zX σ 18) 1 (nI (r + 1))))) B (M' := mX4_asks) (as := [.int x]) (st := []) (v := .int (((x + nI num + nI pa) * nI 2) * nI 3)) dX9_sums_11 wX4_asks iX4_asks (x := yX9_asks) (owner := "FourAskOne$Way") kX9_48 (zT_at 1004 (by decide +kernel) rfl) iX9_asks wX9_asks.1 (by decide +kernel) hw.1 hw.2.1 (by decide) rfl (zT_at 1013 (by decide +kernel) rfl) (t_C_X4_asks_2 (σ := (zuX (zuX σ 19 (upd (zX σ 19) (r) (nI 12))) 18 (upd (zX σ 18) 1 (nI (r + 1))))) hl (q := q) (r := r + 1) (x := x) hwc16 rfl (by omega)) rfl rfl (by decide) (by decide) (Nat.le_of_ble_eq_true rfl) (by decide) (by decide) ?_
  refine Z.eqσ (τ := (zuX (zuX σ 19 (upd (upd (upd (upd (upd (zX σ 19) (r) (nI 12)) (r + 1) (nI 30)) (r + 2) (nI 11)) (r + 3) (nI 20)) (r + 4) (nI 10))) 18 (upd (zX σ 18) 1 (nI (r + 5))))) (by rw [show zX (zuX (zuX σ 19 (upd (zX σ 19) (r) (nI 12))) 18 (upd (zX σ 18) 1 (nI (r + 1)))) 19 = upd (zX σ 19) (r) (nI 12) from rfl, show zX (zuX (zuX σ 19 (upd (zX σ 19) (r) (nI 12))) 18 (upd (zX σ 18) 1 (nI (r + 1)))) 18 = upd (zX σ 18) 1 (nI (r + 1)) from rfl, upd_upd, zuX_sw (by decide), zuX_sw (by decide)]; try rfl) ?_
  have hwc17 : zWo (zuX (zuX σ 19 (upd (upd (upd (upd (upd (zX σ 19) (r) (nI 12)) (r + 1) (nI 30)) (r + 2) (nI 11)) (r + 3) (nI 20)) (r + 4) (nI 10))) 18 (upd (zX σ 18) 1 (nI (r + 5)))) q 2 pa num := (hw.uX (by decide)).uX (by decide)
  refine Z.aload_n B dX9_sums_14 (v := .ref q) rfl rfl ?_
  refine Z.iload_n B dX9_sums_15 (x := x) rfl ?_
  refine Z.aload_n B dX9_sums_16 (v := .ref q) rfl rfl ?_
  refine Z.getI (σ := (zuX (zuX σ 19 (upd (upd (upd (upd (upd (zX σ 19) (r) (nI 12)) (r + 1) (nI 30)) (r + 2) (nI 11)) (r + 3) (nI 20)) (r + 4) (nI 10))) 18 (upd (zX σ 18) 1 (nI (r + 5))))) B fX9_18_4 dX9_sums_17 hw.1 hw.2.1 (by decide) (v := nI pa) hwc17.2.2.2.2.2.1 ?_
  refine Z.isub B dX9_sums_20 ?_
  refine Z.callUI (σ := (zuX (zuX σ 19 (upd (upd (upd (upd (upd (zX σ 19) (r) (nI 12)) (r + 1) (nI 30)) (r + 2) (nI 11)) (r + 3) (nI 20)) (r + 4) (nI 10))) 18 (upd (zX σ 18) 1 (nI (r + 5))))) B (M' := mX7_feels) (as := [.int (x - (nI pa))]) (st := [.int (((x + nI num + nI pa) * nI 2) * nI 3)]) (v := .int ((x - nI pa) + nI num + nI pa)) dX9_sums_21 wX7_feels iX7_feels (x := yX9_feels) (owner := "FourAskOne$Way") kX9_44 (zT_at 981 (by decide +kernel) rfl) iX9_feels wX9_feels.1 (by decide +kernel) hw.1 hw.2.1 (by decide) rfl (zT_at 991 (by decide +kernel) rfl) (t_C_X7_feels_2 (σ := (zuX (zuX σ 19 (upd (upd (upd (upd (upd (zX σ 19) (r) (nI 12)) (r + 1) (nI 30)) (r + 2) (nI 11)) (r + 3) (nI 20)) (r + 4) (nI 10))) 18 (upd (zX σ 18) 1 (nI (r + 5))))) hl (q := q) (r := r + 5) (x := (x - nI pa)) hwc17 rfl (by omega)) rfl rfl (by decide) (by decide) (Nat.le_of_ble_eq_true rfl) (by decide) (by decide) ?_
  refine Z.eqσ (τ := (zuX (zuX σ 19 (upd (upd (upd (upd (upd (upd (upd (zX σ 19) (r) (nI 12)) (r + 1) (nI 30)) (r + 2) (nI 11)) (r + 3) (nI 20)) (r + 4) (nI 10)) (r + 5) (nI 20)) (r + 6) (nI 10))) 18 (upd (zX σ 18) 1 (nI (r + 7))))) (by rw [show zX (zuX (zuX σ 19 (upd (upd (upd (upd (upd (zX σ 19) (r) (nI 12)) (r + 1) (nI 30)) (r + 2) (nI 11)) (r + 3) (nI 20)) (r + 4) (nI 10))) 18 (upd (zX σ 18) 1 (nI (r + 5)))) 19 = upd (upd (upd (upd (upd (zX σ 19) (r) (nI 12)) (r + 1) (nI 30)) (r + 2) (nI 11)) (r + 3) (nI 20)) (r + 4) (nI 10) from rfl, show zX (zuX (zuX σ 19 (upd (upd (upd (upd (upd (zX σ 19) (r) (nI 12)) (r + 1) (nI 30)) (r + 2) (nI 11)) (r + 3) (nI 20)) (r + 4) (nI 10))) 18 (upd (zX σ 18) 1 (nI (r + 5)))) 18 = upd (zX σ 18) 1 (nI (r + 5)) from rfl, upd_upd, zuX_sw (by decide), zuX_sw (by decide)]; try rfl) ?_
  refine Z.ixor B dX9_sums_24 ?_
  refine Z.iret B Rt dX9_sums_25 (ty := .int) rfl rfl (by decide) (by decide) ?_
  exact ⟨rfl, rfl⟩

theorem t_C_X9_feels_3 {σ : zSt} (hl : Lay σ) {q pa num r : Nat} {x : Int32} (hw : zWo σ q 3 pa num) (hr : zX σ 18 1 = nI r) (hr20 : r + 1 ≤ 20) : Dt mX9_feels [.ref q, .int x] σ (some (.int (x + nI num))) (zuX (zuX σ 19 (upd (zX σ 19) (r) (nI 10))) 18 (upd (zX σ 18) 1 (nI (r + 1)))) := by
  refine Dt.of (by decide) (Nat.le_of_ble_eq_true rfl) fun κ B Rt => ?_
  show Z κ 0 0 σ 0 [(0, .ref q), (1, .int x)] []
  refine Z.aload_n B dX9_feels_0 (v := .ref q) rfl rfl ?_
  refine Z.getR (σ := σ) B fX9_21_10 dX9_feels_1 hw.1 hw.2.1 (by decide) (j := 18) hw.2.2.1 ?_
  refine Z.bipush B dX9_feels_4 (v := nI 10) rfl ?_
  refine Z.callVN (σ := σ) B (M' := mX8_began) (as := [.int (nI 10)]) (st := []) dX9_feels_6 wX8_began iX8_began sX8_began kX9_38 (hl.n (k := 18) (by decide)) (hl.k (k := 18) (by decide)) (by decide) rfl rfl (t_X8_began (σ := σ) hl (r := r) hr (by omega) (b := nI 10)) rfl rfl (by decide) (by decide) (Nat.le_of_ble_eq_true rfl) (by decide) (by decide) ?_
  refine Z.eqσ (τ := (zuX (zuX σ 19 (upd (zX σ 19) (r) (nI 10))) 18 (upd (zX σ 18) 1 (nI (r + 1))))) rfl ?_
  have hwc18 : zWo (zuX (zuX σ 19 (upd (zX σ 19) (r) (nI 10))) 18 (upd (zX σ 18) 1 (nI (r + 1)))) q 3 pa num := (hw.uX (by decide)).uX (by decide)
  refine Z.iload_n B dX9_feels_9 (x := x) rfl ?_
  refine Z.aload_n B dX9_feels_10 (v := .ref q) rfl rfl ?_
  refine Z.getI (σ := (zuX (zuX σ 19 (upd (zX σ 19) (r) (nI 10))) 18 (upd (zX σ 18) 1 (nI (r + 1))))) B fX9_15_10 dX9_feels_11 hw.1 hw.2.1 (by decide) (v := nI num) hwc18.2.2.2.2.1 ?_
  refine Z.iadd B dX9_feels_14 ?_
  refine Z.iret B Rt dX9_feels_15 (ty := .int) rfl rfl (by decide) (by decide) ?_
  exact ⟨rfl, rfl⟩

theorem t_C_X9_asks_3 {σ : zSt} (hl : Lay σ) {q pa num r : Nat} {x : Int32} (hw : zWo σ q 3 pa num) (hr : zX σ 18 1 = nI r) (hr20 : r + 2 ≤ 20) : Dt mX9_asks [.ref q, .int x] σ (some (.int ((x + nI num) * nI 2))) (zuX (zuX σ 19 (upd (upd (zX σ 19) (r) (nI 11)) (r + 1) (nI 10))) 18 (upd (zX σ 18) 1 (nI (r + 2)))) := by
  refine Dt.of (by decide) (Nat.le_of_ble_eq_true rfl) fun κ B Rt => ?_
  show Z κ 0 0 σ 0 [(0, .ref q), (1, .int x)] []
  refine Z.aload_n B dX9_asks_0 (v := .ref q) rfl rfl ?_
  refine Z.getR (σ := σ) B fX9_21_10 dX9_asks_1 hw.1 hw.2.1 (by decide) (j := 18) hw.2.2.1 ?_
  refine Z.bipush B dX9_asks_4 (v := nI 11) rfl ?_
  refine Z.callVN (σ := σ) B (M' := mX8_began) (as := [.int (nI 11)]) (st := []) dX9_asks_6 wX8_began iX8_began sX8_began kX9_38 (hl.n (k := 18) (by decide)) (hl.k (k := 18) (by decide)) (by decide) rfl rfl (t_X8_began (σ := σ) hl (r := r) hr (by omega) (b := nI 11)) rfl rfl (by decide) (by decide) (Nat.le_of_ble_eq_true rfl) (by decide) (by decide) ?_
  refine Z.eqσ (τ := (zuX (zuX σ 19 (upd (zX σ 19) (r) (nI 11))) 18 (upd (zX σ 18) 1 (nI (r + 1))))) rfl ?_
  have hwc19 : zWo (zuX (zuX σ 19 (upd (zX σ 19) (r) (nI 11))) 18 (upd (zX σ 18) 1 (nI (r + 1)))) q 3 pa num := (hw.uX (by decide)).uX (by decide)
  refine Z.aload_n B dX9_asks_9 (v := .ref q) rfl rfl ?_
  refine Z.iload_n B dX9_asks_10 (x := x) rfl ?_
  refine Z.callUI (σ := (zuX (zuX σ 19 (upd (zX σ 19) (r) (nI 11))) 18 (upd (zX σ 18) 1 (nI (r + 1))))) B (M' := mX9_feels) (as := [.int x]) (st := []) (v := .int (x + nI num)) dX9_asks_11 wX9_feels iX9_feels (x := yX9_feels) (owner := "FourAskOne$Way") kX9_44 (zT_at 981 (by decide +kernel) rfl) iX9_feels wX9_feels.1 (by decide +kernel) hw.1 hw.2.1 (by decide) rfl (zT_at 998 (by decide +kernel) rfl) (t_C_X9_feels_3 (σ := (zuX (zuX σ 19 (upd (zX σ 19) (r) (nI 11))) 18 (upd (zX σ 18) 1 (nI (r + 1))))) hl (q := q) (r := r + 1) (x := x) hwc19 rfl (by omega)) rfl rfl (by decide) (by decide) (Nat.le_of_ble_eq_true rfl) (by decide) (by decide) ?_
  refine Z.eqσ (τ := (zuX (zuX σ 19 (upd (upd (zX σ 19) (r) (nI 11)) (r + 1) (nI 10))) 18 (upd (zX σ 18) 1 (nI (r + 2))))) (by rw [show zX (zuX (zuX σ 19 (upd (zX σ 19) (r) (nI 11))) 18 (upd (zX σ 18) 1 (nI (r + 1)))) 19 = upd (zX σ 19) (r) (nI 11) from rfl, show zX (zuX (zuX σ 19 (upd (zX σ 19) (r) (nI 11))) 18 (upd (zX σ 18) 1 (nI (r + 1)))) 18 = upd (zX σ 18) 1 (nI (r + 1)) from rfl, upd_upd, zuX_sw (by decide), zuX_sw (by decide)]; try rfl) ?_
  refine Z.iconst B dX9_asks_14 (v := nI 2) rfl ?_
  refine Z.imul B dX9_asks_15 ?_
  refine Z.iret B Rt dX9_asks_16 (ty := .int) rfl rfl (by decide) (by decide) ?_
  exact ⟨rfl, rfl⟩

theorem t_C_X10_asks_3 {σ : zSt} (hl : Lay σ) {q pa num r : Nat} {x : Int32} (hw : zWo σ q 3 pa num) (hr : zX σ 18 1 = nI r) (hr20 : r + 3 ≤ 20) : Dt mX10_asks [.ref q, .int x] σ (some (.int (((x + nI 1) + nI num) * nI 2))) (zuX (zuX σ 19 (upd (upd (upd (zX σ 19) (r) (nI 40)) (r + 1) (nI 11)) (r + 2) (nI 10))) 18 (upd (zX σ 18) 1 (nI (r + 3)))) := by
  refine Dt.of (by decide) (Nat.le_of_ble_eq_true rfl) fun κ B Rt => ?_
  show Z κ 0 0 σ 0 [(0, .ref q), (1, .int x)] []
  refine Z.aload_n B dX10_asks_0 (v := .ref q) rfl rfl ?_
  refine Z.getR (σ := σ) B fX10_25_10 dX10_asks_1 hw.1 hw.2.1 (by decide) (j := 18) hw.2.2.1 ?_
  refine Z.bipush B dX10_asks_4 (v := nI 40) rfl ?_
  refine Z.callVN (σ := σ) B (M' := mX8_began) (as := [.int (nI 40)]) (st := []) dX10_asks_6 wX8_began iX8_began sX8_began kX10_29 (hl.n (k := 18) (by decide)) (hl.k (k := 18) (by decide)) (by decide) rfl rfl (t_X8_began (σ := σ) hl (r := r) hr (by omega) (b := nI 40)) rfl rfl (by decide) (by decide) (Nat.le_of_ble_eq_true rfl) (by decide) (by decide) ?_
  refine Z.eqσ (τ := (zuX (zuX σ 19 (upd (zX σ 19) (r) (nI 40))) 18 (upd (zX σ 18) 1 (nI (r + 1))))) rfl ?_
  have hwc20 : zWo (zuX (zuX σ 19 (upd (zX σ 19) (r) (nI 40))) 18 (upd (zX σ 18) 1 (nI (r + 1)))) q 3 pa num := (hw.uX (by decide)).uX (by decide)
  refine Z.aload_n B dX10_asks_9 (v := .ref q) rfl rfl ?_
  refine Z.iload_n B dX10_asks_10 (x := x) rfl ?_
  refine Z.iconst B dX10_asks_11 (v := nI 1) rfl ?_
  refine Z.iadd B dX10_asks_12 ?_
  refine Z.callSUI (σ := (zuX (zuX σ 19 (upd (zX σ 19) (r) (nI 40))) 18 (upd (zX σ 18) 1 (nI (r + 1))))) B (M' := mX9_asks) (as := [.int (x + (nI 1))]) (st := []) (v := .int (((x + nI 1) + nI num) * nI 2)) dX10_asks_13 wX9_asks iX9_asks kX10_35 (zT_at 1004 (by decide +kernel) rfl) (zT_at 542 (by decide +kernel) rfl) (by decide) hw.1 hw.2.1 (by decide) rfl (t_C_X9_asks_3 (σ := (zuX (zuX σ 19 (upd (zX σ 19) (r) (nI 40))) 18 (upd (zX σ 18) 1 (nI (r + 1))))) hl (q := q) (r := r + 1) (x := (x + nI 1)) hwc20 rfl (by omega)) rfl rfl (by decide) (by decide) (Nat.le_of_ble_eq_true rfl) (by decide) (by decide) ?_
  refine Z.eqσ (τ := (zuX (zuX σ 19 (upd (upd (upd (zX σ 19) (r) (nI 40)) (r + 1) (nI 11)) (r + 2) (nI 10))) 18 (upd (zX σ 18) 1 (nI (r + 3))))) (by rw [show zX (zuX (zuX σ 19 (upd (zX σ 19) (r) (nI 40))) 18 (upd (zX σ 18) 1 (nI (r + 1)))) 19 = upd (zX σ 19) (r) (nI 40) from rfl, show zX (zuX (zuX σ 19 (upd (zX σ 19) (r) (nI 40))) 18 (upd (zX σ 18) 1 (nI (r + 1)))) 18 = upd (zX σ 18) 1 (nI (r + 1)) from rfl, upd_upd, zuX_sw (by decide), zuX_sw (by decide)]; try rfl) ?_
  refine Z.iret B Rt dX10_asks_16 (ty := .int) rfl rfl (by decide) (by decide) ?_
  exact ⟨rfl, rfl⟩

theorem t_C_X9_sums_3 {σ : zSt} (hl : Lay σ) {q pa num r : Nat} {x : Int32} (hw : zWo σ q 3 pa num) (hr : zX σ 18 1 = nI r) (hr20 : r + 5 ≤ 20) : Dt mX9_sums [.ref q, .int x] σ (some (.int ((((x + nI 1) + nI num) * nI 2) ^^^ ((x - nI pa) + nI num)))) (zuX (zuX σ 19 (upd (upd (upd (upd (upd (zX σ 19) (r) (nI 12)) (r + 1) (nI 40)) (r + 2) (nI 11)) (r + 3) (nI 10)) (r + 4) (nI 10))) 18 (upd (zX σ 18) 1 (nI (r + 5)))) := by
  refine Dt.of (by decide) (Nat.le_of_ble_eq_true rfl) fun κ B Rt => ?_
  show Z κ 0 0 σ 0 [(0, .ref q), (1, .int x)] []
  refine Z.aload_n B dX9_sums_0 (v := .ref q) rfl rfl ?_
  refine Z.getR (σ := σ) B fX9_21_10 dX9_sums_1 hw.1 hw.2.1 (by decide) (j := 18) hw.2.2.1 ?_
  refine Z.bipush B dX9_sums_4 (v := nI 12) rfl ?_
  refine Z.callVN (σ := σ) B (M' := mX8_began) (as := [.int (nI 12)]) (st := []) dX9_sums_6 wX8_began iX8_began sX8_began kX9_38 (hl.n (k := 18) (by decide)) (hl.k (k := 18) (by decide)) (by decide) rfl rfl (t_X8_began (σ := σ) hl (r := r) hr (by omega) (b := nI 12)) rfl rfl (by decide) (by decide) (Nat.le_of_ble_eq_true rfl) (by decide) (by decide) ?_
  refine Z.eqσ (τ := (zuX (zuX σ 19 (upd (zX σ 19) (r) (nI 12))) 18 (upd (zX σ 18) 1 (nI (r + 1))))) rfl ?_
  have hwc21 : zWo (zuX (zuX σ 19 (upd (zX σ 19) (r) (nI 12))) 18 (upd (zX σ 18) 1 (nI (r + 1)))) q 3 pa num := (hw.uX (by decide)).uX (by decide)
  refine Z.aload_n B dX9_sums_9 (v := .ref q) rfl rfl ?_
  refine Z.iload_n B dX9_sums_10 (x := x) rfl ?_
  refine Z.callUI (σ := (zuX (zuX σ 19 (upd (zX σ 19) (r) (nI 12))) 18 (upd (zX σ 18) 1 (nI (r + 1))))) B (M' := mX10_asks) (as := [.int x]) (st := []) (v := .int (((x + nI 1) + nI num) * nI 2)) dX9_sums_11 wX10_asks iX10_asks (x := yX9_asks) (owner := "FourAskOne$Way") kX9_48 (zT_at 1004 (by decide +kernel) rfl) iX9_asks wX9_asks.1 (by decide +kernel) hw.1 hw.2.1 (by decide) rfl (zT_at 1021 (by decide +kernel) rfl) (t_C_X10_asks_3 (σ := (zuX (zuX σ 19 (upd (zX σ 19) (r) (nI 12))) 18 (upd (zX σ 18) 1 (nI (r + 1))))) hl (q := q) (r := r + 1) (x := x) hwc21 rfl (by omega)) rfl rfl (by decide) (by decide) (Nat.le_of_ble_eq_true rfl) (by decide) (by decide) ?_
  refine Z.eqσ (τ := (zuX (zuX σ 19 (upd (upd (upd (upd (zX σ 19) (r) (nI 12)) (r + 1) (nI 40)) (r + 2) (nI 11)) (r + 3) (nI 10))) 18 (upd (zX σ 18) 1 (nI (r + 4))))) (by rw [show zX (zuX (zuX σ 19 (upd (zX σ 19) (r) (nI 12))) 18 (upd (zX σ 18) 1 (nI (r + 1)))) 19 = upd (zX σ 19) (r) (nI 12) from rfl, show zX (zuX (zuX σ 19 (upd (zX σ 19) (r) (nI 12))) 18 (upd (zX σ 18) 1 (nI (r + 1)))) 18 = upd (zX σ 18) 1 (nI (r + 1)) from rfl, upd_upd, zuX_sw (by decide), zuX_sw (by decide)]; try rfl) ?_
  have hwc22 : zWo (zuX (zuX σ 19 (upd (upd (upd (upd (zX σ 19) (r) (nI 12)) (r + 1) (nI 40)) (r + 2) (nI 11)) (r + 3) (nI 10))) 18 (upd (zX σ 18) 1 (nI (r + 4)))) q 3 pa num := (hw.uX (by decide)).uX (by decide)
  refine Z.aload_n B dX9_sums_14 (v := .ref q) rfl rfl ?_
  refine Z.iload_n B dX9_sums_15 (x := x) rfl ?_
  refine Z.aload_n B dX9_sums_16 (v := .ref q) rfl rfl ?_
  refine Z.getI (σ := (zuX (zuX σ 19 (upd (upd (upd (upd (zX σ 19) (r) (nI 12)) (r + 1) (nI 40)) (r + 2) (nI 11)) (r + 3) (nI 10))) 18 (upd (zX σ 18) 1 (nI (r + 4))))) B fX9_18_10 dX9_sums_17 hw.1 hw.2.1 (by decide) (v := nI pa) hwc22.2.2.2.2.2.1 ?_
  refine Z.isub B dX9_sums_20 ?_
  refine Z.callUI (σ := (zuX (zuX σ 19 (upd (upd (upd (upd (zX σ 19) (r) (nI 12)) (r + 1) (nI 40)) (r + 2) (nI 11)) (r + 3) (nI 10))) 18 (upd (zX σ 18) 1 (nI (r + 4))))) B (M' := mX9_feels) (as := [.int (x - (nI pa))]) (st := [.int (((x + nI 1) + nI num) * nI 2)]) (v := .int ((x - nI pa) + nI num)) dX9_sums_21 wX9_feels iX9_feels (x := yX9_feels) (owner := "FourAskOne$Way") kX9_44 (zT_at 981 (by decide +kernel) rfl) iX9_feels wX9_feels.1 (by decide +kernel) hw.1 hw.2.1 (by decide) rfl (zT_at 998 (by decide +kernel) rfl) (t_C_X9_feels_3 (σ := (zuX (zuX σ 19 (upd (upd (upd (upd (zX σ 19) (r) (nI 12)) (r + 1) (nI 40)) (r + 2) (nI 11)) (r + 3) (nI 10))) 18 (upd (zX σ 18) 1 (nI (r + 4))))) hl (q := q) (r := r + 4) (x := (x - nI pa)) hwc22 rfl (by omega)) rfl rfl (by decide) (by decide) (Nat.le_of_ble_eq_true rfl) (by decide) (by decide) ?_
  refine Z.eqσ (τ := (zuX (zuX σ 19 (upd (upd (upd (upd (upd (zX σ 19) (r) (nI 12)) (r + 1) (nI 40)) (r + 2) (nI 11)) (r + 3) (nI 10)) (r + 4) (nI 10))) 18 (upd (zX σ 18) 1 (nI (r + 5))))) (by rw [show zX (zuX (zuX σ 19 (upd (upd (upd (upd (zX σ 19) (r) (nI 12)) (r + 1) (nI 40)) (r + 2) (nI 11)) (r + 3) (nI 10))) 18 (upd (zX σ 18) 1 (nI (r + 4)))) 19 = upd (upd (upd (upd (zX σ 19) (r) (nI 12)) (r + 1) (nI 40)) (r + 2) (nI 11)) (r + 3) (nI 10) from rfl, show zX (zuX (zuX σ 19 (upd (upd (upd (upd (zX σ 19) (r) (nI 12)) (r + 1) (nI 40)) (r + 2) (nI 11)) (r + 3) (nI 10))) 18 (upd (zX σ 18) 1 (nI (r + 4)))) 18 = upd (zX σ 18) 1 (nI (r + 4)) from rfl, upd_upd, zuX_sw (by decide), zuX_sw (by decide)]; try rfl) ?_
  refine Z.ixor B dX9_sums_24 ?_
  refine Z.iret B Rt dX9_sums_25 (ty := .int) rfl rfl (by decide) (by decide) ?_
  exact ⟨rfl, rfl⟩

theorem t_C_X10_sums_3 {σ : zSt} (hl : Lay σ) {q pa num r : Nat} {x : Int32} (hw : zWo σ q 3 pa num) (hr : zX σ 18 1 = nI r) (hr20 : r + 6 ≤ 20) : Dt mX10_sums [.ref q, .int x] σ (some (.int (((((x + nI 1) + nI num) * nI 2) ^^^ ((x - nI pa) + nI num)) - nI num))) (zuX (zuX σ 19 (upd (upd (upd (upd (upd (upd (zX σ 19) (r) (nI 41)) (r + 1) (nI 12)) (r + 2) (nI 40)) (r + 3) (nI 11)) (r + 4) (nI 10)) (r + 5) (nI 10))) 18 (upd (zX σ 18) 1 (nI (r + 6)))) := by
  refine Dt.of (by decide) (Nat.le_of_ble_eq_true rfl) fun κ B Rt => ?_
  show Z κ 0 0 σ 0 [(0, .ref q), (1, .int x)] []
  refine Z.aload_n B dX10_sums_0 (v := .ref q) rfl rfl ?_
  refine Z.getR (σ := σ) B fX10_25_10 dX10_sums_1 hw.1 hw.2.1 (by decide) (j := 18) hw.2.2.1 ?_
  refine Z.bipush B dX10_sums_4 (v := nI 41) rfl ?_
  refine Z.callVN (σ := σ) B (M' := mX8_began) (as := [.int (nI 41)]) (st := []) dX10_sums_6 wX8_began iX8_began sX8_began kX10_29 (hl.n (k := 18) (by decide)) (hl.k (k := 18) (by decide)) (by decide) rfl rfl (t_X8_began (σ := σ) hl (r := r) hr (by omega) (b := nI 41)) rfl rfl (by decide) (by decide) (Nat.le_of_ble_eq_true rfl) (by decide) (by decide) ?_
  refine Z.eqσ (τ := (zuX (zuX σ 19 (upd (zX σ 19) (r) (nI 41))) 18 (upd (zX σ 18) 1 (nI (r + 1))))) rfl ?_
  have hwc23 : zWo (zuX (zuX σ 19 (upd (zX σ 19) (r) (nI 41))) 18 (upd (zX σ 18) 1 (nI (r + 1)))) q 3 pa num := (hw.uX (by decide)).uX (by decide)
  refine Z.aload_n B dX10_sums_9 (v := .ref q) rfl rfl ?_
  refine Z.iload_n B dX10_sums_10 (x := x) rfl ?_
  refine Z.callSUI (σ := (zuX (zuX σ 19 (upd (zX σ 19) (r) (nI 41))) 18 (upd (zX σ 18) 1 (nI (r + 1))))) B (M' := mX9_sums) (as := [.int x]) (st := []) (v := .int ((((x + nI 1) + nI num) * nI 2) ^^^ ((x - nI pa) + nI num))) dX10_sums_11 wX9_sums iX9_sums kX10_39 (zT_at 1031 (by decide +kernel) rfl) (zT_at 542 (by decide +kernel) rfl) (by decide) hw.1 hw.2.1 (by decide) rfl (t_C_X9_sums_3 (σ := (zuX (zuX σ 19 (upd (zX σ 19) (r) (nI 41))) 18 (upd (zX σ 18) 1 (nI (r + 1))))) hl (q := q) (r := r + 1) (x := x) hwc23 rfl (by omega)) rfl rfl (by decide) (by decide) (Nat.le_of_ble_eq_true rfl) (by decide) (by decide) ?_
  refine Z.eqσ (τ := (zuX (zuX σ 19 (upd (upd (upd (upd (upd (upd (zX σ 19) (r) (nI 41)) (r + 1) (nI 12)) (r + 2) (nI 40)) (r + 3) (nI 11)) (r + 4) (nI 10)) (r + 5) (nI 10))) 18 (upd (zX σ 18) 1 (nI (r + 6))))) (by rw [show zX (zuX (zuX σ 19 (upd (zX σ 19) (r) (nI 41))) 18 (upd (zX σ 18) 1 (nI (r + 1)))) 19 = upd (zX σ 19) (r) (nI 41) from rfl, show zX (zuX (zuX σ 19 (upd (zX σ 19) (r) (nI 41))) 18 (upd (zX σ 18) 1 (nI (r + 1)))) 18 = upd (zX σ 18) 1 (nI (r + 1)) from rfl, upd_upd, zuX_sw (by decide), zuX_sw (by decide)]; try rfl) ?_
  have hwc24 : zWo (zuX (zuX σ 19 (upd (upd (upd (upd (upd (upd (zX σ 19) (r) (nI 41)) (r + 1) (nI 12)) (r + 2) (nI 40)) (r + 3) (nI 11)) (r + 4) (nI 10)) (r + 5) (nI 10))) 18 (upd (zX σ 18) 1 (nI (r + 6)))) q 3 pa num := (hw.uX (by decide)).uX (by decide)
  refine Z.aload_n B dX10_sums_14 (v := .ref q) rfl rfl ?_
  refine Z.getI (σ := (zuX (zuX σ 19 (upd (upd (upd (upd (upd (upd (zX σ 19) (r) (nI 41)) (r + 1) (nI 12)) (r + 2) (nI 40)) (r + 3) (nI 11)) (r + 4) (nI 10)) (r + 5) (nI 10))) 18 (upd (zX σ 18) 1 (nI (r + 6))))) B fX10_42_10 dX10_sums_15 hw.1 hw.2.1 (by decide) (v := nI num) hwc24.2.2.2.2.1 ?_
  refine Z.isub B dX10_sums_18 ?_
  refine Z.iret B Rt dX10_sums_19 (ty := .int) rfl rfl (by decide) (by decide) ?_
  exact ⟨rfl, rfl⟩

theorem t_C_X9_feels_4 {σ : zSt} (hl : Lay σ) {q pa num r : Nat} {x : Int32} (hw : zWo σ q 4 pa num) (hr : zX σ 18 1 = nI r) (hr20 : r + 1 ≤ 20) : Dt mX9_feels [.ref q, .int x] σ (some (.int (x + nI num))) (zuX (zuX σ 19 (upd (zX σ 19) (r) (nI 10))) 18 (upd (zX σ 18) 1 (nI (r + 1)))) := by
  refine Dt.of (by decide) (Nat.le_of_ble_eq_true rfl) fun κ B Rt => ?_
  show Z κ 0 0 σ 0 [(0, .ref q), (1, .int x)] []
  refine Z.aload_n B dX9_feels_0 (v := .ref q) rfl rfl ?_
  refine Z.getR (σ := σ) B fX9_21_3 dX9_feels_1 hw.1 hw.2.1 (by decide) (j := 18) hw.2.2.1 ?_
  refine Z.bipush B dX9_feels_4 (v := nI 10) rfl ?_
  refine Z.callVN (σ := σ) B (M' := mX8_began) (as := [.int (nI 10)]) (st := []) dX9_feels_6 wX8_began iX8_began sX8_began kX9_38 (hl.n (k := 18) (by decide)) (hl.k (k := 18) (by decide)) (by decide) rfl rfl (t_X8_began (σ := σ) hl (r := r) hr (by omega) (b := nI 10)) rfl rfl (by decide) (by decide) (Nat.le_of_ble_eq_true rfl) (by decide) (by decide) ?_
  refine Z.eqσ (τ := (zuX (zuX σ 19 (upd (zX σ 19) (r) (nI 10))) 18 (upd (zX σ 18) 1 (nI (r + 1))))) rfl ?_
  have hwc25 : zWo (zuX (zuX σ 19 (upd (zX σ 19) (r) (nI 10))) 18 (upd (zX σ 18) 1 (nI (r + 1)))) q 4 pa num := (hw.uX (by decide)).uX (by decide)
  refine Z.iload_n B dX9_feels_9 (x := x) rfl ?_
  refine Z.aload_n B dX9_feels_10 (v := .ref q) rfl rfl ?_
  refine Z.getI (σ := (zuX (zuX σ 19 (upd (zX σ 19) (r) (nI 10))) 18 (upd (zX σ 18) 1 (nI (r + 1))))) B fX9_15_3 dX9_feels_11 hw.1 hw.2.1 (by decide) (v := nI num) hwc25.2.2.2.2.1 ?_
  refine Z.iadd B dX9_feels_14 ?_
  refine Z.iret B Rt dX9_feels_15 (ty := .int) rfl rfl (by decide) (by decide) ?_
  exact ⟨rfl, rfl⟩

theorem t_C_X9_asks_4 {σ : zSt} (hl : Lay σ) {q pa num r : Nat} {x : Int32} (hw : zWo σ q 4 pa num) (hr : zX σ 18 1 = nI r) (hr20 : r + 2 ≤ 20) : Dt mX9_asks [.ref q, .int x] σ (some (.int ((x + nI num) * nI 2))) (zuX (zuX σ 19 (upd (upd (zX σ 19) (r) (nI 11)) (r + 1) (nI 10))) 18 (upd (zX σ 18) 1 (nI (r + 2)))) := by
  refine Dt.of (by decide) (Nat.le_of_ble_eq_true rfl) fun κ B Rt => ?_
  show Z κ 0 0 σ 0 [(0, .ref q), (1, .int x)] []
  refine Z.aload_n B dX9_asks_0 (v := .ref q) rfl rfl ?_
  refine Z.getR (σ := σ) B fX9_21_3 dX9_asks_1 hw.1 hw.2.1 (by decide) (j := 18) hw.2.2.1 ?_
  refine Z.bipush B dX9_asks_4 (v := nI 11) rfl ?_
  refine Z.callVN (σ := σ) B (M' := mX8_began) (as := [.int (nI 11)]) (st := []) dX9_asks_6 wX8_began iX8_began sX8_began kX9_38 (hl.n (k := 18) (by decide)) (hl.k (k := 18) (by decide)) (by decide) rfl rfl (t_X8_began (σ := σ) hl (r := r) hr (by omega) (b := nI 11)) rfl rfl (by decide) (by decide) (Nat.le_of_ble_eq_true rfl) (by decide) (by decide) ?_
  refine Z.eqσ (τ := (zuX (zuX σ 19 (upd (zX σ 19) (r) (nI 11))) 18 (upd (zX σ 18) 1 (nI (r + 1))))) rfl ?_
  have hwc26 : zWo (zuX (zuX σ 19 (upd (zX σ 19) (r) (nI 11))) 18 (upd (zX σ 18) 1 (nI (r + 1)))) q 4 pa num := (hw.uX (by decide)).uX (by decide)
  refine Z.aload_n B dX9_asks_9 (v := .ref q) rfl rfl ?_
  refine Z.iload_n B dX9_asks_10 (x := x) rfl ?_
  refine Z.callUI (σ := (zuX (zuX σ 19 (upd (zX σ 19) (r) (nI 11))) 18 (upd (zX σ 18) 1 (nI (r + 1))))) B (M' := mX9_feels) (as := [.int x]) (st := []) (v := .int (x + nI num)) dX9_asks_11 wX9_feels iX9_feels (x := yX9_feels) (owner := "FourAskOne$Way") kX9_44 (zT_at 981 (by decide +kernel) rfl) iX9_feels wX9_feels.1 (by decide +kernel) hw.1 hw.2.1 (by decide) rfl (zT_at 990 (by decide +kernel) rfl) (t_C_X9_feels_4 (σ := (zuX (zuX σ 19 (upd (zX σ 19) (r) (nI 11))) 18 (upd (zX σ 18) 1 (nI (r + 1))))) hl (q := q) (r := r + 1) (x := x) hwc26 rfl (by omega)) rfl rfl (by decide) (by decide) (Nat.le_of_ble_eq_true rfl) (by decide) (by decide) ?_
  refine Z.eqσ (τ := (zuX (zuX σ 19 (upd (upd (zX σ 19) (r) (nI 11)) (r + 1) (nI 10))) 18 (upd (zX σ 18) 1 (nI (r + 2))))) (by rw [show zX (zuX (zuX σ 19 (upd (zX σ 19) (r) (nI 11))) 18 (upd (zX σ 18) 1 (nI (r + 1)))) 19 = upd (zX σ 19) (r) (nI 11) from rfl, show zX (zuX (zuX σ 19 (upd (zX σ 19) (r) (nI 11))) 18 (upd (zX σ 18) 1 (nI (r + 1)))) 18 = upd (zX σ 18) 1 (nI (r + 1)) from rfl, upd_upd, zuX_sw (by decide), zuX_sw (by decide)]; try rfl) ?_
  refine Z.iconst B dX9_asks_14 (v := nI 2) rfl ?_
  refine Z.imul B dX9_asks_15 ?_
  refine Z.iret B Rt dX9_asks_16 (ty := .int) rfl rfl (by decide) (by decide) ?_
  exact ⟨rfl, rfl⟩

theorem t_C_X9_sums_4 {σ : zSt} (hl : Lay σ) {q pa num r : Nat} {x : Int32} (hw : zWo σ q 4 pa num) (hr : zX σ 18 1 = nI r) (hr20 : r + 4 ≤ 20) : Dt mX9_sums [.ref q, .int x] σ (some (.int (((x + nI num) * nI 2) ^^^ ((x - nI pa) + nI num)))) (zuX (zuX σ 19 (upd (upd (upd (upd (zX σ 19) (r) (nI 12)) (r + 1) (nI 11)) (r + 2) (nI 10)) (r + 3) (nI 10))) 18 (upd (zX σ 18) 1 (nI (r + 4)))) := by
  refine Dt.of (by decide) (Nat.le_of_ble_eq_true rfl) fun κ B Rt => ?_
  show Z κ 0 0 σ 0 [(0, .ref q), (1, .int x)] []
  refine Z.aload_n B dX9_sums_0 (v := .ref q) rfl rfl ?_
  refine Z.getR (σ := σ) B fX9_21_3 dX9_sums_1 hw.1 hw.2.1 (by decide) (j := 18) hw.2.2.1 ?_
  refine Z.bipush B dX9_sums_4 (v := nI 12) rfl ?_
  refine Z.callVN (σ := σ) B (M' := mX8_began) (as := [.int (nI 12)]) (st := []) dX9_sums_6 wX8_began iX8_began sX8_began kX9_38 (hl.n (k := 18) (by decide)) (hl.k (k := 18) (by decide)) (by decide) rfl rfl (t_X8_began (σ := σ) hl (r := r) hr (by omega) (b := nI 12)) rfl rfl (by decide) (by decide) (Nat.le_of_ble_eq_true rfl) (by decide) (by decide) ?_
  refine Z.eqσ (τ := (zuX (zuX σ 19 (upd (zX σ 19) (r) (nI 12))) 18 (upd (zX σ 18) 1 (nI (r + 1))))) rfl ?_
  have hwc27 : zWo (zuX (zuX σ 19 (upd (zX σ 19) (r) (nI 12))) 18 (upd (zX σ 18) 1 (nI (r + 1)))) q 4 pa num := (hw.uX (by decide)).uX (by decide)
  refine Z.aload_n B dX9_sums_9 (v := .ref q) rfl rfl ?_
  refine Z.iload_n B dX9_sums_10 (x := x) rfl ?_
  refine Z.callUI (σ := (zuX (zuX σ 19 (upd (zX σ 19) (r) (nI 12))) 18 (upd (zX σ 18) 1 (nI (r + 1))))) B (M' := mX9_asks) (as := [.int x]) (st := []) (v := .int ((x + nI num) * nI 2)) dX9_sums_11 wX9_asks iX9_asks (x := yX9_asks) (owner := "FourAskOne$Way") kX9_48 (zT_at 1004 (by decide +kernel) rfl) iX9_asks wX9_asks.1 (by decide +kernel) hw.1 hw.2.1 (by decide) rfl (zT_at 1012 (by decide +kernel) rfl) (t_C_X9_asks_4 (σ := (zuX (zuX σ 19 (upd (zX σ 19) (r) (nI 12))) 18 (upd (zX σ 18) 1 (nI (r + 1))))) hl (q := q) (r := r + 1) (x := x) hwc27 rfl (by omega)) rfl rfl (by decide) (by decide) (Nat.le_of_ble_eq_true rfl) (by decide) (by decide) ?_
  refine Z.eqσ (τ := (zuX (zuX σ 19 (upd (upd (upd (zX σ 19) (r) (nI 12)) (r + 1) (nI 11)) (r + 2) (nI 10))) 18 (upd (zX σ 18) 1 (nI (r + 3))))) (by rw [show zX (zuX (zuX σ 19 (upd (zX σ 19) (r) (nI 12))) 18 (upd (zX σ 18) 1 (nI (r + 1)))) 19 = upd (zX σ 19) (r) (nI 12) from rfl, show zX (zuX (zuX σ 19 (upd (zX σ 19) (r) (nI 12))) 18 (upd (zX σ 18) 1 (nI (r + 1)))) 18 = upd (zX σ 18) 1 (nI (r + 1)) from rfl, upd_upd, zuX_sw (by decide), zuX_sw (by decide)]; try rfl) ?_
  have hwc28 : zWo (zuX (zuX σ 19 (upd (upd (upd (zX σ 19) (r) (nI 12)) (r + 1) (nI 11)) (r + 2) (nI 10))) 18 (upd (zX σ 18) 1 (nI (r + 3)))) q 4 pa num := (hw.uX (by decide)).uX (by decide)
  refine Z.aload_n B dX9_sums_14 (v := .ref q) rfl rfl ?_
  refine Z.iload_n B dX9_sums_15 (x := x) rfl ?_
  refine Z.aload_n B dX9_sums_16 (v := .ref q) rfl rfl ?_
  refine Z.getI (σ := (zuX (zuX σ 19 (upd (upd (upd (zX σ 19) (r) (nI 12)) (r + 1) (nI 11)) (r + 2) (nI 10))) 18 (upd (zX σ 18) 1 (nI (r + 3))))) B fX9_18_3 dX9_sums_17 hw.1 hw.2.1 (by decide) (v := nI pa) hwc28.2.2.2.2.2.1 ?_
  refine Z.isub B dX9_sums_20 ?_
  refine Z.callUI (σ := (zuX (zuX σ 19 (upd (upd (upd (zX σ 19) (r) (nI 12)) (r + 1) (nI 11)) (r + 2) (nI 10))) 18 (upd (zX σ 18) 1 (nI (r + 3))))) B (M' := mX9_feels) (as := [.int (x - (nI pa))]) (st := [.int ((x + nI num) * nI 2)]) (v := .int ((x - nI pa) + nI num)) dX9_sums_21 wX9_feels iX9_feels (x := yX9_feels) (owner := "FourAskOne$Way") kX9_44 (zT_at 981 (by decide +kernel) rfl) iX9_feels wX9_feels.1 (by decide +kernel) hw.1 hw.2.1 (by decide) rfl (zT_at 990 (by decide +kernel) rfl) (t_C_X9_feels_4 (σ := (zuX (zuX σ 19 (upd (upd (upd (zX σ 19) (r) (nI 12)) (r + 1) (nI 11)) (r + 2) (nI 10))) 18 (upd (zX σ 18) 1 (nI (r + 3))))) hl (q := q) (r := r + 3) (x := (x - nI pa)) hwc28 rfl (by omega)) rfl rfl (by decide) (by decide) (Nat.le_of_ble_eq_true rfl) (by decide) (by decide) ?_
  refine Z.eqσ (τ := (zuX (zuX σ 19 (upd (upd (upd (upd (zX σ 19) (r) (nI 12)) (r + 1) (nI 11)) (r + 2) (nI 10)) (r + 3) (nI 10))) 18 (upd (zX σ 18) 1 (nI (r + 4))))) (by rw [show zX (zuX (zuX σ 19 (upd (upd (upd (zX σ 19) (r) (nI 12)) (r + 1) (nI 11)) (r + 2) (nI 10))) 18 (upd (zX σ 18) 1 (nI (r + 3)))) 19 = upd (upd (upd (zX σ 19) (r) (nI 12)) (r + 1) (nI 11)) (r + 2) (nI 10) from rfl, show zX (zuX (zuX σ 19 (upd (upd (upd (zX σ 19) (r) (nI 12)) (r + 1) (nI 11)) (r + 2) (nI 10))) 18 (upd (zX σ 18) 1 (nI (r + 3)))) 18 = upd (zX σ 18) 1 (nI (r + 3)) from rfl, upd_upd, zuX_sw (by decide), zuX_sw (by decide)]; try rfl) ?_
  refine Z.ixor B dX9_sums_24 ?_
  refine Z.iret B Rt dX9_sums_25 (ty := .int) rfl rfl (by decide) (by decide) ?_
  exact ⟨rfl, rfl⟩

theorem t_C_X3_sums_4 {σ : zSt} (hl : Lay σ) {q pa num r : Nat} {x : Int32} (hw : zWo σ q 4 pa num) (hr : zX σ 18 1 = nI r) (hr20 : r + 5 ≤ 20) : Dt mX3_sums [.ref q, .int x] σ (some (.int (-(((x + nI num) * nI 2) ^^^ ((x - nI pa) + nI num))))) (zuX (zuX σ 19 (upd (upd (upd (upd (upd (zX σ 19) (r) (nI 50)) (r + 1) (nI 12)) (r + 2) (nI 11)) (r + 3) (nI 10)) (r + 4) (nI 10))) 18 (upd (zX σ 18) 1 (nI (r + 5)))) := by
  refine Dt.of (by decide) (Nat.le_of_ble_eq_true rfl) fun κ B Rt => ?_
  show Z κ 0 0 σ 0 [(0, .ref q), (1, .int x)] []
  refine Z.aload_n B dX3_sums_0 (v := .ref q) rfl rfl ?_
  refine Z.getR (σ := σ) B fX3_21_3 dX3_sums_1 hw.1 hw.2.1 (by decide) (j := 18) hw.2.2.1 ?_
  refine Z.bipush B dX3_sums_4 (v := nI 50) rfl ?_
  refine Z.callVN (σ := σ) B (M' := mX8_began) (as := [.int (nI 50)]) (st := []) dX3_sums_6 wX8_began iX8_began sX8_began kX3_25 (hl.n (k := 18) (by decide)) (hl.k (k := 18) (by decide)) (by decide) rfl rfl (t_X8_began (σ := σ) hl (r := r) hr (by omega) (b := nI 50)) rfl rfl (by decide) (by decide) (Nat.le_of_ble_eq_true rfl) (by decide) (by decide) ?_
  refine Z.eqσ (τ := (zuX (zuX σ 19 (upd (zX σ 19) (r) (nI 50))) 18 (upd (zX σ 18) 1 (nI (r + 1))))) rfl ?_
  have hwc29 : zWo (zuX (zuX σ 19 (upd (zX σ 19) (r) (nI 50))) 18 (upd (zX σ 18) 1 (nI (r + 1)))) q 4 pa num := (hw.uX (by decide)).uX (by decide)
  refine Z.aload_n B dX3_sums_9 (v := .ref q) rfl rfl ?_
  refine Z.iload_n B dX3_sums_10 (x := x) rfl ?_
  refine Z.callSUI (σ := (zuX (zuX σ 19 (upd (zX σ 19) (r) (nI 50))) 18 (upd (zX σ 18) 1 (nI (r + 1))))) B (M' := mX9_sums) (as := [.int x]) (st := []) (v := .int (((x + nI num) * nI 2) ^^^ ((x - nI pa) + nI num))) dX3_sums_11 wX9_sums iX9_sums kX3_31 (zT_at 1031 (by decide +kernel) rfl) (zT_at 553 (by decide +kernel) rfl) (by decide) hw.1 hw.2.1 (by decide) rfl (t_C_X9_sums_4 (σ := (zuX (zuX σ 19 (upd (zX σ 19) (r) (nI 50))) 18 (upd (zX σ 18) 1 (nI (r + 1))))) hl (q := q) (r := r + 1) (x := x) hwc29 rfl (by omega)) rfl rfl (by decide) (by decide) (Nat.le_of_ble_eq_true rfl) (by decide) (by decide) ?_
  refine Z.eqσ (τ := (zuX (zuX σ 19 (upd (upd (upd (upd (upd (zX σ 19) (r) (nI 50)) (r + 1) (nI 12)) (r + 2) (nI 11)) (r + 3) (nI 10)) (r + 4) (nI 10))) 18 (upd (zX σ 18) 1 (nI (r + 5))))) (by rw [show zX (zuX (zuX σ 19 (upd (zX σ 19) (r) (nI 50))) 18 (upd (zX σ 18) 1 (nI (r + 1)))) 19 = upd (zX σ 19) (r) (nI 50) from rfl, show zX (zuX (zuX σ 19 (upd (zX σ 19) (r) (nI 50))) 18 (upd (zX σ 18) 1 (nI (r + 1)))) 18 = upd (zX σ 18) 1 (nI (r + 1)) from rfl, upd_upd, zuX_sw (by decide), zuX_sw (by decide)]; try rfl) ?_
  refine Z.ineg B dX3_sums_14 ?_
  refine Z.iret B Rt dX3_sums_15 (ty := .int) rfl rfl (by decide) (by decide) ?_
  exact ⟨rfl, rfl⟩

theorem t_C_X9_feels_5 {σ : zSt} (hl : Lay σ) {q pa num r : Nat} {x : Int32} (hw : zWo σ q 5 pa num) (hr : zX σ 18 1 = nI r) (hr20 : r + 1 ≤ 20) : Dt mX9_feels [.ref q, .int x] σ (some (.int (x + nI num))) (zuX (zuX σ 19 (upd (zX σ 19) (r) (nI 10))) 18 (upd (zX σ 18) 1 (nI (r + 1)))) := by
  refine Dt.of (by decide) (Nat.le_of_ble_eq_true rfl) fun κ B Rt => ?_
  show Z κ 0 0 σ 0 [(0, .ref q), (1, .int x)] []
  refine Z.aload_n B dX9_feels_0 (v := .ref q) rfl rfl ?_
  refine Z.getR (σ := σ) B fX9_21_5 dX9_feels_1 hw.1 hw.2.1 (by decide) (j := 18) hw.2.2.1 ?_
  refine Z.bipush B dX9_feels_4 (v := nI 10) rfl ?_
  refine Z.callVN (σ := σ) B (M' := mX8_began) (as := [.int (nI 10)]) (st := []) dX9_feels_6 wX8_began iX8_began sX8_began kX9_38 (hl.n (k := 18) (by decide)) (hl.k (k := 18) (by decide)) (by decide) rfl rfl (t_X8_began (σ := σ) hl (r := r) hr (by omega) (b := nI 10)) rfl rfl (by decide) (by decide) (Nat.le_of_ble_eq_true rfl) (by decide) (by decide) ?_
  refine Z.eqσ (τ := (zuX (zuX σ 19 (upd (zX σ 19) (r) (nI 10))) 18 (upd (zX σ 18) 1 (nI (r + 1))))) rfl ?_
  have hwc30 : zWo (zuX (zuX σ 19 (upd (zX σ 19) (r) (nI 10))) 18 (upd (zX σ 18) 1 (nI (r + 1)))) q 5 pa num := (hw.uX (by decide)).uX (by decide)
  refine Z.iload_n B dX9_feels_9 (x := x) rfl ?_
  refine Z.aload_n B dX9_feels_10 (v := .ref q) rfl rfl ?_
  refine Z.getI (σ := (zuX (zuX σ 19 (upd (zX σ 19) (r) (nI 10))) 18 (upd (zX σ 18) 1 (nI (r + 1))))) B fX9_15_5 dX9_feels_11 hw.1 hw.2.1 (by decide) (v := nI num) hwc30.2.2.2.2.1 ?_
  refine Z.iadd B dX9_feels_14 ?_
  refine Z.iret B Rt dX9_feels_15 (ty := .int) rfl rfl (by decide) (by decide) ?_
  exact ⟨rfl, rfl⟩

theorem t_C_X5_feels_5 {σ : zSt} (hl : Lay σ) {q pa num r : Nat} {x : Int32} (hw : zWo σ q 5 pa num) (hr : zX σ 18 1 = nI r) (hr20 : r + 2 ≤ 20) : Dt mX5_feels [.ref q, .int x] σ (some (.int ((x + nI num) * nI 2))) (zuX (zuX σ 19 (upd (upd (zX σ 19) (r) (nI 60)) (r + 1) (nI 10))) 18 (upd (zX σ 18) 1 (nI (r + 2)))) := by
  refine Dt.of (by decide) (Nat.le_of_ble_eq_true rfl) fun κ B Rt => ?_
  show Z κ 0 0 σ 0 [(0, .ref q), (1, .int x)] []
  refine Z.aload_n B dX5_feels_0 (v := .ref q) rfl rfl ?_
  refine Z.getR (σ := σ) B fX5_18_5 dX5_feels_1 hw.1 hw.2.1 (by decide) (j := 18) hw.2.2.1 ?_
  refine Z.bipush B dX5_feels_4 (v := nI 60) rfl ?_
  refine Z.callVN (σ := σ) B (M' := mX8_began) (as := [.int (nI 60)]) (st := []) dX5_feels_6 wX8_began iX8_began sX8_began kX5_24 (hl.n (k := 18) (by decide)) (hl.k (k := 18) (by decide)) (by decide) rfl rfl (t_X8_began (σ := σ) hl (r := r) hr (by omega) (b := nI 60)) rfl rfl (by decide) (by decide) (Nat.le_of_ble_eq_true rfl) (by decide) (by decide) ?_
  refine Z.eqσ (τ := (zuX (zuX σ 19 (upd (zX σ 19) (r) (nI 60))) 18 (upd (zX σ 18) 1 (nI (r + 1))))) rfl ?_
  have hwc31 : zWo (zuX (zuX σ 19 (upd (zX σ 19) (r) (nI 60))) 18 (upd (zX σ 18) 1 (nI (r + 1)))) q 5 pa num := (hw.uX (by decide)).uX (by decide)
  refine Z.aload_n B dX5_feels_9 (v := .ref q) rfl rfl ?_
  refine Z.iload_n B dX5_feels_10 (x := x) rfl ?_
  refine Z.callSUI (σ := (zuX (zuX σ 19 (upd (zX σ 19) (r) (nI 60))) 18 (upd (zX σ 18) 1 (nI (r + 1))))) B (M' := mX9_feels) (as := [.int x]) (st := []) (v := .int (x + nI num)) dX5_feels_11 wX9_feels iX9_feels kX5_30 (zT_at 981 (by decide +kernel) rfl) (zT_at 564 (by decide +kernel) rfl) (by decide) hw.1 hw.2.1 (by decide) rfl (t_C_X9_feels_5 (σ := (zuX (zuX σ 19 (upd (zX σ 19) (r) (nI 60))) 18 (upd (zX σ 18) 1 (nI (r + 1))))) hl (q := q) (r := r + 1) (x := x) hwc31 rfl (by omega)) rfl rfl (by decide) (by decide) (Nat.le_of_ble_eq_true rfl) (by decide) (by decide) ?_
  refine Z.eqσ (τ := (zuX (zuX σ 19 (upd (upd (zX σ 19) (r) (nI 60)) (r + 1) (nI 10))) 18 (upd (zX σ 18) 1 (nI (r + 2))))) (by rw [show zX (zuX (zuX σ 19 (upd (zX σ 19) (r) (nI 60))) 18 (upd (zX σ 18) 1 (nI (r + 1)))) 19 = upd (zX σ 19) (r) (nI 60) from rfl, show zX (zuX (zuX σ 19 (upd (zX σ 19) (r) (nI 60))) 18 (upd (zX σ 18) 1 (nI (r + 1)))) 18 = upd (zX σ 18) 1 (nI (r + 1)) from rfl, upd_upd, zuX_sw (by decide), zuX_sw (by decide)]; try rfl) ?_
  refine Z.iconst B dX5_feels_14 (v := nI 2) rfl ?_
  refine Z.imul B dX5_feels_15 ?_
  refine Z.iret B Rt dX5_feels_16 (ty := .int) rfl rfl (by decide) (by decide) ?_
  exact ⟨rfl, rfl⟩

theorem t_C_X9_asks_5 {σ : zSt} (hl : Lay σ) {q pa num r : Nat} {x : Int32} (hw : zWo σ q 5 pa num) (hr : zX σ 18 1 = nI r) (hr20 : r + 3 ≤ 20) : Dt mX9_asks [.ref q, .int x] σ (some (.int (((x + nI num) * nI 2) * nI 2))) (zuX (zuX σ 19 (upd (upd (upd (zX σ 19) (r) (nI 11)) (r + 1) (nI 60)) (r + 2) (nI 10))) 18 (upd (zX σ 18) 1 (nI (r + 3)))) := by
  refine Dt.of (by decide) (Nat.le_of_ble_eq_true rfl) fun κ B Rt => ?_
  show Z κ 0 0 σ 0 [(0, .ref q), (1, .int x)] []
  refine Z.aload_n B dX9_asks_0 (v := .ref q) rfl rfl ?_
  refine Z.getR (σ := σ) B fX9_21_5 dX9_asks_1 hw.1 hw.2.1 (by decide) (j := 18) hw.2.2.1 ?_
  refine Z.bipush B dX9_asks_4 (v := nI 11) rfl ?_
  refine Z.callVN (σ := σ) B (M' := mX8_began) (as := [.int (nI 11)]) (st := []) dX9_asks_6 wX8_began iX8_began sX8_began kX9_38 (hl.n (k := 18) (by decide)) (hl.k (k := 18) (by decide)) (by decide) rfl rfl (t_X8_began (σ := σ) hl (r := r) hr (by omega) (b := nI 11)) rfl rfl (by decide) (by decide) (Nat.le_of_ble_eq_true rfl) (by decide) (by decide) ?_
  refine Z.eqσ (τ := (zuX (zuX σ 19 (upd (zX σ 19) (r) (nI 11))) 18 (upd (zX σ 18) 1 (nI (r + 1))))) rfl ?_
  have hwc32 : zWo (zuX (zuX σ 19 (upd (zX σ 19) (r) (nI 11))) 18 (upd (zX σ 18) 1 (nI (r + 1)))) q 5 pa num := (hw.uX (by decide)).uX (by decide)
  refine Z.aload_n B dX9_asks_9 (v := .ref q) rfl rfl ?_
  refine Z.iload_n B dX9_asks_10 (x := x) rfl ?_
  refine Z.callUI (σ := (zuX (zuX σ 19 (upd (zX σ 19) (r) (nI 11))) 18 (upd (zX σ 18) 1 (nI (r + 1))))) B (M' := mX5_feels) (as := [.int x]) (st := []) (v := .int ((x + nI num) * nI 2)) dX9_asks_11 wX5_feels iX5_feels (x := yX9_feels) (owner := "FourAskOne$Way") kX9_44 (zT_at 981 (by decide +kernel) rfl) iX9_feels wX9_feels.1 (by decide +kernel) hw.1 hw.2.1 (by decide) rfl (zT_at 996 (by decide +kernel) rfl) (t_C_X5_feels_5 (σ := (zuX (zuX σ 19 (upd (zX σ 19) (r) (nI 11))) 18 (upd (zX σ 18) 1 (nI (r + 1))))) hl (q := q) (r := r + 1) (x := x) hwc32 rfl (by omega)) rfl rfl (by decide) (by decide) (Nat.le_of_ble_eq_true rfl) (by decide) (by decide) ?_
  refine Z.eqσ (τ := (zuX (zuX σ 19 (upd (upd (upd (zX σ 19) (r) (nI 11)) (r + 1) (nI 60)) (r + 2) (nI 10))) 18 (upd (zX σ 18) 1 (nI (r + 3))))) (by rw [show zX (zuX (zuX σ 19 (upd (zX σ 19) (r) (nI 11))) 18 (upd (zX σ 18) 1 (nI (r + 1)))) 19 = upd (zX σ 19) (r) (nI 11) from rfl, show zX (zuX (zuX σ 19 (upd (zX σ 19) (r) (nI 11))) 18 (upd (zX σ 18) 1 (nI (r + 1)))) 18 = upd (zX σ 18) 1 (nI (r + 1)) from rfl, upd_upd, zuX_sw (by decide), zuX_sw (by decide)]; try rfl) ?_
  refine Z.iconst B dX9_asks_14 (v := nI 2) rfl ?_
  refine Z.imul B dX9_asks_15 ?_
  refine Z.iret B Rt dX9_asks_16 (ty := .int) rfl rfl (by decide) (by decide) ?_
  exact ⟨rfl, rfl⟩

theorem t_C_X9_sums_5 {σ : zSt} (hl : Lay σ) {q pa num r : Nat} {x : Int32} (hw : zWo σ q 5 pa num) (hr : zX σ 18 1 = nI r) (hr20 : r + 6 ≤ 20) : Dt mX9_sums [.ref q, .int x] σ (some (.int ((((x + nI num) * nI 2) * nI 2) ^^^ (((x - nI pa) + nI num) * nI 2)))) (zuX (zuX σ 19 (upd (upd (upd (upd (upd (upd (zX σ 19) (r) (nI 12)) (r + 1) (nI 11)) (r + 2) (nI 60)) (r + 3) (nI 10)) (r + 4) (nI 60)) (r + 5) (nI 10))) 18 (upd (zX σ 18) 1 (nI (r + 6)))) := by
  refine Dt.of (by decide) (Nat.le_of_ble_eq_true rfl) fun κ B Rt => ?_
  show Z κ 0 0 σ 0 [(0, .ref q), (1, .int x)] []
  refine Z.aload_n B dX9_sums_0 (v := .ref q) rfl rfl ?_
  refine Z.getR (σ := σ) B fX9_21_5 dX9_sums_1 hw.1 hw.2.1 (by decide) (j := 18) hw.2.2.1 ?_
  refine Z.bipush B dX9_sums_4 (v := nI 12) rfl ?_
  refine Z.callVN (σ := σ) B (M' := mX8_began) (as := [.int (nI 12)]) (st := []) dX9_sums_6 wX8_began iX8_began sX8_began kX9_38 (hl.n (k := 18) (by decide)) (hl.k (k := 18) (by decide)) (by decide) rfl rfl (t_X8_began (σ := σ) hl (r := r) hr (by omega) (b := nI 12)) rfl rfl (by decide) (by decide) (Nat.le_of_ble_eq_true rfl) (by decide) (by decide) ?_
  refine Z.eqσ (τ := (zuX (zuX σ 19 (upd (zX σ 19) (r) (nI 12))) 18 (upd (zX σ 18) 1 (nI (r + 1))))) rfl ?_
  have hwc33 : zWo (zuX (zuX σ 19 (upd (zX σ 19) (r) (nI 12))) 18 (upd (zX σ 18) 1 (nI (r + 1)))) q 5 pa num := (hw.uX (by decide)).uX (by decide)
  refine Z.aload_n B dX9_sums_9 (v := .ref q) rfl rfl ?_
  refine Z.iload_n B dX9_sums_10 (x := x) rfl ?_
  refine Z.callUI (σ := (zuX (zuX σ 19 (upd (zX σ 19) (r) (nI 12))) 18 (upd (zX σ 18) 1 (nI (r + 1))))) B (M' := mX9_asks) (as := [.int x]) (st := []) (v := .int (((x + nI num) * nI 2) * nI 2)) dX9_sums_11 wX9_asks iX9_asks (x := yX9_asks) (owner := "FourAskOne$Way") kX9_48 (zT_at 1004 (by decide +kernel) rfl) iX9_asks wX9_asks.1 (by decide +kernel) hw.1 hw.2.1 (by decide) rfl (zT_at 1019 (by decide +kernel) rfl) (t_C_X9_asks_5 (σ := (zuX (zuX σ 19 (upd (zX σ 19) (r) (nI 12))) 18 (upd (zX σ 18) 1 (nI (r + 1))))) hl (q := q) (r := r + 1) (x := x) hwc33 rfl (by omega)) rfl rfl (by decide) (by decide) (Nat.le_of_ble_eq_true rfl) (by decide) (by decide) ?_
  refine Z.eqσ (τ := (zuX (zuX σ 19 (upd (upd (upd (upd (zX σ 19) (r) (nI 12)) (r + 1) (nI 11)) (r + 2) (nI 60)) (r + 3) (nI 10))) 18 (upd (zX σ 18) 1 (nI (r + 4))))) (by rw [show zX (zuX (zuX σ 19 (upd (zX σ 19) (r) (nI 12))) 18 (upd (zX σ 18) 1 (nI (r + 1)))) 19 = upd (zX σ 19) (r) (nI 12) from rfl, show zX (zuX (zuX σ 19 (upd (zX σ 19) (r) (nI 12))) 18 (upd (zX σ 18) 1 (nI (r + 1)))) 18 = upd (zX σ 18) 1 (nI (r + 1)) from rfl, upd_upd, zuX_sw (by decide), zuX_sw (by decide)]; try rfl) ?_
  have hwc34 : zWo (zuX (zuX σ 19 (upd (upd (upd (upd (zX σ 19) (r) (nI 12)) (r + 1) (nI 11)) (r + 2) (nI 60)) (r + 3) (nI 10))) 18 (upd (zX σ 18) 1 (nI (r + 4)))) q 5 pa num := (hw.uX (by decide)).uX (by decide)
  refine Z.aload_n B dX9_sums_14 (v := .ref q) rfl rfl ?_
  refine Z.iload_n B dX9_sums_15 (x := x) rfl ?_
  refine Z.aload_n B dX9_sums_16 (v := .ref q) rfl rfl ?_
  refine Z.getI (σ := (zuX (zuX σ 19 (upd (upd (upd (upd (zX σ 19) (r) (nI 12)) (r + 1) (nI 11)) (r + 2) (nI 60)) (r + 3) (nI 10))) 18 (upd (zX σ 18) 1 (nI (r + 4))))) B fX9_18_5 dX9_sums_17 hw.1 hw.2.1 (by decide) (v := nI pa) hwc34.2.2.2.2.2.1 ?_
  refine Z.isub B dX9_sums_20 ?_
  refine Z.callUI (σ := (zuX (zuX σ 19 (upd (upd (upd (upd (zX σ 19) (r) (nI 12)) (r + 1) (nI 11)) (r + 2) (nI 60)) (r + 3) (nI 10))) 18 (upd (zX σ 18) 1 (nI (r + 4))))) B (M' := mX5_feels) (as := [.int (x - (nI pa))]) (st := [.int (((x + nI num) * nI 2) * nI 2)]) (v := .int (((x - nI pa) + nI num) * nI 2)) dX9_sums_21 wX5_feels iX5_feels (x := yX9_feels) (owner := "FourAskOne$Way") kX9_44 (zT_at 981 (by decide +kernel) rfl) iX9_feels wX9_feels.1 (by decide +kernel) hw.1 hw.2.1 (by decide) rfl (zT_at 996 (by decide +kernel) rfl) (t_C_X5_feels_5 (σ := (zuX (zuX σ 19 (upd (upd (upd (upd (zX σ 19) (r) (nI 12)) (r + 1) (nI 11)) (r + 2) (nI 60)) (r + 3) (nI 10))) 18 (upd (zX σ 18) 1 (nI (r + 4))))) hl (q := q) (r := r + 4) (x := (x - nI pa)) hwc34 rfl (by omega)) rfl rfl (by decide) (by decide) (Nat.le_of_ble_eq_true rfl) (by decide) (by decide) ?_
  refine Z.eqσ (τ := (zuX (zuX σ 19 (upd (upd (upd (upd (upd (upd (zX σ 19) (r) (nI 12)) (r + 1) (nI 11)) (r + 2) (nI 60)) (r + 3) (nI 10)) (r + 4) (nI 60)) (r + 5) (nI 10))) 18 (upd (zX σ 18) 1 (nI (r + 6))))) (by rw [show zX (zuX (zuX σ 19 (upd (upd (upd (upd (zX σ 19) (r) (nI 12)) (r + 1) (nI 11)) (r + 2) (nI 60)) (r + 3) (nI 10))) 18 (upd (zX σ 18) 1 (nI (r + 4)))) 19 = upd (upd (upd (upd (zX σ 19) (r) (nI 12)) (r + 1) (nI 11)) (r + 2) (nI 60)) (r + 3) (nI 10) from rfl, show zX (zuX (zuX σ 19 (upd (upd (upd (upd (zX σ 19) (r) (nI 12)) (r + 1) (nI 11)) (r + 2) (nI 60)) (r + 3) (nI 10))) 18 (upd (zX σ 18) 1 (nI (r + 4)))) 18 = upd (zX σ 18) 1 (nI (r + 4)) from rfl, upd_upd, zuX_sw (by decide), zuX_sw (by decide)]; try rfl) ?_
  refine Z.ixor B dX9_sums_24 ?_
  refine Z.iret B Rt dX9_sums_25 (ty := .int) rfl rfl (by decide) (by decide) ?_
  exact ⟨rfl, rfl⟩

theorem t_C_X9_feels_6 {σ : zSt} (hl : Lay σ) {q pa num r : Nat} {x : Int32} (hw : zWo σ q 6 pa num) (hr : zX σ 18 1 = nI r) (hr20 : r + 1 ≤ 20) : Dt mX9_feels [.ref q, .int x] σ (some (.int (x + nI num))) (zuX (zuX σ 19 (upd (zX σ 19) (r) (nI 10))) 18 (upd (zX σ 18) 1 (nI (r + 1)))) := by
  refine Dt.of (by decide) (Nat.le_of_ble_eq_true rfl) fun κ B Rt => ?_
  show Z κ 0 0 σ 0 [(0, .ref q), (1, .int x)] []
  refine Z.aload_n B dX9_feels_0 (v := .ref q) rfl rfl ?_
  refine Z.getR (σ := σ) B fX9_21_0 dX9_feels_1 hw.1 hw.2.1 (by decide) (j := 18) hw.2.2.1 ?_
  refine Z.bipush B dX9_feels_4 (v := nI 10) rfl ?_
  refine Z.callVN (σ := σ) B (M' := mX8_began) (as := [.int (nI 10)]) (st := []) dX9_feels_6 wX8_began iX8_began sX8_began kX9_38 (hl.n (k := 18) (by decide)) (hl.k (k := 18) (by decide)) (by decide) rfl rfl (t_X8_began (σ := σ) hl (r := r) hr (by omega) (b := nI 10)) rfl rfl (by decide) (by decide) (Nat.le_of_ble_eq_true rfl) (by decide) (by decide) ?_
  refine Z.eqσ (τ := (zuX (zuX σ 19 (upd (zX σ 19) (r) (nI 10))) 18 (upd (zX σ 18) 1 (nI (r + 1))))) rfl ?_
  have hwc35 : zWo (zuX (zuX σ 19 (upd (zX σ 19) (r) (nI 10))) 18 (upd (zX σ 18) 1 (nI (r + 1)))) q 6 pa num := (hw.uX (by decide)).uX (by decide)
  refine Z.iload_n B dX9_feels_9 (x := x) rfl ?_
  refine Z.aload_n B dX9_feels_10 (v := .ref q) rfl rfl ?_
  refine Z.getI (σ := (zuX (zuX σ 19 (upd (zX σ 19) (r) (nI 10))) 18 (upd (zX σ 18) 1 (nI (r + 1))))) B fX9_15_0 dX9_feels_11 hw.1 hw.2.1 (by decide) (v := nI num) hwc35.2.2.2.2.1 ?_
  refine Z.iadd B dX9_feels_14 ?_
  refine Z.iret B Rt dX9_feels_15 (ty := .int) rfl rfl (by decide) (by decide) ?_
  exact ⟨rfl, rfl⟩

theorem t_C_X5_feels_6 {σ : zSt} (hl : Lay σ) {q pa num r : Nat} {x : Int32} (hw : zWo σ q 6 pa num) (hr : zX σ 18 1 = nI r) (hr20 : r + 2 ≤ 20) : Dt mX5_feels [.ref q, .int x] σ (some (.int ((x + nI num) * nI 2))) (zuX (zuX σ 19 (upd (upd (zX σ 19) (r) (nI 60)) (r + 1) (nI 10))) 18 (upd (zX σ 18) 1 (nI (r + 2)))) := by
  refine Dt.of (by decide) (Nat.le_of_ble_eq_true rfl) fun κ B Rt => ?_
  show Z κ 0 0 σ 0 [(0, .ref q), (1, .int x)] []
  refine Z.aload_n B dX5_feels_0 (v := .ref q) rfl rfl ?_
  refine Z.getR (σ := σ) B fX5_18_0 dX5_feels_1 hw.1 hw.2.1 (by decide) (j := 18) hw.2.2.1 ?_
  refine Z.bipush B dX5_feels_4 (v := nI 60) rfl ?_
  refine Z.callVN (σ := σ) B (M' := mX8_began) (as := [.int (nI 60)]) (st := []) dX5_feels_6 wX8_began iX8_began sX8_began kX5_24 (hl.n (k := 18) (by decide)) (hl.k (k := 18) (by decide)) (by decide) rfl rfl (t_X8_began (σ := σ) hl (r := r) hr (by omega) (b := nI 60)) rfl rfl (by decide) (by decide) (Nat.le_of_ble_eq_true rfl) (by decide) (by decide) ?_
  refine Z.eqσ (τ := (zuX (zuX σ 19 (upd (zX σ 19) (r) (nI 60))) 18 (upd (zX σ 18) 1 (nI (r + 1))))) rfl ?_
  have hwc36 : zWo (zuX (zuX σ 19 (upd (zX σ 19) (r) (nI 60))) 18 (upd (zX σ 18) 1 (nI (r + 1)))) q 6 pa num := (hw.uX (by decide)).uX (by decide)
  refine Z.aload_n B dX5_feels_9 (v := .ref q) rfl rfl ?_
  refine Z.iload_n B dX5_feels_10 (x := x) rfl ?_
  refine Z.callSUI (σ := (zuX (zuX σ 19 (upd (zX σ 19) (r) (nI 60))) 18 (upd (zX σ 18) 1 (nI (r + 1))))) B (M' := mX9_feels) (as := [.int x]) (st := []) (v := .int (x + nI num)) dX5_feels_11 wX9_feels iX9_feels kX5_30 (zT_at 981 (by decide +kernel) rfl) (zT_at 564 (by decide +kernel) rfl) (by decide) hw.1 hw.2.1 (by decide) rfl (t_C_X9_feels_6 (σ := (zuX (zuX σ 19 (upd (zX σ 19) (r) (nI 60))) 18 (upd (zX σ 18) 1 (nI (r + 1))))) hl (q := q) (r := r + 1) (x := x) hwc36 rfl (by omega)) rfl rfl (by decide) (by decide) (Nat.le_of_ble_eq_true rfl) (by decide) (by decide) ?_
  refine Z.eqσ (τ := (zuX (zuX σ 19 (upd (upd (zX σ 19) (r) (nI 60)) (r + 1) (nI 10))) 18 (upd (zX σ 18) 1 (nI (r + 2))))) (by rw [show zX (zuX (zuX σ 19 (upd (zX σ 19) (r) (nI 60))) 18 (upd (zX σ 18) 1 (nI (r + 1)))) 19 = upd (zX σ 19) (r) (nI 60) from rfl, show zX (zuX (zuX σ 19 (upd (zX σ 19) (r) (nI 60))) 18 (upd (zX σ 18) 1 (nI (r + 1)))) 18 = upd (zX σ 18) 1 (nI (r + 1)) from rfl, upd_upd, zuX_sw (by decide), zuX_sw (by decide)]; try rfl) ?_
  refine Z.iconst B dX5_feels_14 (v := nI 2) rfl ?_
  refine Z.imul B dX5_feels_15 ?_
  refine Z.iret B Rt dX5_feels_16 (ty := .int) rfl rfl (by decide) (by decide) ?_
  exact ⟨rfl, rfl⟩

theorem t_C_X9_asks_6 {σ : zSt} (hl : Lay σ) {q pa num r : Nat} {x : Int32} (hw : zWo σ q 6 pa num) (hr : zX σ 18 1 = nI r) (hr20 : r + 3 ≤ 20) : Dt mX9_asks [.ref q, .int x] σ (some (.int (((x + nI num) * nI 2) * nI 2))) (zuX (zuX σ 19 (upd (upd (upd (zX σ 19) (r) (nI 11)) (r + 1) (nI 60)) (r + 2) (nI 10))) 18 (upd (zX σ 18) 1 (nI (r + 3)))) := by
  refine Dt.of (by decide) (Nat.le_of_ble_eq_true rfl) fun κ B Rt => ?_
  show Z κ 0 0 σ 0 [(0, .ref q), (1, .int x)] []
  refine Z.aload_n B dX9_asks_0 (v := .ref q) rfl rfl ?_
  refine Z.getR (σ := σ) B fX9_21_0 dX9_asks_1 hw.1 hw.2.1 (by decide) (j := 18) hw.2.2.1 ?_
  refine Z.bipush B dX9_asks_4 (v := nI 11) rfl ?_
  refine Z.callVN (σ := σ) B (M' := mX8_began) (as := [.int (nI 11)]) (st := []) dX9_asks_6 wX8_began iX8_began sX8_began kX9_38 (hl.n (k := 18) (by decide)) (hl.k (k := 18) (by decide)) (by decide) rfl rfl (t_X8_began (σ := σ) hl (r := r) hr (by omega) (b := nI 11)) rfl rfl (by decide) (by decide) (Nat.le_of_ble_eq_true rfl) (by decide) (by decide) ?_
  refine Z.eqσ (τ := (zuX (zuX σ 19 (upd (zX σ 19) (r) (nI 11))) 18 (upd (zX σ 18) 1 (nI (r + 1))))) rfl ?_
  have hwc37 : zWo (zuX (zuX σ 19 (upd (zX σ 19) (r) (nI 11))) 18 (upd (zX σ 18) 1 (nI (r + 1)))) q 6 pa num := (hw.uX (by decide)).uX (by decide)
  refine Z.aload_n B dX9_asks_9 (v := .ref q) rfl rfl ?_
  refine Z.iload_n B dX9_asks_10 (x := x) rfl ?_
  refine Z.callUI (σ := (zuX (zuX σ 19 (upd (zX σ 19) (r) (nI 11))) 18 (upd (zX σ 18) 1 (nI (r + 1))))) B (M' := mX5_feels) (as := [.int x]) (st := []) (v := .int ((x + nI num) * nI 2)) dX9_asks_11 wX5_feels iX5_feels (x := yX9_feels) (owner := "FourAskOne$Way") kX9_44 (zT_at 981 (by decide +kernel) rfl) iX9_feels wX9_feels.1 (by decide +kernel) hw.1 hw.2.1 (by decide) rfl (zT_at 982 (by decide +kernel) rfl) (t_C_X5_feels_6 (σ := (zuX (zuX σ 19 (upd (zX σ 19) (r) (nI 11))) 18 (upd (zX σ 18) 1 (nI (r + 1))))) hl (q := q) (r := r + 1) (x := x) hwc37 rfl (by omega)) rfl rfl (by decide) (by decide) (Nat.le_of_ble_eq_true rfl) (by decide) (by decide) ?_
  refine Z.eqσ (τ := (zuX (zuX σ 19 (upd (upd (upd (zX σ 19) (r) (nI 11)) (r + 1) (nI 60)) (r + 2) (nI 10))) 18 (upd (zX σ 18) 1 (nI (r + 3))))) (by rw [show zX (zuX (zuX σ 19 (upd (zX σ 19) (r) (nI 11))) 18 (upd (zX σ 18) 1 (nI (r + 1)))) 19 = upd (zX σ 19) (r) (nI 11) from rfl, show zX (zuX (zuX σ 19 (upd (zX σ 19) (r) (nI 11))) 18 (upd (zX σ 18) 1 (nI (r + 1)))) 18 = upd (zX σ 18) 1 (nI (r + 1)) from rfl, upd_upd, zuX_sw (by decide), zuX_sw (by decide)]; try rfl) ?_
  refine Z.iconst B dX9_asks_14 (v := nI 2) rfl ?_
  refine Z.imul B dX9_asks_15 ?_
  refine Z.iret B Rt dX9_asks_16 (ty := .int) rfl rfl (by decide) (by decide) ?_
  exact ⟨rfl, rfl⟩

theorem t_C_X0_asks_6 {σ : zSt} (hl : Lay σ) {q pa num r : Nat} {x : Int32} (hw : zWo σ q 6 pa num) (hr : zX σ 18 1 = nI r) (hr20 : r + 4 ≤ 20) : Dt mX0_asks [.ref q, .int x] σ (some (.int ((((x - nI pa) + nI num) * nI 2) * nI 2))) (zuX (zuX σ 19 (upd (upd (upd (upd (zX σ 19) (r) (nI 71)) (r + 1) (nI 11)) (r + 2) (nI 60)) (r + 3) (nI 10))) 18 (upd (zX σ 18) 1 (nI (r + 4)))) := by
  refine Dt.of (by decide) (Nat.le_of_ble_eq_true rfl) fun κ B Rt => ?_
  show Z κ 0 0 σ 0 [(0, .ref q), (1, .int x)] []
  refine Z.aload_n B dX0_asks_0 (v := .ref q) rfl rfl ?_
  refine Z.getR (σ := σ) B fX0_19_0 dX0_asks_1 hw.1 hw.2.1 (by decide) (j := 18) hw.2.2.1 ?_
  refine Z.bipush B dX0_asks_4 (v := nI 71) rfl ?_
  refine Z.callVN (σ := σ) B (M' := mX8_began) (as := [.int (nI 71)]) (st := []) dX0_asks_6 wX8_began iX8_began sX8_began kX0_25 (hl.n (k := 18) (by decide)) (hl.k (k := 18) (by decide)) (by decide) rfl rfl (t_X8_began (σ := σ) hl (r := r) hr (by omega) (b := nI 71)) rfl rfl (by decide) (by decide) (Nat.le_of_ble_eq_true rfl) (by decide) (by decide) ?_
  refine Z.eqσ (τ := (zuX (zuX σ 19 (upd (zX σ 19) (r) (nI 71))) 18 (upd (zX σ 18) 1 (nI (r + 1))))) rfl ?_
  have hwc38 : zWo (zuX (zuX σ 19 (upd (zX σ 19) (r) (nI 71))) 18 (upd (zX σ 18) 1 (nI (r + 1)))) q 6 pa num := (hw.uX (by decide)).uX (by decide)
  refine Z.aload_n B dX0_asks_9 (v := .ref q) rfl rfl ?_
  refine Z.iload_n B dX0_asks_10 (x := x) rfl ?_
  refine Z.aload_n B dX0_asks_11 (v := .ref q) rfl rfl ?_
  refine Z.getI (σ := (zuX (zuX σ 19 (upd (zX σ 19) (r) (nI 71))) 18 (upd (zX σ 18) 1 (nI (r + 1))))) B fX0_35_0 dX0_asks_12 hw.1 hw.2.1 (by decide) (v := nI pa) hwc38.2.2.2.2.2.1 ?_
  refine Z.isub B dX0_asks_15 ?_
  refine Z.callSUi (σ := (zuX (zuX σ 19 (upd (zX σ 19) (r) (nI 71))) 18 (upd (zX σ 18) 1 (nI (r + 1))))) B (M' := mX9_asks) (as := [.int (x - (nI pa))]) (st := []) (v := .int ((((x - nI pa) + nI num) * nI 2) * nI 2)) dX0_asks_16 (t_C_X9_asks_6 (σ := (zuX (zuX σ 19 (upd (zX σ 19) (r) (nI 71))) 18 (upd (zX σ 18) 1 (nI (r + 1))))) hl (q := q) (r := r + 1) (x := (x - nI pa)) hwc38 rfl (by omega)) rfl wX9_asks iX9_asks (x := ⟨"FourAskOne$Marked", "asks", "(I)I"⟩) kX0_39 (zT_at 1010 (by decide +kernel) rfl) ⟨rfl, rfl⟩ (zT_at 373 (by decide +kernel) rfl) (zT_at 564 (by decide +kernel) rfl) (by decide) hw.1 hw.2.1 (by decide) rfl rfl (by decide) (by decide) (Nat.le_of_ble_eq_true rfl) (by decide) (by decide) ?_
  refine Z.eqσ (τ := (zuX (zuX σ 19 (upd (upd (upd (upd (zX σ 19) (r) (nI 71)) (r + 1) (nI 11)) (r + 2) (nI 60)) (r + 3) (nI 10))) 18 (upd (zX σ 18) 1 (nI (r + 4))))) (by rw [show zX (zuX (zuX σ 19 (upd (zX σ 19) (r) (nI 71))) 18 (upd (zX σ 18) 1 (nI (r + 1)))) 19 = upd (zX σ 19) (r) (nI 71) from rfl, show zX (zuX (zuX σ 19 (upd (zX σ 19) (r) (nI 71))) 18 (upd (zX σ 18) 1 (nI (r + 1)))) 18 = upd (zX σ 18) 1 (nI (r + 1)) from rfl, upd_upd, zuX_sw (by decide), zuX_sw (by decide)]; try rfl) ?_
  refine Z.iret B Rt dX0_asks_19 (ty := .int) rfl rfl (by decide) (by decide) ?_
  exact ⟨rfl, rfl⟩

theorem t_C_X9_sums_6 {σ : zSt} (hl : Lay σ) {q pa num r : Nat} {x : Int32} (hw : zWo σ q 6 pa num) (hr : zX σ 18 1 = nI r) (hr20 : r + 7 ≤ 20) : Dt mX9_sums [.ref q, .int x] σ (some (.int (((((x - nI pa) + nI num) * nI 2) * nI 2) ^^^ (((x - nI pa) + nI num) * nI 2)))) (zuX (zuX σ 19 (upd (upd (upd (upd (upd (upd (upd (zX σ 19) (r) (nI 12)) (r + 1) (nI 71)) (r + 2) (nI 11)) (r + 3) (nI 60)) (r + 4) (nI 10)) (r + 5) (nI 60)) (r + 6) (nI 10))) 18 (upd (zX σ 18) 1 (nI (r + 7)))) := by
  refine Dt.of (by decide) (Nat.le_of_ble_eq_true rfl) fun κ B Rt => ?_
  show Z κ 0 0 σ 0 [(0, .ref q), (1, .int x)] []
  refine Z.aload_n B dX9_sums_0 (v := .ref q) rfl rfl ?_
  refine Z.getR (σ := σ) B fX9_21_0 dX9_sums_1 hw.1 hw.2.1 (by decide) (j := 18) hw.2.2.1 ?_
  refine Z.bipush B dX9_sums_4 (v := nI 12) rfl ?_
  refine Z.callVN (σ := σ) B (M' := mX8_began) (as := [.int (nI 12)]) (st := []) dX9_sums_6 wX8_began iX8_began sX8_began kX9_38 (hl.n (k := 18) (by decide)) (hl.k (k := 18) (by decide)) (by decide) rfl rfl (t_X8_began (σ := σ) hl (r := r) hr (by omega) (b := nI 12)) rfl rfl (by decide) (by decide) (Nat.le_of_ble_eq_true rfl) (by decide) (by decide) ?_
  refine Z.eqσ (τ := (zuX (zuX σ 19 (upd (zX σ 19) (r) (nI 12))) 18 (upd (zX σ 18) 1 (nI (r + 1))))) rfl ?_
  have hwc39 : zWo (zuX (zuX σ 19 (upd (zX σ 19) (r) (nI 12))) 18 (upd (zX σ 18) 1 (nI (r + 1)))) q 6 pa num := (hw.uX (by decide)).uX (by decide)
  refine Z.aload_n B dX9_sums_9 (v := .ref q) rfl rfl ?_
  refine Z.iload_n B dX9_sums_10 (x := x) rfl ?_
  refine Z.callUI (σ := (zuX (zuX σ 19 (upd (zX σ 19) (r) (nI 12))) 18 (upd (zX σ 18) 1 (nI (r + 1))))) B (M' := mX0_asks) (as := [.int x]) (st := []) (v := .int ((((x - nI pa) + nI num) * nI 2) * nI 2)) dX9_sums_11 wX0_asks iX0_asks (x := yX9_asks) (owner := "FourAskOne$Way") kX9_48 (zT_at 1004 (by decide +kernel) rfl) iX9_asks wX9_asks.1 (by decide +kernel) hw.1 hw.2.1 (by decide) rfl (zT_at 1005 (by decide +kernel) rfl) (t_C_X0_asks_6 (σ := (zuX (zuX σ 19 (upd (zX σ 19) (r) (nI 12))) 18 (upd (zX σ 18) 1 (nI (r + 1))))) hl (q := q) (r := r + 1) (x := x) hwc39 rfl (by omega)) rfl rfl (by decide) (by decide) (Nat.le_of_ble_eq_true rfl) (by decide) (by decide) ?_
  refine Z.eqσ (τ := (zuX (zuX σ 19 (upd (upd (upd (upd (upd (zX σ 19) (r) (nI 12)) (r + 1) (nI 71)) (r + 2) (nI 11)) (r + 3) (nI 60)) (r + 4) (nI 10))) 18 (upd (zX σ 18) 1 (nI (r + 5))))) (by rw [show zX (zuX (zuX σ 19 (upd (zX σ 19) (r) (nI 12))) 18 (upd (zX σ 18) 1 (nI (r + 1)))) 19 = upd (zX σ 19) (r) (nI 12) from rfl, show zX (zuX (zuX σ 19 (upd (zX σ 19) (r) (nI 12))) 18 (upd (zX σ 18) 1 (nI (r + 1)))) 18 = upd (zX σ 18) 1 (nI (r + 1)) from rfl, upd_upd, zuX_sw (by decide), zuX_sw (by decide)]; try rfl) ?_
  have hwc40 : zWo (zuX (zuX σ 19 (upd (upd (upd (upd (upd (zX σ 19) (r) (nI 12)) (r + 1) (nI 71)) (r + 2) (nI 11)) (r + 3) (nI 60)) (r + 4) (nI 10))) 18 (upd (zX σ 18) 1 (nI (r + 5)))) q 6 pa num := (hw.uX (by decide)).uX (by decide)
  refine Z.aload_n B dX9_sums_14 (v := .ref q) rfl rfl ?_
  refine Z.iload_n B dX9_sums_15 (x := x) rfl ?_
  refine Z.aload_n B dX9_sums_16 (v := .ref q) rfl rfl ?_
  refine Z.getI (σ := (zuX (zuX σ 19 (upd (upd (upd (upd (upd (zX σ 19) (r) (nI 12)) (r + 1) (nI 71)) (r + 2) (nI 11)) (r + 3) (nI 60)) (r + 4) (nI 10))) 18 (upd (zX σ 18) 1 (nI (r + 5))))) B fX9_18_0 dX9_sums_17 hw.1 hw.2.1 (by decide) (v := nI pa) hwc40.2.2.2.2.2.1 ?_
  refine Z.isub B dX9_sums_20 ?_
  refine Z.callUI (σ := (zuX (zuX σ 19 (upd (upd (upd (upd (upd (zX σ 19) (r) (nI 12)) (r + 1) (nI 71)) (r + 2) (nI 11)) (r + 3) (nI 60)) (r + 4) (nI 10))) 18 (upd (zX σ 18) 1 (nI (r + 5))))) B (M' := mX5_feels) (as := [.int (x - (nI pa))]) (st := [.int ((((x - nI pa) + nI num) * nI 2) * nI 2)]) (v := .int (((x - nI pa) + nI num) * nI 2)) dX9_sums_21 wX5_feels iX5_feels (x := yX9_feels) (owner := "FourAskOne$Way") kX9_44 (zT_at 981 (by decide +kernel) rfl) iX9_feels wX9_feels.1 (by decide +kernel) hw.1 hw.2.1 (by decide) rfl (zT_at 982 (by decide +kernel) rfl) (t_C_X5_feels_6 (σ := (zuX (zuX σ 19 (upd (upd (upd (upd (upd (zX σ 19) (r) (nI 12)) (r + 1) (nI 71)) (r + 2) (nI 11)) (r + 3) (nI 60)) (r + 4) (nI 10))) 18 (upd (zX σ 18) 1 (nI (r + 5))))) hl (q := q) (r := r + 5) (x := (x - nI pa)) hwc40 rfl (by omega)) rfl rfl (by decide) (by decide) (Nat.le_of_ble_eq_true rfl) (by decide) (by decide) ?_
  refine Z.eqσ (τ := (zuX (zuX σ 19 (upd (upd (upd (upd (upd (upd (upd (zX σ 19) (r) (nI 12)) (r + 1) (nI 71)) (r + 2) (nI 11)) (r + 3) (nI 60)) (r + 4) (nI 10)) (r + 5) (nI 60)) (r + 6) (nI 10))) 18 (upd (zX σ 18) 1 (nI (r + 7))))) (by rw [show zX (zuX (zuX σ 19 (upd (upd (upd (upd (upd (zX σ 19) (r) (nI 12)) (r + 1) (nI 71)) (r + 2) (nI 11)) (r + 3) (nI 60)) (r + 4) (nI 10))) 18 (upd (zX σ 18) 1 (nI (r + 5)))) 19 = upd (upd (upd (upd (upd (zX σ 19) (r) (nI 12)) (r + 1) (nI 71)) (r + 2) (nI 11)) (r + 3) (nI 60)) (r + 4) (nI 10) from rfl, show zX (zuX (zuX σ 19 (upd (upd (upd (upd (upd (zX σ 19) (r) (nI 12)) (r + 1) (nI 71)) (r + 2) (nI 11)) (r + 3) (nI 60)) (r + 4) (nI 10))) 18 (upd (zX σ 18) 1 (nI (r + 5)))) 18 = upd (zX σ 18) 1 (nI (r + 5)) from rfl, upd_upd, zuX_sw (by decide), zuX_sw (by decide)]; try rfl) ?_
  refine Z.ixor B dX9_sums_24 ?_
  refine Z.iret B Rt dX9_sums_25 (ty := .int) rfl rfl (by decide) (by decide) ?_
  exact ⟨rfl, rfl⟩

theorem t_C_X0_sums_6 {σ : zSt} (hl : Lay σ) {q pa num r : Nat} {x : Int32} (hw : zWo σ q 6 pa num) (hr : zX σ 18 1 = nI r) (hr20 : r + 8 ≤ 20) : Dt mX0_sums [.ref q, .int x] σ (some (.int ((((((x - nI pa) + nI num) * nI 2) * nI 2) ^^^ (((x - nI pa) + nI num) * nI 2)) ^^^ nI 5))) (zuX (zuX σ 19 (upd (upd (upd (upd (upd (upd (upd (upd (zX σ 19) (r) (nI 70)) (r + 1) (nI 12)) (r + 2) (nI 71)) (r + 3) (nI 11)) (r + 4) (nI 60)) (r + 5) (nI 10)) (r + 6) (nI 60)) (r + 7) (nI 10))) 18 (upd (zX σ 18) 1 (nI (r + 8)))) := by
  refine Dt.of (by decide) (Nat.le_of_ble_eq_true rfl) fun κ B Rt => ?_
  show Z κ 0 0 σ 0 [(0, .ref q), (1, .int x)] []
  refine Z.aload_n B dX0_sums_0 (v := .ref q) rfl rfl ?_
  refine Z.getR (σ := σ) B fX0_19_0 dX0_sums_1 hw.1 hw.2.1 (by decide) (j := 18) hw.2.2.1 ?_
  refine Z.bipush B dX0_sums_4 (v := nI 70) rfl ?_
  refine Z.callVN (σ := σ) B (M' := mX8_began) (as := [.int (nI 70)]) (st := []) dX0_sums_6 wX8_began iX8_began sX8_began kX0_25 (hl.n (k := 18) (by decide)) (hl.k (k := 18) (by decide)) (by decide) rfl rfl (t_X8_began (σ := σ) hl (r := r) hr (by omega) (b := nI 70)) rfl rfl (by decide) (by decide) (Nat.le_of_ble_eq_true rfl) (by decide) (by decide) ?_
  refine Z.eqσ (τ := (zuX (zuX σ 19 (upd (zX σ 19) (r) (nI 70))) 18 (upd (zX σ 18) 1 (nI (r + 1))))) rfl ?_
  have hwc41 : zWo (zuX (zuX σ 19 (upd (zX σ 19) (r) (nI 70))) 18 (upd (zX σ 18) 1 (nI (r + 1)))) q 6 pa num := (hw.uX (by decide)).uX (by decide)
  refine Z.aload_n B dX0_sums_9 (v := .ref q) rfl rfl ?_
  refine Z.iload_n B dX0_sums_10 (x := x) rfl ?_
  refine Z.callSUi (σ := (zuX (zuX σ 19 (upd (zX σ 19) (r) (nI 70))) 18 (upd (zX σ 18) 1 (nI (r + 1))))) B (M' := mX9_sums) (as := [.int x]) (st := []) (v := .int (((((x - nI pa) + nI num) * nI 2) * nI 2) ^^^ (((x - nI pa) + nI num) * nI 2))) dX0_sums_11 (t_C_X9_sums_6 (σ := (zuX (zuX σ 19 (upd (zX σ 19) (r) (nI 70))) 18 (upd (zX σ 18) 1 (nI (r + 1))))) hl (q := q) (r := r + 1) (x := x) hwc41 rfl (by omega)) rfl wX9_sums iX9_sums (x := ⟨"FourAskOne$Marked", "sums", "(I)I"⟩) kX0_31 (zT_at 1036 (by decide +kernel) rfl) ⟨rfl, rfl⟩ (zT_at 373 (by decide +kernel) rfl) (zT_at 564 (by decide +kernel) rfl) (by decide) hw.1 hw.2.1 (by decide) rfl rfl (by decide) (by decide) (Nat.le_of_ble_eq_true rfl) (by decide) (by decide) ?_
  refine Z.eqσ (τ := (zuX (zuX σ 19 (upd (upd (upd (upd (upd (upd (upd (upd (zX σ 19) (r) (nI 70)) (r + 1) (nI 12)) (r + 2) (nI 71)) (r + 3) (nI 11)) (r + 4) (nI 60)) (r + 5) (nI 10)) (r + 6) (nI 60)) (r + 7) (nI 10))) 18 (upd (zX σ 18) 1 (nI (r + 8))))) (by rw [show zX (zuX (zuX σ 19 (upd (zX σ 19) (r) (nI 70))) 18 (upd (zX σ 18) 1 (nI (r + 1)))) 19 = upd (zX σ 19) (r) (nI 70) from rfl, show zX (zuX (zuX σ 19 (upd (zX σ 19) (r) (nI 70))) 18 (upd (zX σ 18) 1 (nI (r + 1)))) 18 = upd (zX σ 18) 1 (nI (r + 1)) from rfl, upd_upd, zuX_sw (by decide), zuX_sw (by decide)]; try rfl) ?_
  refine Z.iconst B dX0_sums_14 (v := nI 5) rfl ?_
  refine Z.ixor B dX0_sums_15 ?_
  refine Z.iret B Rt dX0_sums_16 (ty := .int) rfl rfl (by decide) (by decide) ?_
  exact ⟨rfl, rfl⟩
