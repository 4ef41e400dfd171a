/-! what ways show -/
theorem shW_0 {F S K : Nat → Int32} {pa a c : Nat} : shW F S K 0 pa a c = fe F S K a c := by unfold shW; rw [if_pos rfl]
theorem shW_1 {F S K : Nat → Int32} {pa a c : Nat} : shW F S K 1 pa a c = (nI (pa % 11) * fe F S K a c + (nI 10 - nI (pa % 11)) * nI 10 * cn F c 6) / nI 10 := by unfold shW; rw [if_neg (by decide), if_pos rfl]
theorem shW_2 {F S K : Nat → Int32} {pa a c : Nat} : shW F S K 2 pa a c = (nI (pa % 11 / 2) * fe F S K a c + (nI 10 - nI (pa % 11 / 2)) * nI 10 * cn F c 6) / nI 10 := by unfold shW; rw [if_neg (by decide), if_neg (by decide), if_pos rfl]
theorem shW_3 {F S K : Nat → Int32} {pa a c : Nat} : shW F S K 3 pa a c = nI 30 * cn F c (pa % 3) := by unfold shW; rw [if_neg (by decide), if_neg (by decide), if_neg (by decide), if_pos rfl]
theorem shW_4 {F S K : Nat → Int32} {pa a c : Nat} : shW F S K 4 pa a c = if cn F c 6 < nI pa then nI 260 else nI 270 := by unfold shW; rw [if_neg (by decide), if_neg (by decide), if_neg (by decide), if_neg (by decide), if_pos rfl]
theorem shW_5 {F S K : Nat → Int32} {pa a c : Nat} : shW F S K 5 pa a c = nI 30 * cn F c 5 + bo F S K a c := by unfold shW; rw [if_neg (by decide), if_neg (by decide), if_neg (by decide), if_neg (by decide), if_neg (by decide), if_pos rfl]
theorem shW_6 {F S K : Nat → Int32} {pa a c : Nat} : shW F S K 6 pa a c = nI 30 * cn F c 5 := by unfold shW; rw [if_neg (by decide), if_neg (by decide), if_neg (by decide), if_neg (by decide), if_neg (by decide), if_neg (by decide)]

theorem t_X9_firstFeeling_0 {σ : zSt} {n a y : Nat} (H : zHd σ n a y) {q pa num : Nat} (hw : zWo σ q 0 pa num) {b c : Nat} (hb : b < a) (hc : c < n) : Dt mX9_firstFeeling [.ref q, .ref 20, .int (nI b), .int (nI c)] σ (some (.int (fe (zX σ 21) (zSc σ) (zLk σ) b c))) σ := by
  obtain ⟨hl, hn, hn8, ha, ha4, hy, hy8⟩ := id H
  have hpa : pa ≤ 99 := hw.2.2.2.2.2.2.2.1
  refine Dt.of (by decide) (Nat.le_of_ble_eq_true rfl) fun κ B Rt => ?_
  show Z κ 0 0 σ 0 [(0, .ref q), (1, .ref 20), (2, .int (nI b)), (3, .int (nI c))] []
  refine Z.bipush B dX9_firstFeeling_0 (v := nI 30) rfl ?_
  refine Z.aload_n B dX9_firstFeeling_2 (v := .ref 20) rfl rfl ?_
  refine Z.iload_n B dX9_firstFeeling_3 (x := nI c) rfl ?_
  refine Z.iconst B dX9_firstFeeling_4 (v := nI 3) rfl ?_
  refine Z.callVI (σ := σ) B (M' := mX1_comerNumber) (as := [.int (nI c), .int (nI 3)]) (st := [.int (nI 30)]) (v := .int (cn (zX σ 21) c 3)) dX9_firstFeeling_5 wX1_comerNumber iX1_comerNumber sX1_comerNumber kX9_29 (hl.n (k := 20) (by decide)) (hl.k (k := 20) (by decide)) (by decide) rfl rfl (t_X1_comerNumber (σ := σ) H (c := c) hc (by omega)) rfl rfl (by decide) (by decide) (Nat.le_of_ble_eq_true rfl) (by decide) (by decide) ?_
  refine Z.imul B dX9_firstFeeling_8 ?_
  refine Z.aload_n B dX9_firstFeeling_9 (v := .ref 20) rfl rfl ?_
  refine Z.iload_n B dX9_firstFeeling_10 (x := nI b) rfl ?_
  refine Z.iload_n B dX9_firstFeeling_11 (x := nI c) rfl ?_
  refine Z.callVI (σ := σ) B (M' := mX1_bonus) (as := [.int (nI b), .int (nI c)]) (st := [.int ((nI 30) * (cn (zX σ 21) c 3))]) (v := .int (bo (zX σ 21) (zSc σ) (zLk σ) b c)) dX9_firstFeeling_12 wX1_bonus iX1_bonus sX1_bonus kX9_35 (hl.n (k := 20) (by decide)) (hl.k (k := 20) (by decide)) (by decide) rfl rfl (t_X1_bonus (σ := σ) H hb hc) rfl rfl (by decide) (by decide) (Nat.le_of_ble_eq_true rfl) (by decide) (by decide) ?_
  refine Z.iadd B dX9_firstFeeling_15 ?_
  refine Z.iret B Rt dX9_firstFeeling_16 (ty := .int) rfl rfl (by decide) (by decide) ?_
  exact ⟨rfl, rfl⟩

theorem t_X9_firstFeeling_1 {σ : zSt} {n a y : Nat} (H : zHd σ n a y) {q pa num : Nat} (hw : zWo σ q 1 pa num) {b c : Nat} (hb : b < a) (hc : c < n) : Dt mX9_firstFeeling [.ref q, .ref 20, .int (nI b), .int (nI c)] σ (some (.int (fe (zX σ 21) (zSc σ) (zLk σ) b c))) σ := by
  obtain ⟨hl, hn, hn8, ha, ha4, hy, hy8⟩ := id H
  have hpa : pa ≤ 99 := hw.2.2.2.2.2.2.2.1
  refine Dt.of (by decide) (Nat.le_of_ble_eq_true rfl) fun κ B Rt => ?_
  show Z κ 0 0 σ 0 [(0, .ref q), (1, .ref 20), (2, .int (nI b)), (3, .int (nI c))] []
  refine Z.bipush B dX9_firstFeeling_0 (v := nI 30) rfl ?_
  refine Z.aload_n B dX9_firstFeeling_2 (v := .ref 20) rfl rfl ?_
  refine Z.iload_n B dX9_firstFeeling_3 (x := nI c) rfl ?_
  refine Z.iconst B dX9_firstFeeling_4 (v := nI 3) rfl ?_
  refine Z.callVI (σ := σ) B (M' := mX1_comerNumber) (as := [.int (nI c), .int (nI 3)]) (st := [.int (nI 30)]) (v := .int (cn (zX σ 21) c 3)) dX9_firstFeeling_5 wX1_comerNumber iX1_comerNumber sX1_comerNumber kX9_29 (hl.n (k := 20) (by decide)) (hl.k (k := 20) (by decide)) (by decide) rfl rfl (t_X1_comerNumber (σ := σ) H (c := c) hc (by omega)) rfl rfl (by decide) (by decide) (Nat.le_of_ble_eq_true rfl) (by decide) (by decide) ?_
  refine Z.imul B dX9_firstFeeling_8 ?_
  refine Z.aload_n B dX9_firstFeeling_9 (v := .ref 20) rfl rfl ?_
  refine Z.iload_n B dX9_firstFeeling_10 (x := nI b) rfl ?_
  refine Z.iload_n B dX9_firstFeeling_11 (x := nI c) rfl ?_
  refine Z.callVI (σ := σ) B (M' := mX1_bonus) (as := [.int (nI b), .int (nI c)]) (st := [.int ((nI 30) * (cn (zX σ 21) c 3))]) (v := .int (bo (zX σ 21) (zSc σ) (zLk σ) b c)) dX9_firstFeeling_12 wX1_bonus iX1_bonus sX1_bonus kX9_35 (hl.n (k := 20) (by decide)) (hl.k (k := 20) (by decide)) (by decide) rfl rfl (t_X1_bonus (σ := σ) H hb hc) rfl rfl (by decide) (by decide) (Nat.le_of_ble_eq_true rfl) (by decide) (by decide) ?_
  refine Z.iadd B dX9_firstFeeling_15 ?_
  refine Z.iret B Rt dX9_firstFeeling_16 (ty := .int) rfl rfl (by decide) (by decide) ?_
  exact ⟨rfl, rfl⟩

theorem t_X9_firstFeeling_2 {σ : zSt} {n a y : Nat} (H : zHd σ n a y) {q pa num : Nat} (hw : zWo σ q 2 pa num) {b c : Nat} (hb : b < a) (hc : c < n) : Dt mX9_firstFeeling [.ref q, .ref 20, .int (nI b), .int (nI c)] σ (some (.int (fe (zX σ 21) (zSc σ) (zLk σ) b c))) σ := by
  obtain ⟨hl, hn, hn8, ha, ha4, hy, hy8⟩ := id H
  have hpa : pa ≤ 99 := hw.2.2.2.2.2.2.2.1
  refine Dt.of (by decide) (Nat.le_of_ble_eq_true rfl) fun κ B Rt => ?_
  show Z κ 0 0 σ 0 [(0, .ref q), (1, .ref 20), (2, .int (nI b)), (3, .int (nI c))] []
  refine Z.bipush B dX9_firstFeeling_0 (v := nI 30) rfl ?_
  refine Z.aload_n B dX9_firstFeeling_2 (v := .ref 20) rfl rfl ?_
  refine Z.iload_n B dX9_firstFeeling_3 (x := nI c) rfl ?_
  refine Z.iconst B dX9_firstFeeling_4 (v := nI 3) rfl ?_
  refine Z.callVI (σ := σ) B (M' := mX1_comerNumber) (as := [.int (nI c), .int (nI 3)]) (st := [.int (nI 30)]) (v := .int (cn (zX σ 21) c 3)) dX9_firstFeeling_5 wX1_comerNumber iX1_comerNumber sX1_comerNumber kX9_29 (hl.n (k := 20) (by decide)) (hl.k (k := 20) (by decide)) (by decide) rfl rfl (t_X1_comerNumber (σ := σ) H (c := c) hc (by omega)) rfl rfl (by decide) (by decide) (Nat.le_of_ble_eq_true rfl) (by decide) (by decide) ?_
  refine Z.imul B dX9_firstFeeling_8 ?_
  refine Z.aload_n B dX9_firstFeeling_9 (v := .ref 20) rfl rfl ?_
  refine Z.iload_n B dX9_firstFeeling_10 (x := nI b) rfl ?_
  refine Z.iload_n B dX9_firstFeeling_11 (x := nI c) rfl ?_
  refine Z.callVI (σ := σ) B (M' := mX1_bonus) (as := [.int (nI b), .int (nI c)]) (st := [.int ((nI 30) * (cn (zX σ 21) c 3))]) (v := .int (bo (zX σ 21) (zSc σ) (zLk σ) b c)) dX9_firstFeeling_12 wX1_bonus iX1_bonus sX1_bonus kX9_35 (hl.n (k := 20) (by decide)) (hl.k (k := 20) (by decide)) (by decide) rfl rfl (t_X1_bonus (σ := σ) H hb hc) rfl rfl (by decide) (by decide) (Nat.le_of_ble_eq_true rfl) (by decide) (by decide) ?_
  refine Z.iadd B dX9_firstFeeling_15 ?_
  refine Z.iret B Rt dX9_firstFeeling_16 (ty := .int) rfl rfl (by decide) (by decide) ?_
  exact ⟨rfl, rfl⟩

theorem t_shown_0 {σ : zSt} {n a y : Nat} (H : zHd σ n a y) {q pa num : Nat} (hw : zWo σ q 0 pa num) {b c : Nat} (hb : b < a) (hc : c < n) : Dt mX9_shown [.ref q, .ref 20, .int (nI b), .int (nI c)] σ (some (.int (shW (zX σ 21) (zSc σ) (zLk σ) 0 pa b c))) σ := by
  obtain ⟨hl, hn, hn8, ha, ha4, hy, hy8⟩ := id H
  have hpa : pa ≤ 99 := hw.2.2.2.2.2.2.2.1
  refine Dt.of (by decide) (Nat.le_of_ble_eq_true rfl) fun κ B Rt => ?_
  show Z κ 0 0 σ 0 [(0, .ref q), (1, .ref 20), (2, .int (nI b)), (3, .int (nI c))] []
  refine Z.aload_n B dX9_shown_0 (v := .ref q) rfl rfl ?_
  refine Z.aload_n B dX9_shown_1 (v := .ref 20) rfl rfl ?_
  refine Z.iload_n B dX9_shown_2 (x := nI b) rfl ?_
  refine Z.iload_n B dX9_shown_3 (x := nI c) rfl ?_
  refine Z.callVI (σ := σ) B (M' := mX9_firstFeeling) (as := [.ref 20, .int (nI b), .int (nI c)]) (st := []) (v := .int (fe (zX σ 21) (zSc σ) (zLk σ) b c)) dX9_shown_4 wX9_firstFeeling iX9_firstFeeling sX9_firstFeeling kX9_25 hw.1 hw.2.1 (by decide) rfl rfl (t_X9_firstFeeling_0 (σ := σ) H hw hb hc) rfl rfl (by decide) (by decide) (Nat.le_of_ble_eq_true rfl) (by decide) (by decide) ?_
  refine Z.iret B Rt dX9_shown_7 (ty := .int) rfl rfl (by decide) (by decide) ?_
  exact ⟨by rw [shW_0], rfl⟩

theorem t_X7_tenths_1 {σ : zSt} {n a y : Nat} (H : zHd σ n a y) {q pa num : Nat} (hw : zWo σ q 1 pa num)  : Dt mX7_tenths [.ref q] σ (some (.int (nI (pa % 11)))) σ := by
  obtain ⟨hl, hn, hn8, ha, ha4, hy, hy8⟩ := id H
  have hpa : pa ≤ 99 := hw.2.2.2.2.2.2.2.1
  refine Dt.of (by decide) (Nat.le_of_ble_eq_true rfl) fun κ B Rt => ?_
  show Z κ 0 0 σ 0 [(0, .ref q)] []
  refine Z.aload_n B dX7_tenths_0 (v := .ref q) rfl rfl ?_
  refine Z.getI (σ := σ) B fX7_9_7 dX7_tenths_1 hw.1 hw.2.1 (by decide) (v := nI pa) hw.2.2.2.2.2.1 ?_
  refine Z.bipush B dX7_tenths_4 (v := nI 11) rfl ?_
  refine Z.irem B dX7_tenths_6 (by decide) ?_
  refine Z.eqS (st' := [.int (nI (pa % 11))]) (by rw [pk_rem (by omega) (by decide) (by decide)]) ?_
  refine Z.iret B Rt dX7_tenths_7 (ty := .int) rfl rfl (by decide) (by decide) ?_
  exact ⟨rfl, rfl⟩

theorem t_X7_tenths_2 {σ : zSt} {n a y : Nat} (H : zHd σ n a y) {q pa num : Nat} (hw : zWo σ q 2 pa num)  : Dt mX7_tenths [.ref q] σ (some (.int (nI (pa % 11)))) σ := by
  obtain ⟨hl, hn, hn8, ha, ha4, hy, hy8⟩ := id H
  have hpa : pa ≤ 99 := hw.2.2.2.2.2.2.2.1
  refine Dt.of (by decide) (Nat.le_of_ble_eq_true rfl) fun κ B Rt => ?_
  show Z κ 0 0 σ 0 [(0, .ref q)] []
  refine Z.aload_n B dX7_tenths_0 (v := .ref q) rfl rfl ?_
  refine Z.getI (σ := σ) B fX7_9_4 dX7_tenths_1 hw.1 hw.2.1 (by decide) (v := nI pa) hw.2.2.2.2.2.1 ?_
  refine Z.bipush B dX7_tenths_4 (v := nI 11) rfl ?_
  refine Z.irem B dX7_tenths_6 (by decide) ?_
  refine Z.eqS (st' := [.int (nI (pa % 11))]) (by rw [pk_rem (by omega) (by decide) (by decide)]) ?_
  refine Z.iret B Rt dX7_tenths_7 (ty := .int) rfl rfl (by decide) (by decide) ?_
  exact ⟨rfl, rfl⟩

theorem t_X4_tenths_2 {σ : zSt} {n a y : Nat} (H : zHd σ n a y) {q pa num : Nat} (hw : zWo σ q 2 pa num)  : Dt mX4_tenths [.ref q] σ (some (.int (nI (pa % 11 / 2)))) σ := by
  obtain ⟨hl, hn, hn8, ha, ha4, hy, hy8⟩ := id H
  have hpa : pa ≤ 99 := hw.2.2.2.2.2.2.2.1
  refine Dt.of (by decide) (Nat.le_of_ble_eq_true rfl) fun κ B Rt => ?_
  show Z κ 0 0 σ 0 [(0, .ref q)] []
  refine Z.aload_n B dX4_tenths_0 (v := .ref q) rfl rfl ?_
  refine Z.callSUI (σ := σ) B (M' := mX7_tenths) (as := []) (st := []) (v := .int (nI (pa % 11))) dX4_tenths_1 wX7_tenths iX7_tenths kX4_7 (zT_at 327 (by decide +kernel) rfl) (zT_at 332 (by decide +kernel) rfl) (by decide) hw.1 hw.2.1 (by decide) rfl (t_X7_tenths_2 (σ := σ) H hw) rfl rfl (by decide) (by decide) (Nat.le_of_ble_eq_true rfl) (by decide) (by decide) ?_
  refine Z.iconst B dX4_tenths_4 (v := nI 2) rfl ?_
  refine Z.idiv B dX4_tenths_5 (by decide) ?_
  refine Z.eqS (st' := [.int (nI (pa % 11 / 2))]) (by rw [pk_div (by omega) (by decide) (by decide)]) ?_
  refine Z.iret B Rt dX4_tenths_6 (ty := .int) rfl rfl (by decide) (by decide) ?_
  exact ⟨rfl, rfl⟩

theorem t_X10_line {σ : zSt} {n a y : Nat} (H : zHd σ n a y) {q pa num : Nat} (hw : zWo σ q 3 pa num)  : Dt mX10_line [.ref q] σ (some (.int (nI (pa % 3)))) σ := by
  obtain ⟨hl, hn, hn8, ha, ha4, hy, hy8⟩ := id H
  have hpa : pa ≤ 99 := hw.2.2.2.2.2.2.2.1
  refine Dt.of (by decide) (Nat.le_of_ble_eq_true rfl) fun κ B Rt => ?_
  show Z κ 0 0 σ 0 [(0, .ref q)] []
  refine Z.aload_n B dX10_line_0 (v := .ref q) rfl rfl ?_
  refine Z.getI (σ := σ) B fX10_9_10 dX10_line_1 hw.1 hw.2.1 (by decide) (v := nI pa) hw.2.2.2.2.2.1 ?_
  refine Z.iconst B dX10_line_4 (v := nI 3) rfl ?_
  refine Z.irem B dX10_line_5 (by decide) ?_
  refine Z.eqS (st' := [.int (nI (pa % 3))]) (by rw [pk_rem (by omega) (by decide) (by decide)]) ?_
  refine Z.iret B Rt dX10_line_6 (ty := .int) rfl rfl (by decide) (by decide) ?_
  exact ⟨rfl, rfl⟩

theorem t_shown_1 {σ : zSt} {n a y : Nat} (H : zHd σ n a y) {q pa num : Nat} (hw : zWo σ q 1 pa num) {b c : Nat} (hb : b < a) (hc : c < n) : Dt mX7_shown [.ref q, .ref 20, .int (nI b), .int (nI c)] σ (some (.int (shW (zX σ 21) (zSc σ) (zLk σ) 1 pa b c))) σ := by
  obtain ⟨hl, hn, hn8, ha, ha4, hy, hy8⟩ := id H
  have hpa : pa ≤ 99 := hw.2.2.2.2.2.2.2.1
  refine Dt.of (by decide) (Nat.le_of_ble_eq_true rfl) fun κ B Rt => ?_
  show Z κ 0 0 σ 0 [(0, .ref q), (1, .ref 20), (2, .int (nI b)), (3, .int (nI c))] []
  refine Z.aload_n B dX7_shown_0 (v := .ref q) rfl rfl ?_
  refine Z.callVI (σ := σ) B (M' := mX7_tenths) (as := []) (st := []) (v := .int (nI (pa % 11))) dX7_shown_1 wX7_tenths iX7_tenths sX7_tenths kX7_15 hw.1 hw.2.1 (by decide) rfl rfl (t_X7_tenths_1 (σ := σ) H hw) rfl rfl (by decide) (by decide) (Nat.le_of_ble_eq_true rfl) (by decide) (by decide) ?_
  refine Z.istore B dX7_shown_4 (by decide) (L' := [(0, .ref q), (1, .ref 20), (2, .int (nI b)), (3, .int (nI c)), (4, .int (nI (pa % 11)))]) rfl ?_
  refine Z.aload_n B dX7_shown_6 (v := .ref q) rfl rfl ?_
  refine Z.aload_n B dX7_shown_7 (v := .ref 20) rfl rfl ?_
  refine Z.iload_n B dX7_shown_8 (x := nI b) rfl ?_
  refine Z.iload_n B dX7_shown_9 (x := nI c) rfl ?_
  refine Z.callUI (σ := σ) B (M' := mX9_firstFeeling) (as := [.ref 20, .int (nI b), .int (nI c)]) (st := []) (v := .int (fe (zX σ 21) (zSc σ) (zLk σ) b c)) dX7_shown_10 wX9_firstFeeling iX9_firstFeeling (x := ⟨"FourAskOne$Talked", "firstFeeling", "(LFourAskOne$House;II)I"⟩) (owner := "FourAskOne$Way") kX7_19 (zT_at 414 (by decide +kernel) rfl) iX9_firstFeeling wX9_firstFeeling.1 (by decide +kernel) hw.1 hw.2.1 (by decide) rfl (zT_at 417 (by decide +kernel) rfl) (t_X9_firstFeeling_1 (σ := σ) H hw hb hc) rfl rfl (by decide) (by decide) (Nat.le_of_ble_eq_true rfl) (by decide) (by decide) ?_
  refine Z.istore B dX7_shown_13 (by decide) (L' := [(0, .ref q), (1, .ref 20), (2, .int (nI b)), (3, .int (nI c)), (4, .int (nI (pa % 11))), (5, .int (fe (zX σ 21) (zSc σ) (zLk σ) b c))]) rfl ?_
  refine Z.iload B dX7_shown_15 (x := nI (pa % 11)) rfl ?_
  refine Z.iload B dX7_shown_17 (x := fe (zX σ 21) (zSc σ) (zLk σ) b c) rfl ?_
  refine Z.imul B dX7_shown_19 ?_
  refine Z.bipush B dX7_shown_20 (v := nI 10) rfl ?_
  refine Z.iload B dX7_shown_22 (x := nI (pa % 11)) rfl ?_
  refine Z.isub B dX7_shown_24 ?_
  refine Z.bipush B dX7_shown_25 (v := nI 10) rfl ?_
  refine Z.imul B dX7_shown_27 ?_
  refine Z.aload_n B dX7_shown_28 (v := .ref 20) rfl rfl ?_
  refine Z.iload_n B dX7_shown_29 (x := nI c) rfl ?_
  refine Z.bipush B dX7_shown_30 (v := nI 6) rfl ?_
  refine Z.callVI (σ := σ) B (M' := mX1_comerNumber) (as := [.int (nI c), .int (nI 6)]) (st := [.int (((nI 10) - (nI (pa % 11))) * (nI 10)), .int ((nI (pa % 11)) * (fe (zX σ 21) (zSc σ) (zLk σ) b c))]) (v := .int (cn (zX σ 21) c 6)) dX7_shown_32 wX1_comerNumber iX1_comerNumber sX1_comerNumber kX7_23 (hl.n (k := 20) (by decide)) (hl.k (k := 20) (by decide)) (by decide) rfl rfl (t_X1_comerNumber (σ := σ) H (c := c) hc (by omega)) rfl rfl (by decide) (by decide) (Nat.le_of_ble_eq_true rfl) (by decide) (by decide) ?_
  refine Z.imul B dX7_shown_35 ?_
  refine Z.iadd B dX7_shown_36 ?_
  refine Z.bipush B dX7_shown_37 (v := nI 10) rfl ?_
  refine Z.idiv B dX7_shown_39 (by decide) ?_
  refine Z.iret B Rt dX7_shown_40 (ty := .int) rfl rfl (by decide) (by decide) ?_
  exact ⟨by rw [shW_1], rfl⟩

theorem t_shown_2 {σ : zSt} {n a y : Nat} (H : zHd σ n a y) {q pa num : Nat} (hw : zWo σ q 2 pa num) {b c : Nat} (hb : b < a) (hc : c < n) : Dt mX7_shown [.ref q, .ref 20, .int (nI b), .int (nI c)] σ (some (.int (shW (zX σ 21) (zSc σ) (zLk σ) 2 pa b c))) σ := by
  obtain ⟨hl, hn, hn8, ha, ha4, hy, hy8⟩ := id H
  have hpa : pa ≤ 99 := hw.2.2.2.2.2.2.2.1
  refine Dt.of (by decide) (Nat.le_of_ble_eq_true rfl) fun κ B Rt => ?_
  show Z κ 0 0 σ 0 [(0, .ref q), (1, .ref 20), (2, .int (nI b)), (3, .int (nI c))] []
  refine Z.aload_n B dX7_shown_0 (v := .ref q) rfl rfl ?_
  refine Z.callUI (σ := σ) B (M' := mX4_tenths) (as := []) (st := []) (v := .int (nI (pa % 11 / 2))) dX7_shown_1 wX4_tenths iX4_tenths (x := yX7_tenths) (owner := "FourAskOne$Talked") kX7_15 (zT_at 327 (by decide +kernel) rfl) iX7_tenths wX7_tenths.1 (by decide +kernel) hw.1 hw.2.1 (by decide) rfl (zT_at 328 (by decide +kernel) rfl) (t_X4_tenths_2 (σ := σ) H hw) rfl rfl (by decide) (by decide) (Nat.le_of_ble_eq_true rfl) (by decide) (by decide) ?_
  refine Z.istore B dX7_shown_4 (by decide) (L' := [(0, .ref q), (1, .ref 20), (2, .int (nI b)), (3, .int (nI c)), (4, .int (nI (pa % 11 / 2)))]) rfl ?_
  refine Z.aload_n B dX7_shown_6 (v := .ref q) rfl rfl ?_
  refine Z.aload_n B dX7_shown_7 (v := .ref 20) rfl rfl ?_
  refine Z.iload_n B dX7_shown_8 (x := nI b) rfl ?_
  refine Z.iload_n B dX7_shown_9 (x := nI c) rfl ?_
  refine Z.callUI (σ := σ) B (M' := mX9_firstFeeling) (as := [.ref 20, .int (nI b), .int (nI c)]) (st := []) (v := .int (fe (zX σ 21) (zSc σ) (zLk σ) b c)) dX7_shown_10 wX9_firstFeeling iX9_firstFeeling (x := ⟨"FourAskOne$Talked", "firstFeeling", "(LFourAskOne$House;II)I"⟩) (owner := "FourAskOne$Way") kX7_19 (zT_at 414 (by decide +kernel) rfl) iX9_firstFeeling wX9_firstFeeling.1 (by decide +kernel) hw.1 hw.2.1 (by decide) rfl (zT_at 416 (by decide +kernel) rfl) (t_X9_firstFeeling_2 (σ := σ) H hw hb hc) rfl rfl (by decide) (by decide) (Nat.le_of_ble_eq_true rfl) (by decide) (by decide) ?_
  refine Z.istore B dX7_shown_13 (by decide) (L' := [(0, .ref q), (1, .ref 20), (2, .int (nI b)), (3, .int (nI c)), (4, .int (nI (pa % 11 / 2))), (5, .int (fe (zX σ 21) (zSc σ) (zLk σ) b c))]) rfl ?_
  refine Z.iload B dX7_shown_15 (x := nI (pa % 11 / 2)) rfl ?_
  refine Z.iload B dX7_shown_17 (x := fe (zX σ 21) (zSc σ) (zLk σ) b c) rfl ?_
  refine Z.imul B dX7_shown_19 ?_
  refine Z.bipush B dX7_shown_20 (v := nI 10) rfl ?_
  refine Z.iload B dX7_shown_22 (x := nI (pa % 11 / 2)) rfl ?_
  refine Z.isub B dX7_shown_24 ?_
  refine Z.bipush B dX7_shown_25 (v := nI 10) rfl ?_
  refine Z.imul B dX7_shown_27 ?_
  refine Z.aload_n B dX7_shown_28 (v := .ref 20) rfl rfl ?_
  refine Z.iload_n B dX7_shown_29 (x := nI c) rfl ?_
  refine Z.bipush B dX7_shown_30 (v := nI 6) rfl ?_
  refine Z.callVI (σ := σ) B (M' := mX1_comerNumber) (as := [.int (nI c), .int (nI 6)]) (st := [.int (((nI 10) - (nI (pa % 11 / 2))) * (nI 10)), .int ((nI (pa % 11 / 2)) * (fe (zX σ 21) (zSc σ) (zLk σ) b c))]) (v := .int (cn (zX σ 21) c 6)) dX7_shown_32 wX1_comerNumber iX1_comerNumber sX1_comerNumber kX7_23 (hl.n (k := 20) (by decide)) (hl.k (k := 20) (by decide)) (by decide) rfl rfl (t_X1_comerNumber (σ := σ) H (c := c) hc (by omega)) rfl rfl (by decide) (by decide) (Nat.le_of_ble_eq_true rfl) (by decide) (by decide) ?_
  refine Z.imul B dX7_shown_35 ?_
  refine Z.iadd B dX7_shown_36 ?_
  refine Z.bipush B dX7_shown_37 (v := nI 10) rfl ?_
  refine Z.idiv B dX7_shown_39 (by decide) ?_
  refine Z.iret B Rt dX7_shown_40 (ty := .int) rfl rfl (by decide) (by decide) ?_
  exact ⟨by rw [shW_2], rfl⟩

theorem t_shown_3 {σ : zSt} {n a y : Nat} (H : zHd σ n a y) {q pa num : Nat} (hw : zWo σ q 3 pa num) {b c : Nat} (hb : b < a) (hc : c < n) : Dt mX10_shown [.ref q, .ref 20, .int (nI b), .int (nI c)] σ (some (.int (shW (zX σ 21) (zSc σ) (zLk σ) 3 pa b c))) σ := by
  obtain ⟨hl, hn, hn8, ha, ha4, hy, hy8⟩ := id H
  have hpa : pa ≤ 99 := hw.2.2.2.2.2.2.2.1
  refine Dt.of (by decide) (Nat.le_of_ble_eq_true rfl) fun κ B Rt => ?_
  show Z κ 0 0 σ 0 [(0, .ref q), (1, .ref 20), (2, .int (nI b)), (3, .int (nI c))] []
  refine Z.bipush B dX10_shown_0 (v := nI 30) rfl ?_
  refine Z.aload_n B dX10_shown_2 (v := .ref 20) rfl rfl ?_
  refine Z.iload_n B dX10_shown_3 (x := nI c) rfl ?_
  refine Z.aload_n B dX10_shown_4 (v := .ref q) rfl rfl ?_
  refine Z.callVI (σ := σ) B (M' := mX10_line) (as := []) (st := [.int (nI c), .ref 20, .int (nI 30)]) (v := .int (nI (pa % 3))) dX10_shown_5 wX10_line iX10_line sX10_line kX10_15 hw.1 hw.2.1 (by decide) rfl rfl (t_X10_line (σ := σ) H hw) rfl rfl (by decide) (by decide) (Nat.le_of_ble_eq_true rfl) (by decide) (by decide) ?_
  refine Z.callVI (σ := σ) B (M' := mX1_comerNumber) (as := [.int (nI c), .int (nI (pa % 3))]) (st := [.int (nI 30)]) (v := .int (cn (zX σ 21) c (pa % 3))) dX10_shown_8 wX1_comerNumber iX1_comerNumber sX1_comerNumber kX10_19 (hl.n (k := 20) (by decide)) (hl.k (k := 20) (by decide)) (by decide) rfl rfl (t_X1_comerNumber (σ := σ) H (c := c) hc (by omega)) rfl rfl (by decide) (by decide) (Nat.le_of_ble_eq_true rfl) (by decide) (by decide) ?_
  refine Z.imul B dX10_shown_11 ?_
  refine Z.iret B Rt dX10_shown_12 (ty := .int) rfl rfl (by decide) (by decide) ?_
  exact ⟨by rw [shW_3], rfl⟩

theorem t_shown_4 {σ : zSt} {n a y : Nat} (H : zHd σ n a y) {q pa num : Nat} (hw : zWo σ q 4 pa num) {b c : Nat} (hb : b < a) (hc : c < n) : Dt mX3_shown [.ref q, .ref 20, .int (nI b), .int (nI c)] σ (some (.int (shW (zX σ 21) (zSc σ) (zLk σ) 4 pa b c))) σ := by
  obtain ⟨hl, hn, hn8, ha, ha4, hy, hy8⟩ := id H
  have hpa : pa ≤ 99 := hw.2.2.2.2.2.2.2.1
  refine Dt.of (by decide) (Nat.le_of_ble_eq_true rfl) fun κ B Rt => ?_
  show Z κ 0 0 σ 0 [(0, .ref q), (1, .ref 20), (2, .int (nI b)), (3, .int (nI c))] []
  refine Z.aload_n B dX3_shown_0 (v := .ref 20) rfl rfl ?_
  refine Z.iload_n B dX3_shown_1 (x := nI c) rfl ?_
  refine Z.bipush B dX3_shown_2 (v := nI 6) rfl ?_
  refine Z.callVI (σ := σ) B (M' := mX1_comerNumber) (as := [.int (nI c), .int (nI 6)]) (st := []) (v := .int (cn (zX σ 21) c 6)) dX3_shown_4 wX1_comerNumber iX1_comerNumber sX1_comerNumber kX3_9 (hl.n (k := 20) (by decide)) (hl.k (k := 20) (by decide)) (by decide) rfl rfl (t_X1_comerNumber (σ := σ) H (c := c) hc (by omega)) rfl rfl (by decide) (by decide) (Nat.le_of_ble_eq_true rfl) (by decide) (by decide) ?_
  refine Z.aload_n B dX3_shown_7 (v := .ref q) rfl rfl ?_
  refine Z.getI (σ := σ) B fX3_15_3 dX3_shown_8 hw.1 hw.2.1 (by decide) (v := nI pa) hw.2.2.2.2.2.1 ?_
  refine Z.icmp_ge B dX3_shown_11 (tgt := 20) rfl (fun h11 => ?_) (fun h11 => ?_)
  · skip
    refine Z.sipush B dX3_shown_20 (v := nI 270) rfl ?_
    refine Z.iret B Rt dX3_shown_23 (ty := .int) rfl rfl (by decide) (by decide) ?_
    rw [shW_4]
    first | exact ⟨zip (P := cn (zX σ 21) c 6 < nI pa) (by rw [zlt_iff]; rw [zle_iff] at h11; omega), rfl⟩ | exact ⟨zin (P := cn (zX σ 21) c 6 < nI pa) (by rw [zlt_iff]; rw [zle_iff] at h11; omega), rfl⟩
  · skip
    refine Z.sipush B dX3_shown_14 (v := nI 260) rfl ?_
    refine Z.goto B dX3_shown_17 (tgt := 23) rfl ?_
    refine Z.iret B Rt dX3_shown_23 (ty := .int) rfl rfl (by decide) (by decide) ?_
    rw [shW_4]
    first | exact ⟨zip (P := cn (zX σ 21) c 6 < nI pa) (by rw [zlt_iff]; rw [zle_iff] at h11; omega), rfl⟩ | exact ⟨zin (P := cn (zX σ 21) c 6 < nI pa) (by rw [zlt_iff]; rw [zle_iff] at h11; omega), rfl⟩

theorem t_shown_5 {σ : zSt} {n a y : Nat} (H : zHd σ n a y) {q pa num : Nat} (hw : zWo σ q 5 pa num) {b c : Nat} (hb : b < a) (hc : c < n) : Dt mX5_shown [.ref q, .ref 20, .int (nI b), .int (nI c)] σ (some (.int (shW (zX σ 21) (zSc σ) (zLk σ) 5 pa b c))) σ := by
  obtain ⟨hl, hn, hn8, ha, ha4, hy, hy8⟩ := id H
  have hpa : pa ≤ 99 := hw.2.2.2.2.2.2.2.1
  refine Dt.of (by decide) (Nat.le_of_ble_eq_true rfl) fun κ B Rt => ?_
  show Z κ 0 0 σ 0 [(0, .ref q), (1, .ref 20), (2, .int (nI b)), (3, .int (nI c))] []
  refine Z.bipush B dX5_shown_0 (v := nI 30) rfl ?_
  refine Z.aload_n B dX5_shown_2 (v := .ref 20) rfl rfl ?_
  refine Z.iload_n B dX5_shown_3 (x := nI c) rfl ?_
  refine Z.iconst B dX5_shown_4 (v := nI 5) rfl ?_
  refine Z.callVI (σ := σ) B (M' := mX1_comerNumber) (as := [.int (nI c), .int (nI 5)]) (st := [.int (nI 30)]) (v := .int (cn (zX σ 21) c 5)) dX5_shown_5 wX1_comerNumber iX1_comerNumber sX1_comerNumber kX5_9 (hl.n (k := 20) (by decide)) (hl.k (k := 20) (by decide)) (by decide) rfl rfl (t_X1_comerNumber (σ := σ) H (c := c) hc (by omega)) rfl rfl (by decide) (by decide) (Nat.le_of_ble_eq_true rfl) (by decide) (by decide) ?_
  refine Z.imul B dX5_shown_8 ?_
  refine Z.aload_n B dX5_shown_9 (v := .ref 20) rfl rfl ?_
  refine Z.iload_n B dX5_shown_10 (x := nI b) rfl ?_
  refine Z.iload_n B dX5_shown_11 (x := nI c) rfl ?_
  refine Z.callVI (σ := σ) B (M' := mX1_bonus) (as := [.int (nI b), .int (nI c)]) (st := [.int ((nI 30) * (cn (zX σ 21) c 5))]) (v := .int (bo (zX σ 21) (zSc σ) (zLk σ) b c)) dX5_shown_12 wX1_bonus iX1_bonus sX1_bonus kX5_15 (hl.n (k := 20) (by decide)) (hl.k (k := 20) (by decide)) (by decide) rfl rfl (t_X1_bonus (σ := σ) H hb hc) rfl rfl (by decide) (by decide) (Nat.le_of_ble_eq_true rfl) (by decide) (by decide) ?_
  refine Z.iadd B dX5_shown_15 ?_
  refine Z.iret B Rt dX5_shown_16 (ty := .int) rfl rfl (by decide) (by decide) ?_
  exact ⟨by rw [shW_5], rfl⟩

theorem t_X5_shown_6 {σ : zSt} {n a y : Nat} (H : zHd σ n a y) {q pa num : Nat} (hw : zWo σ q 6 pa num) {b c : Nat} (hb : b < a) (hc : c < n) : Dt mX5_shown [.ref q, .ref 20, .int (nI b), .int (nI c)] σ (some (.int (nI 30 * cn (zX σ 21) c 5 + bo (zX σ 21) (zSc σ) (zLk σ) b c))) σ := by
  obtain ⟨hl, hn, hn8, ha, ha4, hy, hy8⟩ := id H
  have hpa : pa ≤ 99 := hw.2.2.2.2.2.2.2.1
  refine Dt.of (by decide) (Nat.le_of_ble_eq_true rfl) fun κ B Rt => ?_
  show Z κ 0 0 σ 0 [(0, .ref q), (1, .ref 20), (2, .int (nI b)), (3, .int (nI c))] []
  refine Z.bipush B dX5_shown_0 (v := nI 30) rfl ?_
  refine Z.aload_n B dX5_shown_2 (v := .ref 20) rfl rfl ?_
  refine Z.iload_n B dX5_shown_3 (x := nI c) rfl ?_
  refine Z.iconst B dX5_shown_4 (v := nI 5) rfl ?_
  refine Z.callVI (σ := σ) B (M' := mX1_comerNumber) (as := [.int (nI c), .int (nI 5)]) (st := [.int (nI 30)]) (v := .int (cn (zX σ 21) c 5)) dX5_shown_5 wX1_comerNumber iX1_comerNumber sX1_comerNumber kX5_9 (hl.n (k := 20) (by decide)) (hl.k (k := 20) (by decide)) (by decide) rfl rfl (t_X1_comerNumber (σ := σ) H (c := c) hc (by omega)) rfl rfl (by decide) (by decide) (Nat.le_of_ble_eq_true rfl) (by decide) (by decide) ?_
  refine Z.imul B dX5_shown_8 ?_
  refine Z.aload_n B dX5_shown_9 (v := .ref 20) rfl rfl ?_
  refine Z.iload_n B dX5_shown_10 (x := nI b) rfl ?_
  refine Z.iload_n B dX5_shown_11 (x := nI c) rfl ?_
  refine Z.callVI (σ := σ) B (M' := mX1_bonus) (as := [.int (nI b), .int (nI c)]) (st := [.int ((nI 30) * (cn (zX σ 21) c 5))]) (v := .int (bo (zX σ 21) (zSc σ) (zLk σ) b c)) dX5_shown_12 wX1_bonus iX1_bonus sX1_bonus kX5_15 (hl.n (k := 20) (by decide)) (hl.k (k := 20) (by decide)) (by decide) rfl rfl (t_X1_bonus (σ := σ) H hb hc) rfl rfl (by decide) (by decide) (Nat.le_of_ble_eq_true rfl) (by decide) (by decide) ?_
  refine Z.iadd B dX5_shown_15 ?_
  refine Z.iret B Rt dX5_shown_16 (ty := .int) rfl rfl (by decide) (by decide) ?_
  exact ⟨rfl, rfl⟩

theorem t_shown_6 {σ : zSt} {n a y : Nat} (H : zHd σ n a y) {q pa num : Nat} (hw : zWo σ q 6 pa num) {b c : Nat} (hb : b < a) (hc : c < n) : Dt mX0_shown [.ref q, .ref 20, .int (nI b), .int (nI c)] σ (some (.int (shW (zX σ 21) (zSc σ) (zLk σ) 6 pa b c))) σ := by
  obtain ⟨hl, hn, hn8, ha, ha4, hy, hy8⟩ := id H
  have hpa : pa ≤ 99 := hw.2.2.2.2.2.2.2.1
  refine Dt.of (by decide) (Nat.le_of_ble_eq_true rfl) fun κ B Rt => ?_
  show Z κ 0 0 σ 0 [(0, .ref q), (1, .ref 20), (2, .int (nI b)), (3, .int (nI c))] []
  refine Z.bipush B dX0_shown_0 (v := nI 30) rfl ?_
  refine Z.aload_n B dX0_shown_2 (v := .ref 20) rfl rfl ?_
  refine Z.iload_n B dX0_shown_3 (x := nI c) rfl ?_
  refine Z.iconst B dX0_shown_4 (v := nI 5) rfl ?_
  refine Z.callVI (σ := σ) B (M' := mX1_comerNumber) (as := [.int (nI c), .int (nI 5)]) (st := [.int (nI 30)]) (v := .int (cn (zX σ 21) c 5)) dX0_shown_5 wX1_comerNumber iX1_comerNumber sX1_comerNumber kX0_9 (hl.n (k := 20) (by decide)) (hl.k (k := 20) (by decide)) (by decide) rfl rfl (t_X1_comerNumber (σ := σ) H (c := c) hc (by omega)) rfl rfl (by decide) (by decide) (Nat.le_of_ble_eq_true rfl) (by decide) (by decide) ?_
  refine Z.imul B dX0_shown_8 ?_
  refine Z.iret B Rt dX0_shown_9 (ty := .int) rfl rfl (by decide) (by decide) ?_
  exact ⟨by rw [shW_6], rfl⟩

theorem t_X0_shownWithNames {σ : zSt} {n a y : Nat} (H : zHd σ n a y) {q pa num : Nat} (hw : zWo σ q 6 pa num) {b c : Nat} (hb : b < a) (hc : c < n) : Dt mX0_shownWithNames [.ref q, .ref 20, .int (nI b), .int (nI c)] σ (some (.int (shW (zX σ 21) (zSc σ) (zLk σ) 5 pa b c))) σ := by
  obtain ⟨hl, hn, hn8, ha, ha4, hy, hy8⟩ := id H
  have hpa : pa ≤ 99 := hw.2.2.2.2.2.2.2.1
  refine Dt.of (by decide) (Nat.le_of_ble_eq_true rfl) fun κ B Rt => ?_
  show Z κ 0 0 σ 0 [(0, .ref q), (1, .ref 20), (2, .int (nI b)), (3, .int (nI c))] []
  refine Z.aload_n B dX0_shownWithNames_0 (v := .ref q) rfl rfl ?_
  refine Z.aload_n B dX0_shownWithNames_1 (v := .ref 20) rfl rfl ?_
  refine Z.iload_n B dX0_shownWithNames_2 (x := nI b) rfl ?_
  refine Z.iload_n B dX0_shownWithNames_3 (x := nI c) rfl ?_
  refine Z.callSUI (σ := σ) B (M' := mX5_shown) (as := [.ref 20, .int (nI b), .int (nI c)]) (st := []) (v := .int (nI 30 * cn (zX σ 21) c 5 + bo (zX σ 21) (zSc σ) (zLk σ) b c)) dX0_shownWithNames_4 wX5_shown iX5_shown kX0_15 (zT_at 1545 (by decide +kernel) rfl) (zT_at 373 (by decide +kernel) rfl) (by decide) hw.1 hw.2.1 (by decide) rfl (t_X5_shown_6 (σ := σ) H hw hb hc) rfl rfl (by decide) (by decide) (Nat.le_of_ble_eq_true rfl) (by decide) (by decide) ?_
  refine Z.iret B Rt dX0_shownWithNames_7 (ty := .int) rfl rfl (by decide) (by decide) ?_
  exact ⟨by rw [shW_5], rfl⟩
