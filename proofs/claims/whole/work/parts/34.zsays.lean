/-! what ways say: the class and the model -/
theorem t_K_saysAs_0_0 {σ : zSt} (hl : Lay σ) {n a y : Nat} (H : zHd σ n a y) {od : Nat → Nat} (ho : zOd σ a od) {q pa num : Nat} (hw : zWo σ q 0 pa num) : Dt mX11_saysAs [.ref 0, .ref q, .int (nI 0)] σ (some (.int (nI pa))) σ := by
  obtain ⟨-, hn, hn8, ha, ha4, hy, hy8⟩ := id H
  have hpa : pa ≤ 99 := hw.2.2.2.2.2.2.2.1
  refine Dt.of (by decide) (Nat.le_of_ble_eq_true rfl) fun κ B Rt => ?_
  show Z κ 0 0 σ 0 [(0, .ref 0), (1, .ref q), (2, .int (nI 0))] []
  refine Z.iload_n B dX11_saysAs_0 (x := nI 0) rfl ?_
  refine Z.if_neN B dX11_saysAs_1 (tgt := 9) rfl (by omega) (fun h1 => by exfalso; first | omega | contradiction | simp_all) (fun h1 => ?_)
  refine Z.aload_n B dX11_saysAs_4 (v := .ref q) rfl rfl ?_
  refine Z.getI (σ := σ) B fX11_172_9 dX11_saysAs_5 hw.1 hw.2.1 (by decide) (v := nI pa) hw.2.2.2.2.2.1 ?_
  refine Z.iret B Rt dX11_saysAs_8 (ty := .int) rfl rfl (by decide) (by decide) ?_
  exact ⟨rfl, rfl⟩

theorem t_K_saysAs_0_1 {σ : zSt} (hl : Lay σ) {n a y : Nat} (H : zHd σ n a y) {od : Nat → Nat} (ho : zOd σ a od) {q pa num : Nat} (hw : zWo σ q 0 pa num) : Dt mX11_saysAs [.ref 0, .ref q, .int (nI 1)] σ (some (.int (-nI 2))) (zuX σ 43 (upd (zX σ 43) 2 (zX σ 43 2 + nI 1))) := by
  obtain ⟨-, hn, hn8, ha, ha4, hy, hy8⟩ := id H
  have hpa : pa ≤ 99 := hw.2.2.2.2.2.2.2.1
  refine Dt.of (by decide) (Nat.le_of_ble_eq_true rfl) fun κ B Rt => ?_
  show Z κ 0 0 σ 0 [(0, .ref 0), (1, .ref q), (2, .int (nI 1))] []
  refine Z.iload_n B dX11_saysAs_0 (x := nI 1) rfl ?_
  refine Z.if_neN B dX11_saysAs_1 (tgt := 9) rfl (by omega) (fun h1 => ?_) (fun h1 => by exfalso; first | omega | contradiction | simp_all)
  refine Z.iload_n B dX11_saysAs_9 (x := nI 1) rfl ?_
  refine Z.iconst B dX11_saysAs_10 (v := nI 1) rfl ?_
  refine Z.icmp_neN B dX11_saysAs_11 (tgt := 31) rfl (by omega) (by omega) (fun h11 => by exfalso; first | omega | contradiction | simp_all) (fun h11 => ?_)
  refine Z.aload_n B dX11_saysAs_14 (v := .ref q) rfl rfl ?_
  refine Z.instNo (σ := σ) B (nm := "FourAskOne$Talked") dX11_saysAs_15 (zT_at 323 (by decide +kernel) rfl) hw.1 hw.2.1 (by decide) rfl (by decide +kernel) ?_
  refine Z.if_eqN B dX11_saysAs_18 (tgt := 31) rfl (by omega) (fun h18 => ?_) (fun h18 => by exfalso; first | omega | contradiction | simp_all)
  refine Z.iload_n B dX11_saysAs_31 (x := nI 1) rfl ?_
  refine Z.iconst B dX11_saysAs_32 (v := nI 2) rfl ?_
  refine Z.icmp_neN B dX11_saysAs_33 (tgt := 53) rfl (by omega) (by omega) (fun h33 => ?_) (fun h33 => by exfalso; first | omega | contradiction | simp_all)
  refine Z.iload_n B dX11_saysAs_53 (x := nI 1) rfl ?_
  refine Z.iconst B dX11_saysAs_54 (v := nI 3) rfl ?_
  refine Z.icmp_neN B dX11_saysAs_55 (tgt := 75) rfl (by omega) (by omega) (fun h55 => ?_) (fun h55 => by exfalso; first | omega | contradiction | simp_all)
  refine Z.iload_n B dX11_saysAs_75 (x := nI 1) rfl ?_
  refine Z.iconst B dX11_saysAs_76 (v := nI 4) rfl ?_
  refine Z.icmp_neN B dX11_saysAs_77 (tgt := 104) rfl (by omega) (by omega) (fun h77 => ?_) (fun h77 => by exfalso; first | omega | contradiction | simp_all)
  refine Z.iload_n B dX11_saysAs_104 (x := nI 1) rfl ?_
  refine Z.iconst B dX11_saysAs_105 (v := nI 5) rfl ?_
  refine Z.icmp_neN B dX11_saysAs_106 (tgt := 125) rfl (by omega) (by omega) (fun h106 => ?_) (fun h106 => by exfalso; first | omega | contradiction | simp_all)
  refine Z.iload_n B dX11_saysAs_125 (x := nI 1) rfl ?_
  refine Z.bipush B dX11_saysAs_126 (v := nI 6) rfl ?_
  refine Z.icmp_neN B dX11_saysAs_128 (tgt := 169) rfl (by omega) (by omega) (fun h128 => ?_) (fun h128 => by exfalso; first | omega | contradiction | simp_all)
  refine Z.aload_n B dX11_saysAs_169 (v := .ref 0) rfl rfl ?_
  refine Z.iconst B dX11_saysAs_170 (v := nI 2) rfl ?_
  refine Z.callVI (σ := σ) B (M' := mX11_refuse) (as := [.int (nI 2)]) (st := []) (v := .int (-nI 2)) dX11_saysAs_171 wX11_refuse iX11_refuse sX11_refuse kX11_63 (hl.n (k := 0) (by decide)) (hl.k (k := 0) (by decide)) (by decide) rfl rfl (t_X11_refuse (σ := σ) hl (b := 2) (by decide)) rfl rfl (by decide) (by decide) (Nat.le_of_ble_eq_true rfl) (by decide) (by decide) ?_
  refine Z.eqσ (τ := (zuX σ 43 (upd (zX σ 43) 2 (zX σ 43 2 + nI 1)))) rfl ?_
  refine Z.iret B Rt dX11_saysAs_174 (ty := .int) rfl rfl (by decide) (by decide) ?_
  exact ⟨rfl, rfl⟩

theorem t_K_saysAs_0_2 {σ : zSt} (hl : Lay σ) {n a y : Nat} (H : zHd σ n a y) {od : Nat → Nat} (ho : zOd σ a od) {q pa num : Nat} (hw : zWo σ q 0 pa num) : Dt mX11_saysAs [.ref 0, .ref q, .int (nI 2)] σ (some (.int (-nI 2))) (zuX σ 43 (upd (zX σ 43) 2 (zX σ 43 2 + nI 1))) := by
  obtain ⟨-, hn, hn8, ha, ha4, hy, hy8⟩ := id H
  have hpa : pa ≤ 99 := hw.2.2.2.2.2.2.2.1
  refine Dt.of (by decide) (Nat.le_of_ble_eq_true rfl) fun κ B Rt => ?_
  show Z κ 0 0 σ 0 [(0, .ref 0), (1, .ref q), (2, .int (nI 2))] []
  refine Z.iload_n B dX11_saysAs_0 (x := nI 2) rfl ?_
  refine Z.if_neN B dX11_saysAs_1 (tgt := 9) rfl (by omega) (fun h1 => ?_) (fun h1 => by exfalso; first | omega | contradiction | simp_all)
  refine Z.iload_n B dX11_saysAs_9 (x := nI 2) rfl ?_
  refine Z.iconst B dX11_saysAs_10 (v := nI 1) rfl ?_
  refine Z.icmp_neN B dX11_saysAs_11 (tgt := 31) rfl (by omega) (by omega) (fun h11 => ?_) (fun h11 => by exfalso; first | omega | contradiction | simp_all)
  refine Z.iload_n B dX11_saysAs_31 (x := nI 2) rfl ?_
  refine Z.iconst B dX11_saysAs_32 (v := nI 2) rfl ?_
  refine Z.icmp_neN B dX11_saysAs_33 (tgt := 53) rfl (by omega) (by omega) (fun h33 => by exfalso; first | omega | contradiction | simp_all) (fun h33 => ?_)
  refine Z.aload_n B dX11_saysAs_36 (v := .ref q) rfl rfl ?_
  refine Z.instNo (σ := σ) B (nm := "FourAskOne$Lined") dX11_saysAs_37 (zT_at 334 (by decide +kernel) rfl) hw.1 hw.2.1 (by decide) rfl (by decide +kernel) ?_
  refine Z.if_eqN B dX11_saysAs_40 (tgt := 53) rfl (by omega) (fun h40 => ?_) (fun h40 => by exfalso; first | omega | contradiction | simp_all)
  refine Z.iload_n B dX11_saysAs_53 (x := nI 2) rfl ?_
  refine Z.iconst B dX11_saysAs_54 (v := nI 3) rfl ?_
  refine Z.icmp_neN B dX11_saysAs_55 (tgt := 75) rfl (by omega) (by omega) (fun h55 => ?_) (fun h55 => by exfalso; first | omega | contradiction | simp_all)
  refine Z.iload_n B dX11_saysAs_75 (x := nI 2) rfl ?_
  refine Z.iconst B dX11_saysAs_76 (v := nI 4) rfl ?_
  refine Z.icmp_neN B dX11_saysAs_77 (tgt := 104) rfl (by omega) (by omega) (fun h77 => ?_) (fun h77 => by exfalso; first | omega | contradiction | simp_all)
  refine Z.iload_n B dX11_saysAs_104 (x := nI 2) rfl ?_
  refine Z.iconst B dX11_saysAs_105 (v := nI 5) rfl ?_
  refine Z.icmp_neN B dX11_saysAs_106 (tgt := 125) rfl (by omega) (by omega) (fun h106 => ?_) (fun h106 => by exfalso; first | omega | contradiction | simp_all)
  refine Z.iload_n B dX11_saysAs_125 (x := nI 2) rfl ?_
  refine Z.bipush B dX11_saysAs_126 (v := nI 6) rfl ?_
  refine Z.icmp_neN B dX11_saysAs_128 (tgt := 169) rfl (by omega) (by omega) (fun h128 => ?_) (fun h128 => by exfalso; first | omega | contradiction | simp_all)
  refine Z.aload_n B dX11_saysAs_169 (v := .ref 0) rfl rfl ?_
  refine Z.iconst B dX11_saysAs_170 (v := nI 2) rfl ?_
  refine Z.callVI (σ := σ) B (M' := mX11_refuse) (as := [.int (nI 2)]) (st := []) (v := .int (-nI 2)) dX11_saysAs_171 wX11_refuse iX11_refuse sX11_refuse kX11_63 (hl.n (k := 0) (by decide)) (hl.k (k := 0) (by decide)) (by decide) rfl rfl (t_X11_refuse (σ := σ) hl (b := 2) (by decide)) rfl rfl (by decide) (by decide) (Nat.le_of_ble_eq_true rfl) (by decide) (by decide) ?_
  refine Z.eqσ (τ := (zuX σ 43 (upd (zX σ 43) 2 (zX σ 43 2 + nI 1)))) rfl ?_
  refine Z.iret B Rt dX11_saysAs_174 (ty := .int) rfl rfl (by decide) (by decide) ?_
  exact ⟨rfl, rfl⟩

theorem t_K_saysAs_0_3 {σ : zSt} (hl : Lay σ) {n a y : Nat} (H : zHd σ n a y) {od : Nat → Nat} (ho : zOd σ a od) {q pa num : Nat} (hw : zWo σ q 0 pa num) : Dt mX11_saysAs [.ref 0, .ref q, .int (nI 3)] σ (some (.int (-nI 2))) (zuX σ 43 (upd (zX σ 43) 2 (zX σ 43 2 + nI 1))) := by
  obtain ⟨-, hn, hn8, ha, ha4, hy, hy8⟩ := id H
  have hpa : pa ≤ 99 := hw.2.2.2.2.2.2.2.1
  refine Dt.of (by decide) (Nat.le_of_ble_eq_true rfl) fun κ B Rt => ?_
  show Z κ 0 0 σ 0 [(0, .ref 0), (1, .ref q), (2, .int (nI 3))] []
  refine Z.iload_n B dX11_saysAs_0 (x := nI 3) rfl ?_
  refine Z.if_neN B dX11_saysAs_1 (tgt := 9) rfl (by omega) (fun h1 => ?_) (fun h1 => by exfalso; first | omega | contradiction | simp_all)
  refine Z.iload_n B dX11_saysAs_9 (x := nI 3) rfl ?_
  refine Z.iconst B dX11_saysAs_10 (v := nI 1) rfl ?_
  refine Z.icmp_neN B dX11_saysAs_11 (tgt := 31) rfl (by omega) (by omega) (fun h11 => ?_) (fun h11 => by exfalso; first | omega | contradiction | simp_all)
  refine Z.iload_n B dX11_saysAs_31 (x := nI 3) rfl ?_
  refine Z.iconst B dX11_saysAs_32 (v := nI 2) rfl ?_
  refine Z.icmp_neN B dX11_saysAs_33 (tgt := 53) rfl (by omega) (by omega) (fun h33 => ?_) (fun h33 => by exfalso; first | omega | contradiction | simp_all)
  refine Z.iload_n B dX11_saysAs_53 (x := nI 3) rfl ?_
  refine Z.iconst B dX11_saysAs_54 (v := nI 3) rfl ?_
  refine Z.icmp_neN B dX11_saysAs_55 (tgt := 75) rfl (by omega) (by omega) (fun h55 => by exfalso; first | omega | contradiction | simp_all) (fun h55 => ?_)
  refine Z.aload_n B dX11_saysAs_58 (v := .ref q) rfl rfl ?_
  refine Z.instNo (σ := σ) B (nm := "FourAskOne$Worked") dX11_saysAs_59 (zT_at 336 (by decide +kernel) rfl) hw.1 hw.2.1 (by decide) rfl (by decide +kernel) ?_
  refine Z.if_eqN B dX11_saysAs_62 (tgt := 75) rfl (by omega) (fun h62 => ?_) (fun h62 => by exfalso; first | omega | contradiction | simp_all)
  refine Z.iload_n B dX11_saysAs_75 (x := nI 3) rfl ?_
  refine Z.iconst B dX11_saysAs_76 (v := nI 4) rfl ?_
  refine Z.icmp_neN B dX11_saysAs_77 (tgt := 104) rfl (by omega) (by omega) (fun h77 => ?_) (fun h77 => by exfalso; first | omega | contradiction | simp_all)
  refine Z.iload_n B dX11_saysAs_104 (x := nI 3) rfl ?_
  refine Z.iconst B dX11_saysAs_105 (v := nI 5) rfl ?_
  refine Z.icmp_neN B dX11_saysAs_106 (tgt := 125) rfl (by omega) (by omega) (fun h106 => ?_) (fun h106 => by exfalso; first | omega | contradiction | simp_all)
  refine Z.iload_n B dX11_saysAs_125 (x := nI 3) rfl ?_
  refine Z.bipush B dX11_saysAs_126 (v := nI 6) rfl ?_
  refine Z.icmp_neN B dX11_saysAs_128 (tgt := 169) rfl (by omega) (by omega) (fun h128 => ?_) (fun h128 => by exfalso; first | omega | contradiction | simp_all)
  refine Z.aload_n B dX11_saysAs_169 (v := .ref 0) rfl rfl ?_
  refine Z.iconst B dX11_saysAs_170 (v := nI 2) rfl ?_
  refine Z.callVI (σ := σ) B (M' := mX11_refuse) (as := [.int (nI 2)]) (st := []) (v := .int (-nI 2)) dX11_saysAs_171 wX11_refuse iX11_refuse sX11_refuse kX11_63 (hl.n (k := 0) (by decide)) (hl.k (k := 0) (by decide)) (by decide) rfl rfl (t_X11_refuse (σ := σ) hl (b := 2) (by decide)) rfl rfl (by decide) (by decide) (Nat.le_of_ble_eq_true rfl) (by decide) (by decide) ?_
  refine Z.eqσ (τ := (zuX σ 43 (upd (zX σ 43) 2 (zX σ 43 2 + nI 1)))) rfl ?_
  refine Z.iret B Rt dX11_saysAs_174 (ty := .int) rfl rfl (by decide) (by decide) ?_
  exact ⟨rfl, rfl⟩

theorem t_K_saysAs_0_4 {σ : zSt} (hl : Lay σ) {n a y : Nat} (H : zHd σ n a y) {od : Nat → Nat} (ho : zOd σ a od) {q pa num : Nat} (hw : zWo σ q 0 pa num) : Dt mX11_saysAs [.ref 0, .ref q, .int (nI 4)] σ (some (.int (-nI 2))) (zuX σ 43 (upd (zX σ 43) 2 (zX σ 43 2 + nI 1))) := by
  obtain ⟨-, hn, hn8, ha, ha4, hy, hy8⟩ := id H
  have hpa : pa ≤ 99 := hw.2.2.2.2.2.2.2.1
  refine Dt.of (by decide) (Nat.le_of_ble_eq_true rfl) fun κ B Rt => ?_
  show Z κ 0 0 σ 0 [(0, .ref 0), (1, .ref q), (2, .int (nI 4))] []
  refine Z.iload_n B dX11_saysAs_0 (x := nI 4) rfl ?_
  refine Z.if_neN B dX11_saysAs_1 (tgt := 9) rfl (by omega) (fun h1 => ?_) (fun h1 => by exfalso; first | omega | contradiction | simp_all)
  refine Z.iload_n B dX11_saysAs_9 (x := nI 4) rfl ?_
  refine Z.iconst B dX11_saysAs_10 (v := nI 1) rfl ?_
  refine Z.icmp_neN B dX11_saysAs_11 (tgt := 31) rfl (by omega) (by omega) (fun h11 => ?_) (fun h11 => by exfalso; first | omega | contradiction | simp_all)
  refine Z.iload_n B dX11_saysAs_31 (x := nI 4) rfl ?_
  refine Z.iconst B dX11_saysAs_32 (v := nI 2) rfl ?_
  refine Z.icmp_neN B dX11_saysAs_33 (tgt := 53) rfl (by omega) (by omega) (fun h33 => ?_) (fun h33 => by exfalso; first | omega | contradiction | simp_all)
  refine Z.iload_n B dX11_saysAs_53 (x := nI 4) rfl ?_
  refine Z.iconst B dX11_saysAs_54 (v := nI 3) rfl ?_
  refine Z.icmp_neN B dX11_saysAs_55 (tgt := 75) rfl (by omega) (by omega) (fun h55 => ?_) (fun h55 => by exfalso; first | omega | contradiction | simp_all)
  refine Z.iload_n B dX11_saysAs_75 (x := nI 4) rfl ?_
  refine Z.iconst B dX11_saysAs_76 (v := nI 4) rfl ?_
  refine Z.icmp_neN B dX11_saysAs_77 (tgt := 104) rfl (by omega) (by omega) (fun h77 => by exfalso; first | omega | contradiction | simp_all) (fun h77 => ?_)
  refine Z.aload_n B dX11_saysAs_80 (v := .ref q) rfl rfl ?_
  refine Z.instNo (σ := σ) B (nm := "FourAskOne$Lettered") dX11_saysAs_81 (zT_at 341 (by decide +kernel) rfl) hw.1 hw.2.1 (by decide) rfl (by decide +kernel) ?_
  refine Z.if_eqN B dX11_saysAs_84 (tgt := 104) rfl (by omega) (fun h84 => ?_) (fun h84 => by exfalso; first | omega | contradiction | simp_all)
  refine Z.iload_n B dX11_saysAs_104 (x := nI 4) rfl ?_
  refine Z.iconst B dX11_saysAs_105 (v := nI 5) rfl ?_
  refine Z.icmp_neN B dX11_saysAs_106 (tgt := 125) rfl (by omega) (by omega) (fun h106 => ?_) (fun h106 => by exfalso; first | omega | contradiction | simp_all)
  refine Z.iload_n B dX11_saysAs_125 (x := nI 4) rfl ?_
  refine Z.bipush B dX11_saysAs_126 (v := nI 6) rfl ?_
  refine Z.icmp_neN B dX11_saysAs_128 (tgt := 169) rfl (by omega) (by omega) (fun h128 => ?_) (fun h128 => by exfalso; first | omega | contradiction | simp_all)
  refine Z.aload_n B dX11_saysAs_169 (v := .ref 0) rfl rfl ?_
  refine Z.iconst B dX11_saysAs_170 (v := nI 2) rfl ?_
  refine Z.callVI (σ := σ) B (M' := mX11_refuse) (as := [.int (nI 2)]) (st := []) (v := .int (-nI 2)) dX11_saysAs_171 wX11_refuse iX11_refuse sX11_refuse kX11_63 (hl.n (k := 0) (by decide)) (hl.k (k := 0) (by decide)) (by decide) rfl rfl (t_X11_refuse (σ := σ) hl (b := 2) (by decide)) rfl rfl (by decide) (by decide) (Nat.le_of_ble_eq_true rfl) (by decide) (by decide) ?_
  refine Z.eqσ (τ := (zuX σ 43 (upd (zX σ 43) 2 (zX σ 43 2 + nI 1)))) rfl ?_
  refine Z.iret B Rt dX11_saysAs_174 (ty := .int) rfl rfl (by decide) (by decide) ?_
  exact ⟨rfl, rfl⟩

theorem t_K_saysAs_0_5 {σ : zSt} (hl : Lay σ) {n a y : Nat} (H : zHd σ n a y) {od : Nat → Nat} (ho : zOd σ a od) {q pa num : Nat} (hw : zWo σ q 0 pa num) : Dt mX11_saysAs [.ref 0, .ref q, .int (nI 5)] σ (some (.int (-nI 2))) (zuX σ 43 (upd (zX σ 43) 2 (zX σ 43 2 + nI 1))) := by
  obtain ⟨-, hn, hn8, ha, ha4, hy, hy8⟩ := id H
  have hpa : pa ≤ 99 := hw.2.2.2.2.2.2.2.1
  refine Dt.of (by decide) (Nat.le_of_ble_eq_true rfl) fun κ B Rt => ?_
  show Z κ 0 0 σ 0 [(0, .ref 0), (1, .ref q), (2, .int (nI 5))] []
  refine Z.iload_n B dX11_saysAs_0 (x := nI 5) rfl ?_
  refine Z.if_neN B dX11_saysAs_1 (tgt := 9) rfl (by omega) (fun h1 => ?_) (fun h1 => by exfalso; first | omega | contradiction | simp_all)
  refine Z.iload_n B dX11_saysAs_9 (x := nI 5) rfl ?_
  refine Z.iconst B dX11_saysAs_10 (v := nI 1) rfl ?_
  refine Z.icmp_neN B dX11_saysAs_11 (tgt := 31) rfl (by omega) (by omega) (fun h11 => ?_) (fun h11 => by exfalso; first | omega | contradiction | simp_all)
  refine Z.iload_n B dX11_saysAs_31 (x := nI 5) rfl ?_
  refine Z.iconst B dX11_saysAs_32 (v := nI 2) rfl ?_
  refine Z.icmp_neN B dX11_saysAs_33 (tgt := 53) rfl (by omega) (by omega) (fun h33 => ?_) (fun h33 => by exfalso; first | omega | contradiction | simp_all)
  refine Z.iload_n B dX11_saysAs_53 (x := nI 5) rfl ?_
  refine Z.iconst B dX11_saysAs_54 (v := nI 3) rfl ?_
  refine Z.icmp_neN B dX11_saysAs_55 (tgt := 75) rfl (by omega) (by omega) (fun h55 => ?_) (fun h55 => by exfalso; first | omega | contradiction | simp_all)
  refine Z.iload_n B dX11_saysAs_75 (x := nI 5) rfl ?_
  refine Z.iconst B dX11_saysAs_76 (v := nI 4) rfl ?_
  refine Z.icmp_neN B dX11_saysAs_77 (tgt := 104) rfl (by omega) (by omega) (fun h77 => ?_) (fun h77 => by exfalso; first | omega | contradiction | simp_all)
  refine Z.iload_n B dX11_saysAs_104 (x := nI 5) rfl ?_
  refine Z.iconst B dX11_saysAs_105 (v := nI 5) rfl ?_
  refine Z.icmp_neN B dX11_saysAs_106 (tgt := 125) rfl (by omega) (by omega) (fun h106 => by exfalso; first | omega | contradiction | simp_all) (fun h106 => ?_)
  refine Z.aload_n B dX11_saysAs_109 (v := .ref q) rfl rfl ?_
  refine Z.instNo (σ := σ) B (nm := "FourAskOne$Marked") dX11_saysAs_110 (zT_at 350 (by decide +kernel) rfl) hw.1 hw.2.1 (by decide) rfl (by decide +kernel) ?_
  refine Z.if_eqN B dX11_saysAs_113 (tgt := 125) rfl (by omega) (fun h113 => ?_) (fun h113 => by exfalso; first | omega | contradiction | simp_all)
  refine Z.iload_n B dX11_saysAs_125 (x := nI 5) rfl ?_
  refine Z.bipush B dX11_saysAs_126 (v := nI 6) rfl ?_
  refine Z.icmp_neN B dX11_saysAs_128 (tgt := 169) rfl (by omega) (by omega) (fun h128 => ?_) (fun h128 => by exfalso; first | omega | contradiction | simp_all)
  refine Z.aload_n B dX11_saysAs_169 (v := .ref 0) rfl rfl ?_
  refine Z.iconst B dX11_saysAs_170 (v := nI 2) rfl ?_
  refine Z.callVI (σ := σ) B (M' := mX11_refuse) (as := [.int (nI 2)]) (st := []) (v := .int (-nI 2)) dX11_saysAs_171 wX11_refuse iX11_refuse sX11_refuse kX11_63 (hl.n (k := 0) (by decide)) (hl.k (k := 0) (by decide)) (by decide) rfl rfl (t_X11_refuse (σ := σ) hl (b := 2) (by decide)) rfl rfl (by decide) (by decide) (Nat.le_of_ble_eq_true rfl) (by decide) (by decide) ?_
  refine Z.eqσ (τ := (zuX σ 43 (upd (zX σ 43) 2 (zX σ 43 2 + nI 1)))) rfl ?_
  refine Z.iret B Rt dX11_saysAs_174 (ty := .int) rfl rfl (by decide) (by decide) ?_
  exact ⟨rfl, rfl⟩

theorem t_K_saysAs_0_6 {σ : zSt} (hl : Lay σ) {n a y : Nat} (H : zHd σ n a y) {od : Nat → Nat} (ho : zOd σ a od) {q pa num : Nat} (hw : zWo σ q 0 pa num) : Dt mX11_saysAs [.ref 0, .ref q, .int (nI 6)] σ (some (.int (-nI 2))) (zuX σ 43 (upd (zX σ 43) 2 (zX σ 43 2 + nI 1))) := by
  obtain ⟨-, hn, hn8, ha, ha4, hy, hy8⟩ := id H
  have hpa : pa ≤ 99 := hw.2.2.2.2.2.2.2.1
  refine Dt.of (by decide) (Nat.le_of_ble_eq_true rfl) fun κ B Rt => ?_
  show Z κ 0 0 σ 0 [(0, .ref 0), (1, .ref q), (2, .int (nI 6))] []
  refine Z.iload_n B dX11_saysAs_0 (x := nI 6) rfl ?_
  refine Z.if_neN B dX11_saysAs_1 (tgt := 9) rfl (by omega) (fun h1 => ?_) (fun h1 => by exfalso; first | omega | contradiction | simp_all)
  refine Z.iload_n B dX11_saysAs_9 (x := nI 6) rfl ?_
  refine Z.iconst B dX11_saysAs_10 (v := nI 1) rfl ?_
  refine Z.icmp_neN B dX11_saysAs_11 (tgt := 31) rfl (by omega) (by omega) (fun h11 => ?_) (fun h11 => by exfalso; first | omega | contradiction | simp_all)
  refine Z.iload_n B dX11_saysAs_31 (x := nI 6) rfl ?_
  refine Z.iconst B dX11_saysAs_32 (v := nI 2) rfl ?_
  refine Z.icmp_neN B dX11_saysAs_33 (tgt := 53) rfl (by omega) (by omega) (fun h33 => ?_) (fun h33 => by exfalso; first | omega | contradiction | simp_all)
  refine Z.iload_n B dX11_saysAs_53 (x := nI 6) rfl ?_
  refine Z.iconst B dX11_saysAs_54 (v := nI 3) rfl ?_
  refine Z.icmp_neN B dX11_saysAs_55 (tgt := 75) rfl (by omega) (by omega) (fun h55 => ?_) (fun h55 => by exfalso; first | omega | contradiction | simp_all)
  refine Z.iload_n B dX11_saysAs_75 (x := nI 6) rfl ?_
  refine Z.iconst B dX11_saysAs_76 (v := nI 4) rfl ?_
  refine Z.icmp_neN B dX11_saysAs_77 (tgt := 104) rfl (by omega) (by omega) (fun h77 => ?_) (fun h77 => by exfalso; first | omega | contradiction | simp_all)
  refine Z.iload_n B dX11_saysAs_104 (x := nI 6) rfl ?_
  refine Z.iconst B dX11_saysAs_105 (v := nI 5) rfl ?_
  refine Z.icmp_neN B dX11_saysAs_106 (tgt := 125) rfl (by omega) (by omega) (fun h106 => ?_) (fun h106 => by exfalso; first | omega | contradiction | simp_all)
  refine Z.iload_n B dX11_saysAs_125 (x := nI 6) rfl ?_
  refine Z.bipush B dX11_saysAs_126 (v := nI 6) rfl ?_
  refine Z.icmp_neN B dX11_saysAs_128 (tgt := 169) rfl (by omega) (by omega) (fun h128 => by exfalso; first | omega | contradiction | simp_all) (fun h128 => ?_)
  refine Z.aload_n B dX11_saysAs_131 (v := .ref q) rfl rfl ?_
  refine Z.instNo (σ := σ) B (nm := "FourAskOne$Blind") dX11_saysAs_132 (zT_at 363 (by decide +kernel) rfl) hw.1 hw.2.1 (by decide) rfl (by decide +kernel) ?_
  refine Z.if_eqN B dX11_saysAs_135 (tgt := 169) rfl (by omega) (fun h135 => ?_) (fun h135 => by exfalso; first | omega | contradiction | simp_all)
  refine Z.aload_n B dX11_saysAs_169 (v := .ref 0) rfl rfl ?_
  refine Z.iconst B dX11_saysAs_170 (v := nI 2) rfl ?_
  refine Z.callVI (σ := σ) B (M' := mX11_refuse) (as := [.int (nI 2)]) (st := []) (v := .int (-nI 2)) dX11_saysAs_171 wX11_refuse iX11_refuse sX11_refuse kX11_63 (hl.n (k := 0) (by decide)) (hl.k (k := 0) (by decide)) (by decide) rfl rfl (t_X11_refuse (σ := σ) hl (b := 2) (by decide)) rfl rfl (by decide) (by decide) (Nat.le_of_ble_eq_true rfl) (by decide) (by decide) ?_
  refine Z.eqσ (τ := (zuX σ 43 (upd (zX σ 43) 2 (zX σ 43 2 + nI 1)))) rfl ?_
  refine Z.iret B Rt dX11_saysAs_174 (ty := .int) rfl rfl (by decide) (by decide) ?_
  exact ⟨rfl, rfl⟩

theorem t_K_saysAs_1_0 {σ : zSt} (hl : Lay σ) {n a y : Nat} (H : zHd σ n a y) {od : Nat → Nat} (ho : zOd σ a od) {q pa num : Nat} (hw : zWo σ q 1 pa num) : Dt mX11_saysAs [.ref 0, .ref q, .int (nI 0)] σ (some (.int (nI pa))) σ := by
  obtain ⟨-, hn, hn8, ha, ha4, hy, hy8⟩ := id H
  have hpa : pa ≤ 99 := hw.2.2.2.2.2.2.2.1
  refine Dt.of (by decide) (Nat.le_of_ble_eq_true rfl) fun κ B Rt => ?_
  show Z κ 0 0 σ 0 [(0, .ref 0), (1, .ref q), (2, .int (nI 0))] []
  refine Z.iload_n B dX11_saysAs_0 (x := nI 0) rfl ?_
  refine Z.if_neN B dX11_saysAs_1 (tgt := 9) rfl (by omega) (fun h1 => by exfalso; first | omega | contradiction | simp_all) (fun h1 => ?_)
  refine Z.aload_n B dX11_saysAs_4 (v := .ref q) rfl rfl ?_
  refine Z.getI (σ := σ) B fX11_172_7 dX11_saysAs_5 hw.1 hw.2.1 (by decide) (v := nI pa) hw.2.2.2.2.2.1 ?_
  refine Z.iret B Rt dX11_saysAs_8 (ty := .int) rfl rfl (by decide) (by decide) ?_
  exact ⟨rfl, rfl⟩

theorem t_K_saysAs_1_1 {σ : zSt} (hl : Lay σ) {n a y : Nat} (H : zHd σ n a y) {od : Nat → Nat} (ho : zOd σ a od) {q pa num : Nat} (hw : zWo σ q 1 pa num) : Dt mX11_saysAs [.ref 0, .ref q, .int (nI 1)] σ (some (.int (nI (pa % 11)))) σ := by
  obtain ⟨-, hn, hn8, ha, ha4, hy, hy8⟩ := id H
  have hpa : pa ≤ 99 := hw.2.2.2.2.2.2.2.1
  refine Dt.of (by decide) (Nat.le_of_ble_eq_true rfl) fun κ B Rt => ?_
  show Z κ 0 0 σ 0 [(0, .ref 0), (1, .ref q), (2, .int (nI 1))] []
  refine Z.iload_n B dX11_saysAs_0 (x := nI 1) rfl ?_
  refine Z.if_neN B dX11_saysAs_1 (tgt := 9) rfl (by omega) (fun h1 => ?_) (fun h1 => by exfalso; first | omega | contradiction | simp_all)
  refine Z.iload_n B dX11_saysAs_9 (x := nI 1) rfl ?_
  refine Z.iconst B dX11_saysAs_10 (v := nI 1) rfl ?_
  refine Z.icmp_neN B dX11_saysAs_11 (tgt := 31) rfl (by omega) (by omega) (fun h11 => by exfalso; first | omega | contradiction | simp_all) (fun h11 => ?_)
  refine Z.aload_n B dX11_saysAs_14 (v := .ref q) rfl rfl ?_
  refine Z.instY (σ := σ) B (nm := "FourAskOne$Talked") dX11_saysAs_15 (zT_at 323 (by decide +kernel) rfl) hw.1 hw.2.1 (by decide) rfl (Or.inr rfl) ?_
  refine Z.if_eqN B dX11_saysAs_18 (tgt := 31) rfl (by omega) (fun h18 => by exfalso; first | omega | contradiction | simp_all) (fun h18 => ?_)
  refine Z.aload_n B dX11_saysAs_21 (v := .ref q) rfl rfl ?_
  refine Z.cast (σ := σ) B (nm := "FourAskOne$Talked") dX11_saysAs_22 (zT_at 323 (by decide +kernel) rfl) hw.1 hw.2.1 (by decide) rfl (Or.inr rfl) ?_
  refine Z.astore_n B dX11_saysAs_25 (by decide) rfl (L' := [(0, .ref 0), (1, .ref q), (2, .int (nI 1)), (3, .ref q)]) rfl ?_
  refine Z.aload_n B dX11_saysAs_26 (v := .ref q) rfl rfl ?_
  refine Z.callVI (σ := σ) B (M' := mX7_tenths) (as := []) (st := []) (v := .int (nI (pa % 11))) dX11_saysAs_27 wX7_tenths iX7_tenths sX7_tenths kX11_309 hw.1 hw.2.1 (by decide) rfl rfl (t_X7_tenths_1 (σ := σ) H hw) rfl rfl (by decide) (by decide) (Nat.le_of_ble_eq_true rfl) (by decide) (by decide) ?_
  refine Z.iret B Rt dX11_saysAs_30 (ty := .int) rfl rfl (by decide) (by decide) ?_
  exact ⟨rfl, rfl⟩

theorem t_K_saysAs_1_2 {σ : zSt} (hl : Lay σ) {n a y : Nat} (H : zHd σ n a y) {od : Nat → Nat} (ho : zOd σ a od) {q pa num : Nat} (hw : zWo σ q 1 pa num) : Dt mX11_saysAs [.ref 0, .ref q, .int (nI 2)] σ (some (.int (-nI 2))) (zuX σ 43 (upd (zX σ 43) 2 (zX σ 43 2 + nI 1))) := by
  obtain ⟨-, hn, hn8, ha, ha4, hy, hy8⟩ := id H
  have hpa : pa ≤ 99 := hw.2.2.2.2.2.2.2.1
  refine Dt.of (by decide) (Nat.le_of_ble_eq_true rfl) fun κ B Rt => ?_
  show Z κ 0 0 σ 0 [(0, .ref 0), (1, .ref q), (2, .int (nI 2))] []
  refine Z.iload_n B dX11_saysAs_0 (x := nI 2) rfl ?_
  refine Z.if_neN B dX11_saysAs_1 (tgt := 9) rfl (by omega) (fun h1 => ?_) (fun h1 => by exfalso; first | omega | contradiction | simp_all)
  refine Z.iload_n B dX11_saysAs_9 (x := nI 2) rfl ?_
  refine Z.iconst B dX11_saysAs_10 (v := nI 1) rfl ?_
  refine Z.icmp_neN B dX11_saysAs_11 (tgt := 31) rfl (by omega) (by omega) (fun h11 => ?_) (fun h11 => by exfalso; first | omega | contradiction | simp_all)
  refine Z.iload_n B dX11_saysAs_31 (x := nI 2) rfl ?_
  refine Z.iconst B dX11_saysAs_32 (v := nI 2) rfl ?_
  refine Z.icmp_neN B dX11_saysAs_33 (tgt := 53) rfl (by omega) (by omega) (fun h33 => by exfalso; first | omega | contradiction | simp_all) (fun h33 => ?_)
  refine Z.aload_n B dX11_saysAs_36 (v := .ref q) rfl rfl ?_
  refine Z.instNo (σ := σ) B (nm := "FourAskOne$Lined") dX11_saysAs_37 (zT_at 334 (by decide +kernel) rfl) hw.1 hw.2.1 (by decide) rfl (by decide +kernel) ?_
  refine Z.if_eqN B dX11_saysAs_40 (tgt := 53) rfl (by omega) (fun h40 => ?_) (fun h40 => by exfalso; first | omega | contradiction | simp_all)
  refine Z.iload_n B dX11_saysAs_53 (x := nI 2) rfl ?_
  refine Z.iconst B dX11_saysAs_54 (v := nI 3) rfl ?_
  refine Z.icmp_neN B dX11_saysAs_55 (tgt := 75) rfl (by omega) (by omega) (fun h55 => ?_) (fun h55 => by exfalso; first | omega | contradiction | simp_all)
  refine Z.iload_n B dX11_saysAs_75 (x := nI 2) rfl ?_
  refine Z.iconst B dX11_saysAs_76 (v := nI 4) rfl ?_
  refine Z.icmp_neN B dX11_saysAs_77 (tgt := 104) rfl (by omega) (by omega) (fun h77 => ?_) (fun h77 => by exfalso; first | omega | contradiction | simp_all)
  refine Z.iload_n B dX11_saysAs_104 (x := nI 2) rfl ?_
  refine Z.iconst B dX11_saysAs_105 (v := nI 5) rfl ?_
  refine Z.icmp_neN B dX11_saysAs_106 (tgt := 125) rfl (by omega) (by omega) (fun h106 => ?_) (fun h106 => by exfalso; first | omega | contradiction | simp_all)
  refine Z.iload_n B dX11_saysAs_125 (x := nI 2) rfl ?_
  refine Z.bipush B dX11_saysAs_126 (v := nI 6) rfl ?_
  refine Z.icmp_neN B dX11_saysAs_128 (tgt := 169) rfl (by omega) (by omega) (fun h128 => ?_) (fun h128 => by exfalso; first | omega | contradiction | simp_all)
  refine Z.aload_n B dX11_saysAs_169 (v := .ref 0) rfl rfl ?_
  refine Z.iconst B dX11_saysAs_170 (v := nI 2) rfl ?_
  refine Z.callVI (σ := σ) B (M' := mX11_refuse) (as := [.int (nI 2)]) (st := []) (v := .int (-nI 2)) dX11_saysAs_171 wX11_refuse iX11_refuse sX11_refuse kX11_63 (hl.n (k := 0) (by decide)) (hl.k (k := 0) (by decide)) (by decide) rfl rfl (t_X11_refuse (σ := σ) hl (b := 2) (by decide)) rfl rfl (by decide) (by decide) (Nat.le_of_ble_eq_true rfl) (by decide) (by decide) ?_
  refine Z.eqσ (τ := (zuX σ 43 (upd (zX σ 43) 2 (zX σ 43 2 + nI 1)))) rfl ?_
  refine Z.iret B Rt dX11_saysAs_174 (ty := .int) rfl rfl (by decide) (by decide) ?_
  exact ⟨rfl, rfl⟩

theorem t_K_saysAs_1_3 {σ : zSt} (hl : Lay σ) {n a y : Nat} (H : zHd σ n a y) {od : Nat → Nat} (ho : zOd σ a od) {q pa num : Nat} (hw : zWo σ q 1 pa num) : Dt mX11_saysAs [.ref 0, .ref q, .int (nI 3)] σ (some (.int (-nI 2))) (zuX σ 43 (upd (zX σ 43) 2 (zX σ 43 2 + nI 1))) := by
  obtain ⟨-, hn, hn8, ha, ha4, hy, hy8⟩ := id H
  have hpa : pa ≤ 99 := hw.2.2.2.2.2.2.2.1
  refine Dt.of (by decide) (Nat.le_of_ble_eq_true rfl) fun κ B Rt => ?_
  show Z κ 0 0 σ 0 [(0, .ref 0), (1, .ref q), (2, .int (nI 3))] []
  refine Z.iload_n B dX11_saysAs_0 (x := nI 3) rfl ?_
  refine Z.if_neN B dX11_saysAs_1 (tgt := 9) rfl (by omega) (fun h1 => ?_) (fun h1 => by exfalso; first | omega | contradiction | simp_all)
  refine Z.iload_n B dX11_saysAs_9 (x := nI 3) rfl ?_
  refine Z.iconst B dX11_saysAs_10 (v := nI 1) rfl ?_
  refine Z.icmp_neN B dX11_saysAs_11 (tgt := 31) rfl (by omega) (by omega) (fun h11 => ?_) (fun h11 => by exfalso; first | omega | contradiction | simp_all)
  refine Z.iload_n B dX11_saysAs_31 (x := nI 3) rfl ?_
  refine Z.iconst B dX11_saysAs_32 (v := nI 2) rfl ?_
  refine Z.icmp_neN B dX11_saysAs_33 (tgt := 53) rfl (by omega) (by omega) (fun h33 => ?_) (fun h33 => by exfalso; first | omega | contradiction | simp_all)
  refine Z.iload_n B dX11_saysAs_53 (x := nI 3) rfl ?_
  refine Z.iconst B dX11_saysAs_54 (v := nI 3) rfl ?_
  refine Z.icmp_neN B dX11_saysAs_55 (tgt := 75) rfl (by omega) (by omega) (fun h55 => by exfalso; first | omega | contradiction | simp_all) (fun h55 => ?_)
  refine Z.aload_n B dX11_saysAs_58 (v := .ref q) rfl rfl ?_
  refine Z.instNo (σ := σ) B (nm := "FourAskOne$Worked") dX11_saysAs_59 (zT_at 336 (by decide +kernel) rfl) hw.1 hw.2.1 (by decide) rfl (by decide +kernel) ?_
  refine Z.if_eqN B dX11_saysAs_62 (tgt := 75) rfl (by omega) (fun h62 => ?_) (fun h62 => by exfalso; first | omega | contradiction | simp_all)
  refine Z.iload_n B dX11_saysAs_75 (x := nI 3) rfl ?_
  refine Z.iconst B dX11_saysAs_76 (v := nI 4) rfl ?_
  refine Z.icmp_neN B dX11_saysAs_77 (tgt := 104) rfl (by omega) (by omega) (fun h77 => ?_) (fun h77 => by exfalso; first | omega | contradiction | simp_all)
  refine Z.iload_n B dX11_saysAs_104 (x := nI 3) rfl ?_
  refine Z.iconst B dX11_saysAs_105 (v := nI 5) rfl ?_
  refine Z.icmp_neN B dX11_saysAs_106 (tgt := 125) rfl (by omega) (by omega) (fun h106 => ?_) (fun h106 => by exfalso; first | omega | contradiction | simp_all)
  refine Z.iload_n B dX11_saysAs_125 (x := nI 3) rfl ?_
  refine Z.bipush B dX11_saysAs_126 (v := nI 6) rfl ?_
  refine Z.icmp_neN B dX11_saysAs_128 (tgt := 169) rfl (by omega) (by omega) (fun h128 => ?_) (fun h128 => by exfalso; first | omega | contradiction | simp_all)
  refine Z.aload_n B dX11_saysAs_169 (v := .ref 0) rfl rfl ?_
  refine Z.iconst B dX11_saysAs_170 (v := nI 2) rfl ?_
  refine Z.callVI (σ := σ) B (M' := mX11_refuse) (as := [.int (nI 2)]) (st := []) (v := .int (-nI 2)) dX11_saysAs_171 wX11_refuse iX11_refuse sX11_refuse kX11_63 (hl.n (k := 0) (by decide)) (hl.k (k := 0) (by decide)) (by decide) rfl rfl (t_X11_refuse (σ := σ) hl (b := 2) (by decide)) rfl rfl (by decide) (by decide) (Nat.le_of_ble_eq_true rfl) (by decide) (by decide) ?_
  refine Z.eqσ (τ := (zuX σ 43 (upd (zX σ 43) 2 (zX σ 43 2 + nI 1)))) rfl ?_
  refine Z.iret B Rt dX11_saysAs_174 (ty := .int) rfl rfl (by decide) (by decide) ?_
  exact ⟨rfl, rfl⟩

theorem t_K_saysAs_1_4 {σ : zSt} (hl : Lay σ) {n a y : Nat} (H : zHd σ n a y) {od : Nat → Nat} (ho : zOd σ a od) {q pa num : Nat} (hw : zWo σ q 1 pa num) : Dt mX11_saysAs [.ref 0, .ref q, .int (nI 4)] σ (some (.int (-nI 2))) (zuX σ 43 (upd (zX σ 43) 2 (zX σ 43 2 + nI 1))) := by
  obtain ⟨-, hn, hn8, ha, ha4, hy, hy8⟩ := id H
  have hpa : pa ≤ 99 := hw.2.2.2.2.2.2.2.1
  refine Dt.of (by decide) (Nat.le_of_ble_eq_true rfl) fun κ B Rt => ?_
  show Z κ 0 0 σ 0 [(0, .ref 0), (1, .ref q), (2, .int (nI 4))] []
  refine Z.iload_n B dX11_saysAs_0 (x := nI 4) rfl ?_
  refine Z.if_neN B dX11_saysAs_1 (tgt := 9) rfl (by omega) (fun h1 => ?_) (fun h1 => by exfalso; first | omega | contradiction | simp_all)
  refine Z.iload_n B dX11_saysAs_9 (x := nI 4) rfl ?_
  refine Z.iconst B dX11_saysAs_10 (v := nI 1) rfl ?_
  refine Z.icmp_neN B dX11_saysAs_11 (tgt := 31) rfl (by omega) (by omega) (fun h11 => ?_) (fun h11 => by exfalso; first | omega | contradiction | simp_all)
  refine Z.iload_n B dX11_saysAs_31 (x := nI 4) rfl ?_
  refine Z.iconst B dX11_saysAs_32 (v := nI 2) rfl ?_
  refine Z.icmp_neN B dX11_saysAs_33 (tgt := 53) rfl (by omega) (by omega) (fun h33 => ?_) (fun h33 => by exfalso; first | omega | contradiction | simp_all)
  refine Z.iload_n B dX11_saysAs_53 (x := nI 4) rfl ?_
  refine Z.iconst B dX11_saysAs_54 (v := nI 3) rfl ?_
  refine Z.icmp_neN B dX11_saysAs_55 (tgt := 75) rfl (by omega) (by omega) (fun h55 => ?_) (fun h55 => by exfalso; first | omega | contradiction | simp_all)
  refine Z.iload_n B dX11_saysAs_75 (x := nI 4) rfl ?_
  refine Z.iconst B dX11_saysAs_76 (v := nI 4) rfl ?_
  refine Z.icmp_neN B dX11_saysAs_77 (tgt := 104) rfl (by omega) (by omega) (fun h77 => by exfalso; first | omega | contradiction | simp_all) (fun h77 => ?_)
  refine Z.aload_n B dX11_saysAs_80 (v := .ref q) rfl rfl ?_
  refine Z.instNo (σ := σ) B (nm := "FourAskOne$Lettered") dX11_saysAs_81 (zT_at 341 (by decide +kernel) rfl) hw.1 hw.2.1 (by decide) rfl (by decide +kernel) ?_
  refine Z.if_eqN B dX11_saysAs_84 (tgt := 104) rfl (by omega) (fun h84 => ?_) (fun h84 => by exfalso; first | omega | contradiction | simp_all)
  refine Z.iload_n B dX11_saysAs_104 (x := nI 4) rfl ?_
  refine Z.iconst B dX11_saysAs_105 (v := nI 5) rfl ?_
  refine Z.icmp_neN B dX11_saysAs_106 (tgt := 125) rfl (by omega) (by omega) (fun h106 => ?_) (fun h106 => by exfalso; first | omega | contradiction | simp_all)
  refine Z.iload_n B dX11_saysAs_125 (x := nI 4) rfl ?_
  refine Z.bipush B dX11_saysAs_126 (v := nI 6) rfl ?_
  refine Z.icmp_neN B dX11_saysAs_128 (tgt := 169) rfl (by omega) (by omega) (fun h128 => ?_) (fun h128 => by exfalso; first | omega | contradiction | simp_all)
  refine Z.aload_n B dX11_saysAs_169 (v := .ref 0) rfl rfl ?_
  refine Z.iconst B dX11_saysAs_170 (v := nI 2) rfl ?_
  refine Z.callVI (σ := σ) B (M' := mX11_refuse) (as := [.int (nI 2)]) (st := []) (v := .int (-nI 2)) dX11_saysAs_171 wX11_refuse iX11_refuse sX11_refuse kX11_63 (hl.n (k := 0) (by decide)) (hl.k (k := 0) (by decide)) (by decide) rfl rfl (t_X11_refuse (σ := σ) hl (b := 2) (by decide)) rfl rfl (by decide) (by decide) (Nat.le_of_ble_eq_true rfl) (by decide) (by decide) ?_
  refine Z.eqσ (τ := (zuX σ 43 (upd (zX σ 43) 2 (zX σ 43 2 + nI 1)))) rfl ?_
  refine Z.iret B Rt dX11_saysAs_174 (ty := .int) rfl rfl (by decide) (by decide) ?_
  exact ⟨rfl, rfl⟩

theorem t_K_saysAs_1_5 {σ : zSt} (hl : Lay σ) {n a y : Nat} (H : zHd σ n a y) {od : Nat → Nat} (ho : zOd σ a od) {q pa num : Nat} (hw : zWo σ q 1 pa num) : Dt mX11_saysAs [.ref 0, .ref q, .int (nI 5)] σ (some (.int (-nI 2))) (zuX σ 43 (upd (zX σ 43) 2 (zX σ 43 2 + nI 1))) := by
  obtain ⟨-, hn, hn8, ha, ha4, hy, hy8⟩ := id H
  have hpa : pa ≤ 99 := hw.2.2.2.2.2.2.2.1
  refine Dt.of (by decide) (Nat.le_of_ble_eq_true rfl) fun κ B Rt => ?_
  show Z κ 0 0 σ 0 [(0, .ref 0), (1, .ref q), (2, .int (nI 5))] []
  refine Z.iload_n B dX11_saysAs_0 (x := nI 5) rfl ?_
  refine Z.if_neN B dX11_saysAs_1 (tgt := 9) rfl (by omega) (fun h1 => ?_) (fun h1 => by exfalso; first | omega | contradiction | simp_all)
  refine Z.iload_n B dX11_saysAs_9 (x := nI 5) rfl ?_
  refine Z.iconst B dX11_saysAs_10 (v := nI 1) rfl ?_
  refine Z.icmp_neN B dX11_saysAs_11 (tgt := 31) rfl (by omega) (by omega) (fun h11 => ?_) (fun h11 => by exfalso; first | omega | contradiction | simp_all)
  refine Z.iload_n B dX11_saysAs_31 (x := nI 5) rfl ?_
  refine Z.iconst B dX11_saysAs_32 (v := nI 2) rfl ?_
  refine Z.icmp_neN B dX11_saysAs_33 (tgt := 53) rfl (by omega) (by omega) (fun h33 => ?_) (fun h33 => by exfalso; first | omega | contradiction | simp_all)
  refine Z.iload_n B dX11_saysAs_53 (x := nI 5) rfl ?_
  refine Z.iconst B dX11_saysAs_54 (v := nI 3) rfl ?_
  refine Z.icmp_neN B dX11_saysAs_55 (tgt := 75) rfl (by omega) (by omega) (fun h55 => ?_) (fun h55 => by exfalso; first | omega | contradiction | simp_all)
  refine Z.iload_n B dX11_saysAs_75 (x := nI 5) rfl ?_
  refine Z.iconst B dX11_saysAs_76 (v := nI 4) rfl ?_
  refine Z.icmp_neN B dX11_saysAs_77 (tgt := 104) rfl (by omega) (by omega) (fun h77 => ?_) (fun h77 => by exfalso; first | omega | contradiction | simp_all)
  refine Z.iload_n B dX11_saysAs_104 (x := nI 5) rfl ?_
  refine Z.iconst B dX11_saysAs_105 (v := nI 5) rfl ?_
  refine Z.icmp_neN B dX11_saysAs_106 (tgt := 125) rfl (by omega) (by omega) (fun h106 => by exfalso; first | omega | contradiction | simp_all) (fun h106 => ?_)
  refine Z.aload_n B dX11_saysAs_109 (v := .ref q) rfl rfl ?_
  refine Z.instNo (σ := σ) B (nm := "FourAskOne$Marked") dX11_saysAs_110 (zT_at 350 (by decide +kernel) rfl) hw.1 hw.2.1 (by decide) rfl (by decide +kernel) ?_
  refine Z.if_eqN B dX11_saysAs_113 (tgt := 125) rfl (by omega) (fun h113 => ?_) (fun h113 => by exfalso; first | omega | contradiction | simp_all)
  refine Z.iload_n B dX11_saysAs_125 (x := nI 5) rfl ?_
  refine Z.bipush B dX11_saysAs_126 (v := nI 6) rfl ?_
  refine Z.icmp_neN B dX11_saysAs_128 (tgt := 169) rfl (by omega) (by omega) (fun h128 => ?_) (fun h128 => by exfalso; first | omega | contradiction | simp_all)
  refine Z.aload_n B dX11_saysAs_169 (v := .ref 0) rfl rfl ?_
  refine Z.iconst B dX11_saysAs_170 (v := nI 2) rfl ?_
  refine Z.callVI (σ := σ) B (M' := mX11_refuse) (as := [.int (nI 2)]) (st := []) (v := .int (-nI 2)) dX11_saysAs_171 wX11_refuse iX11_refuse sX11_refuse kX11_63 (hl.n (k := 0) (by decide)) (hl.k (k := 0) (by decide)) (by decide) rfl rfl (t_X11_refuse (σ := σ) hl (b := 2) (by decide)) rfl rfl (by decide) (by decide) (Nat.le_of_ble_eq_true rfl) (by decide) (by decide) ?_
  refine Z.eqσ (τ := (zuX σ 43 (upd (zX σ 43) 2 (zX σ 43 2 + nI 1)))) rfl ?_
  refine Z.iret B Rt dX11_saysAs_174 (ty := .int) rfl rfl (by decide) (by decide) ?_
  exact ⟨rfl, rfl⟩

theorem t_K_saysAs_1_6 {σ : zSt} (hl : Lay σ) {n a y : Nat} (H : zHd σ n a y) {od : Nat → Nat} (ho : zOd σ a od) {q pa num : Nat} (hw : zWo σ q 1 pa num) : Dt mX11_saysAs [.ref 0, .ref q, .int (nI 6)] σ (some (.int (-nI 2))) (zuX σ 43 (upd (zX σ 43) 2 (zX σ 43 2 + nI 1))) := by
  obtain ⟨-, hn, hn8, ha, ha4, hy, hy8⟩ := id H
  have hpa : pa ≤ 99 := hw.2.2.2.2.2.2.2.1
  refine Dt.of (by decide) (Nat.le_of_ble_eq_true rfl) fun κ B Rt => ?_
  show Z κ 0 0 σ 0 [(0, .ref 0), (1, .ref q), (2, .int (nI 6))] []
  refine Z.iload_n B dX11_saysAs_0 (x := nI 6) rfl ?_
  refine Z.if_neN B dX11_saysAs_1 (tgt := 9) rfl (by omega) (fun h1 => ?_) (fun h1 => by exfalso; first | omega | contradiction | simp_all)
  refine Z.iload_n B dX11_saysAs_9 (x := nI 6) rfl ?_
  refine Z.iconst B dX11_saysAs_10 (v := nI 1) rfl ?_
  refine Z.icmp_neN B dX11_saysAs_11 (tgt := 31) rfl (by omega) (by omega) (fun h11 => ?_) (fun h11 => by exfalso; first | omega | contradiction | simp_all)
  refine Z.iload_n B dX11_saysAs_31 (x := nI 6) rfl ?_
  refine Z.iconst B dX11_saysAs_32 (v := nI 2) rfl ?_
  refine Z.icmp_neN B dX11_saysAs_33 (tgt := 53) rfl (by omega) (by omega) (fun h33 => ?_) (fun h33 => by exfalso; first | omega | contradiction | simp_all)
  refine Z.iload_n B dX11_saysAs_53 (x := nI 6) rfl ?_
  refine Z.iconst B dX11_saysAs_54 (v := nI 3) rfl ?_
  refine Z.icmp_neN B dX11_saysAs_55 (tgt := 75) rfl (by omega) (by omega) (fun h55 => ?_) (fun h55 => by exfalso; first | omega | contradiction | simp_all)
  refine Z.iload_n B dX11_saysAs_75 (x := nI 6) rfl ?_
  refine Z.iconst B dX11_saysAs_76 (v := nI 4) rfl ?_
  refine Z.icmp_neN B dX11_saysAs_77 (tgt := 104) rfl (by omega) (by omega) (fun h77 => ?_) (fun h77 => by exfalso; first | omega | contradiction | simp_all)
  refine Z.iload_n B dX11_saysAs_104 (x := nI 6) rfl ?_
  refine Z.iconst B dX11_saysAs_105 (v := nI 5) rfl ?_
  refine Z.icmp_neN B dX11_saysAs_106 (tgt := 125) rfl (by omega) (by omega) (fun h106 => ?_) (fun h106 => by exfalso; first | omega | contradiction | simp_all)
  refine Z.iload_n B dX11_saysAs_125 (x := nI 6) rfl ?_
  refine Z.bipush B dX11_saysAs_126 (v := nI 6) rfl ?_
  refine Z.icmp_neN B dX11_saysAs_128 (tgt := 169) rfl (by omega) (by omega) (fun h128 => by exfalso; first | omega | contradiction | simp_all) (fun h128 => ?_)
  refine Z.aload_n B dX11_saysAs_131 (v := .ref q) rfl rfl ?_
  refine Z.instNo (σ := σ) B (nm := "FourAskOne$Blind") dX11_saysAs_132 (zT_at 363 (by decide +kernel) rfl) hw.1 hw.2.1 (by decide) rfl (by decide +kernel) ?_
  refine Z.if_eqN B dX11_saysAs_135 (tgt := 169) rfl (by omega) (fun h135 => ?_) (fun h135 => by exfalso; first | omega | contradiction | simp_all)
  refine Z.aload_n B dX11_saysAs_169 (v := .ref 0) rfl rfl ?_
  refine Z.iconst B dX11_saysAs_170 (v := nI 2) rfl ?_
  refine Z.callVI (σ := σ) B (M' := mX11_refuse) (as := [.int (nI 2)]) (st := []) (v := .int (-nI 2)) dX11_saysAs_171 wX11_refuse iX11_refuse sX11_refuse kX11_63 (hl.n (k := 0) (by decide)) (hl.k (k := 0) (by decide)) (by decide) rfl rfl (t_X11_refuse (σ := σ) hl (b := 2) (by decide)) rfl rfl (by decide) (by decide) (Nat.le_of_ble_eq_true rfl) (by decide) (by decide) ?_
  refine Z.eqσ (τ := (zuX σ 43 (upd (zX σ 43) 2 (zX σ 43 2 + nI 1)))) rfl ?_
  refine Z.iret B Rt dX11_saysAs_174 (ty := .int) rfl rfl (by decide) (by decide) ?_
  exact ⟨rfl, rfl⟩

theorem t_K_saysAs_2_0 {σ : zSt} (hl : Lay σ) {n a y : Nat} (H : zHd σ n a y) {od : Nat → Nat} (ho : zOd σ a od) {q pa num : Nat} (hw : zWo σ q 2 pa num) : Dt mX11_saysAs [.ref 0, .ref q, .int (nI 0)] σ (some (.int (nI pa))) σ := by
  obtain ⟨-, hn, hn8, ha, ha4, hy, hy8⟩ := id H
  have hpa : pa ≤ 99 := hw.2.2.2.2.2.2.2.1
  refine Dt.of (by decide) (Nat.le_of_ble_eq_true rfl) fun κ B Rt => ?_
  show Z κ 0 0 σ 0 [(0, .ref 0), (1, .ref q), (2, .int (nI 0))] []
  refine Z.iload_n B dX11_saysAs_0 (x := nI 0) rfl ?_
  refine Z.if_neN B dX11_saysAs_1 (tgt := 9) rfl (by omega) (fun h1 => by exfalso; first | omega | contradiction | simp_all) (fun h1 => ?_)
  refine Z.aload_n B dX11_saysAs_4 (v := .ref q) rfl rfl ?_
  refine Z.getI (σ := σ) B fX11_172_4 dX11_saysAs_5 hw.1 hw.2.1 (by decide) (v := nI pa) hw.2.2.2.2.2.1 ?_
  refine Z.iret B Rt dX11_saysAs_8 (ty := .int) rfl rfl (by decide) (by decide) ?_
  exact ⟨rfl, rfl⟩

theorem t_K_saysAs_2_1 {σ : zSt} (hl : Lay σ) {n a y : Nat} (H : zHd σ n a y) {od : Nat → Nat} (ho : zOd σ a od) {q pa num : Nat} (hw : zWo σ q 2 pa num) : Dt mX11_saysAs [.ref 0, .ref q, .int (nI 1)] σ (some (.int (nI (pa % 11 / 2)))) σ := by
  obtain ⟨-, hn, hn8, ha, ha4, hy, hy8⟩ := id H
  have hpa : pa ≤ 99 := hw.2.2.2.2.2.2.2.1
  refine Dt.of (by decide) (Nat.le_of_ble_eq_true rfl) fun κ B Rt => ?_
  show Z κ 0 0 σ 0 [(0, .ref 0), (1, .ref q), (2, .int (nI 1))] []
  refine Z.iload_n B dX11_saysAs_0 (x := nI 1) rfl ?_
  refine Z.if_neN B dX11_saysAs_1 (tgt := 9) rfl (by omega) (fun h1 => ?_) (fun h1 => by exfalso; first | omega | contradiction | simp_all)
  refine Z.iload_n B dX11_saysAs_9 (x := nI 1) rfl ?_
  refine Z.iconst B dX11_saysAs_10 (v := nI 1) rfl ?_
  refine Z.icmp_neN B dX11_saysAs_11 (tgt := 31) rfl (by omega) (by omega) (fun h11 => by exfalso; first | omega | contradiction | simp_all) (fun h11 => ?_)
  refine Z.aload_n B dX11_saysAs_14 (v := .ref q) rfl rfl ?_
  refine Z.instY (σ := σ) B (nm := "FourAskOne$Talked") dX11_saysAs_15 (zT_at 323 (by decide +kernel) rfl) hw.1 hw.2.1 (by decide) rfl (Or.inl (by decide +kernel)) ?_
  refine Z.if_eqN B dX11_saysAs_18 (tgt := 31) rfl (by omega) (fun h18 => by exfalso; first | omega | contradiction | simp_all) (fun h18 => ?_)
  refine Z.aload_n B dX11_saysAs_21 (v := .ref q) rfl rfl ?_
  refine Z.cast (σ := σ) B (nm := "FourAskOne$Talked") dX11_saysAs_22 (zT_at 323 (by decide +kernel) rfl) hw.1 hw.2.1 (by decide) rfl (Or.inl (by decide +kernel)) ?_
  refine Z.astore_n B dX11_saysAs_25 (by decide) rfl (L' := [(0, .ref 0), (1, .ref q), (2, .int (nI 1)), (3, .ref q)]) rfl ?_
  refine Z.aload_n B dX11_saysAs_26 (v := .ref q) rfl rfl ?_
  refine Z.callUI (σ := σ) B (M' := mX4_tenths) (as := []) (st := []) (v := .int (nI (pa % 11 / 2))) dX11_saysAs_27 wX4_tenths iX4_tenths (x := yX7_tenths) (owner := "FourAskOne$Talked") kX11_309 (zT_at 327 (by decide +kernel) rfl) iX7_tenths wX7_tenths.1 (by decide +kernel) hw.1 hw.2.1 (by decide) rfl (zT_at 328 (by decide +kernel) rfl) (t_X4_tenths_2 (σ := σ) H hw) rfl rfl (by decide) (by decide) (Nat.le_of_ble_eq_true rfl) (by decide) (by decide) ?_
  refine Z.iret B Rt dX11_saysAs_30 (ty := .int) rfl rfl (by decide) (by decide) ?_
  exact ⟨rfl, rfl⟩

theorem t_K_saysAs_2_2 {σ : zSt} (hl : Lay σ) {n a y : Nat} (H : zHd σ n a y) {od : Nat → Nat} (ho : zOd σ a od) {q pa num : Nat} (hw : zWo σ q 2 pa num) : Dt mX11_saysAs [.ref 0, .ref q, .int (nI 2)] σ (some (.int (nI (pa % 11 / 2)))) σ := by
  obtain ⟨-, hn, hn8, ha, ha4, hy, hy8⟩ := id H
  have hpa : pa ≤ 99 := hw.2.2.2.2.2.2.2.1
  refine Dt.of (by decide) (Nat.le_of_ble_eq_true rfl) fun κ B Rt => ?_
  show Z κ 0 0 σ 0 [(0, .ref 0), (1, .ref q), (2, .int (nI 2))] []
  refine Z.iload_n B dX11_saysAs_0 (x := nI 2) rfl ?_
  refine Z.if_neN B dX11_saysAs_1 (tgt := 9) rfl (by omega) (fun h1 => ?_) (fun h1 => by exfalso; first | omega | contradiction | simp_all)
  refine Z.iload_n B dX11_saysAs_9 (x := nI 2) rfl ?_
  refine Z.iconst B dX11_saysAs_10 (v := nI 1) rfl ?_
  refine Z.icmp_neN B dX11_saysAs_11 (tgt := 31) rfl (by omega) (by omega) (fun h11 => ?_) (fun h11 => by exfalso; first | omega | contradiction | simp_all)
  refine Z.iload_n B dX11_saysAs_31 (x := nI 2) rfl ?_
  refine Z.iconst B dX11_saysAs_32 (v := nI 2) rfl ?_
  refine Z.icmp_neN B dX11_saysAs_33 (tgt := 53) rfl (by omega) (by omega) (fun h33 => by exfalso; first | omega | contradiction | simp_all) (fun h33 => ?_)
  refine Z.aload_n B dX11_saysAs_36 (v := .ref q) rfl rfl ?_
  refine Z.instY (σ := σ) B (nm := "FourAskOne$Lined") dX11_saysAs_37 (zT_at 334 (by decide +kernel) rfl) hw.1 hw.2.1 (by decide) rfl (Or.inr rfl) ?_
  refine Z.if_eqN B dX11_saysAs_40 (tgt := 53) rfl (by omega) (fun h40 => by exfalso; first | omega | contradiction | simp_all) (fun h40 => ?_)
  refine Z.aload_n B dX11_saysAs_43 (v := .ref q) rfl rfl ?_
  refine Z.cast (σ := σ) B (nm := "FourAskOne$Lined") dX11_saysAs_44 (zT_at 334 (by decide +kernel) rfl) hw.1 hw.2.1 (by decide) rfl (Or.inr rfl) ?_
  refine Z.astore_n B dX11_saysAs_47 (by decide) rfl (L' := [(0, .ref 0), (1, .ref q), (2, .int (nI 2)), (3, .ref q)]) rfl ?_
  refine Z.aload_n B dX11_saysAs_48 (v := .ref q) rfl rfl ?_
  refine Z.callVI (σ := σ) B (M' := mX4_tenths) (as := []) (st := []) (v := .int (nI (pa % 11 / 2))) dX11_saysAs_49 wX4_tenths iX4_tenths sX4_tenths kX11_314 hw.1 hw.2.1 (by decide) rfl rfl (t_X4_tenths_2 (σ := σ) H hw) rfl rfl (by decide) (by decide) (Nat.le_of_ble_eq_true rfl) (by decide) (by decide) ?_
  refine Z.iret B Rt dX11_saysAs_52 (ty := .int) rfl rfl (by decide) (by decide) ?_
  exact ⟨rfl, rfl⟩

theorem t_K_saysAs_2_3 {σ : zSt} (hl : Lay σ) {n a y : Nat} (H : zHd σ n a y) {od : Nat → Nat} (ho : zOd σ a od) {q pa num : Nat} (hw : zWo σ q 2 pa num) : Dt mX11_saysAs [.ref 0, .ref q, .int (nI 3)] σ (some (.int (-nI 2))) (zuX σ 43 (upd (zX σ 43) 2 (zX σ 43 2 + nI 1))) := by
  obtain ⟨-, hn, hn8, ha, ha4, hy, hy8⟩ := id H
  have hpa : pa ≤ 99 := hw.2.2.2.2.2.2.2.1
  refine Dt.of (by decide) (Nat.le_of_ble_eq_true rfl) fun κ B Rt => ?_
  show Z κ 0 0 σ 0 [(0, .ref 0), (1, .ref q), (2, .int (nI 3))] []
  refine Z.iload_n B dX11_saysAs_0 (x := nI 3) rfl ?_
  refine Z.if_neN B dX11_saysAs_1 (tgt := 9) rfl (by omega) (fun h1 => ?_) (fun h1 => by exfalso; first | omega | contradiction | simp_all)
  refine Z.iload_n B dX11_saysAs_9 (x := nI 3) rfl ?_
  refine Z.iconst B dX11_saysAs_10 (v := nI 1) rfl ?_
  refine Z.icmp_neN B dX11_saysAs_11 (tgt := 31) rfl (by omega) (by omega) (fun h11 => ?_) (fun h11 => by exfalso; first | omega | contradiction | simp_all)
  refine Z.iload_n B dX11_saysAs_31 (x := nI 3) rfl ?_
  refine Z.iconst B dX11_saysAs_32 (v := nI 2) rfl ?_
  refine Z.icmp_neN B dX11_saysAs_33 (tgt := 53) rfl (by omega) (by omega) (fun h33 => ?_) (fun h33 => by exfalso; first | omega | contradiction | simp_all)
  refine Z.iload_n B dX11_saysAs_53 (x := nI 3) rfl ?_
  refine Z.iconst B dX11_saysAs_54 (v := nI 3) rfl ?_
  refine Z.icmp_neN B dX11_saysAs_55 (tgt := 75) rfl (by omega) (by omega) (fun h55 => by exfalso; first | omega | contradiction | simp_all) (fun h55 => ?_)
  refine Z.aload_n B dX11_saysAs_58 (v := .ref q) rfl rfl ?_
  refine Z.instNo (σ := σ) B (nm := "FourAskOne$Worked") dX11_saysAs_59 (zT_at 336 (by decide +kernel) rfl) hw.1 hw.2.1 (by decide) rfl (by decide +kernel) ?_
  refine Z.if_eqN B dX11_saysAs_62 (tgt := 75) rfl (by omega) (fun h62 => ?_) (fun h62 => by exfalso; first | omega | contradiction | simp_all)
  refine Z.iload_n B dX11_saysAs_75 (x := nI 3) rfl ?_
  refine Z.iconst B dX11_saysAs_76 (v := nI 4) rfl ?_
  refine Z.icmp_neN B dX11_saysAs_77 (tgt := 104) rfl (by omega) (by omega) (fun h77 => ?_) (fun h77 => by exfalso; first | omega | contradiction | simp_all)
  refine Z.iload_n B dX11_saysAs_104 (x := nI 3) rfl ?_
  refine Z.iconst B dX11_saysAs_105 (v := nI 5) rfl ?_
  refine Z.icmp_neN B dX11_saysAs_106 (tgt := 125) rfl (by omega) (by omega) (fun h106 => ?_) (fun h106 => by exfalso; first | omega | contradiction | simp_all)
  refine Z.iload_n B dX11_saysAs_125 (x := nI 3) rfl ?_
  refine Z.bipush B dX11_saysAs_126 (v := nI 6) rfl ?_
  refine Z.icmp_neN B dX11_saysAs_128 (tgt := 169) rfl (by omega) (by omega) (fun h128 => ?_) (fun h128 => by exfalso; first | omega | contradiction | simp_all)
  refine Z.aload_n B dX11_saysAs_169 (v := .ref 0) rfl rfl ?_
  refine Z.iconst B dX11_saysAs_170 (v := nI 2) rfl ?_
  refine Z.callVI (σ := σ) B (M' := mX11_refuse) (as := [.int (nI 2)]) (st := []) (v := .int (-nI 2)) dX11_saysAs_171 wX11_refuse iX11_refuse sX11_refuse kX11_63 (hl.n (k := 0) (by decide)) (hl.k (k := 0) (by decide)) (by decide) rfl rfl (t_X11_refuse (σ := σ) hl (b := 2) (by decide)) rfl rfl (by decide) (by decide) (Nat.le_of_ble_eq_true rfl) (by decide) (by decide) ?_
  refine Z.eqσ (τ := (zuX σ 43 (upd (zX σ 43) 2 (zX σ 43 2 + nI 1)))) rfl ?_
  refine Z.iret B Rt dX11_saysAs_174 (ty := .int) rfl rfl (by decide) (by decide) ?_
  exact ⟨rfl, rfl⟩

theorem t_K_saysAs_2_4 {σ : zSt} (hl : Lay σ) {n a y : Nat} (H : zHd σ n a y) {od : Nat → Nat} (ho : zOd σ a od) {q pa num : Nat} (hw : zWo σ q 2 pa num) : Dt mX11_saysAs [.ref 0, .ref q, .int (nI 4)] σ (some (.int (-nI 2))) (zuX σ 43 (upd (zX σ 43) 2 (zX σ 43 2 + nI 1))) := by
  obtain ⟨-, hn, hn8, ha, ha4, hy, hy8⟩ := id H
  have hpa : pa ≤ 99 := hw.2.2.2.2.2.2.2.1
  refine Dt.of (by decide) (Nat.le_of_ble_eq_true rfl) fun κ B Rt => ?_
  show Z κ 0 0 σ 0 [(0, .ref 0), (1, .ref q), (2, .int (nI 4))] []
  refine Z.iload_n B dX11_saysAs_0 (x := nI 4) rfl ?_
  refine Z.if_neN B dX11_saysAs_1 (tgt := 9) rfl (by omega) (fun h1 => ?_) (fun h1 => by exfalso; first | omega | contradiction | simp_all)
  refine Z.iload_n B dX11_saysAs_9 (x := nI 4) rfl ?_
  refine Z.iconst B dX11_saysAs_10 (v := nI 1) rfl ?_
  refine Z.icmp_neN B dX11_saysAs_11 (tgt := 31) rfl (by omega) (by omega) (fun h11 => ?_) (fun h11 => by exfalso; first | omega | contradiction | simp_all)
  refine Z.iload_n B dX11_saysAs_31 (x := nI 4) rfl ?_
  refine Z.iconst B dX11_saysAs_32 (v := nI 2) rfl ?_
  refine Z.icmp_neN B dX11_saysAs_33 (tgt := 53) rfl (by omega) (by omega) (fun h33 => ?_) (fun h33 => by exfalso; first | omega | contradiction | simp_all)
  refine Z.iload_n B dX11_saysAs_53 (x := nI 4) rfl ?_
  refine Z.iconst B dX11_saysAs_54 (v := nI 3) rfl ?_
  refine Z.icmp_neN B dX11_saysAs_55 (tgt := 75) rfl (by omega) (by omega) (fun h55 => ?_) (fun h55 => by exfalso; first | omega | contradiction | simp_all)
  refine Z.iload_n B dX11_saysAs_75 (x := nI 4) rfl ?_
  refine Z.iconst B dX11_saysAs_76 (v := nI 4) rfl ?_
  refine Z.icmp_neN B dX11_saysAs_77 (tgt := 104) rfl (by omega) (by omega) (fun h77 => by exfalso; first | omega | contradiction | simp_all) (fun h77 => ?_)
  refine Z.aload_n B dX11_saysAs_80 (v := .ref q) rfl rfl ?_
  refine Z.instNo (σ := σ) B (nm := "FourAskOne$Lettered") dX11_saysAs_81 (zT_at 341 (by decide +kernel) rfl) hw.1 hw.2.1 (by decide) rfl (by decide +kernel) ?_
  refine Z.if_eqN B dX11_saysAs_84 (tgt := 104) rfl (by omega) (fun h84 => ?_) (fun h84 => by exfalso; first | omega | contradiction | simp_all)
  refine Z.iload_n B dX11_saysAs_104 (x := nI 4) rfl ?_
  refine Z.iconst B dX11_saysAs_105 (v := nI 5) rfl ?_
  refine Z.icmp_neN B dX11_saysAs_106 (tgt := 125) rfl (by omega) (by omega) (fun h106 => ?_) (fun h106 => by exfalso; first | omega | contradiction | simp_all)
  refine Z.iload_n B dX11_saysAs_125 (x := nI 4) rfl ?_
  refine Z.bipush B dX11_saysAs_126 (v := nI 6) rfl ?_
  refine Z.icmp_neN B dX11_saysAs_128 (tgt := 169) rfl (by omega) (by omega) (fun h128 => ?_) (fun h128 => by exfalso; first | omega | contradiction | simp_all)
  refine Z.aload_n B dX11_saysAs_169 (v := .ref 0) rfl rfl ?_
  refine Z.iconst B dX11_saysAs_170 (v := nI 2) rfl ?_
  refine Z.callVI (σ := σ) B (M' := mX11_refuse) (as := [.int (nI 2)]) (st := []) (v := .int (-nI 2)) dX11_saysAs_171 wX11_refuse iX11_refuse sX11_refuse kX11_63 (hl.n (k := 0) (by decide)) (hl.k (k := 0) (by decide)) (by decide) rfl rfl (t_X11_refuse (σ := σ) hl (b := 2) (by decide)) rfl rfl (by decide) (by decide) (Nat.le_of_ble_eq_true rfl) (by decide) (by decide) ?_
  refine Z.eqσ (τ := (zuX σ 43 (upd (zX σ 43) 2 (zX σ 43 2 + nI 1)))) rfl ?_
  refine Z.iret B Rt dX11_saysAs_174 (ty := .int) rfl rfl (by decide) (by decide) ?_
  exact ⟨rfl, rfl⟩

theorem t_K_saysAs_2_5 {σ : zSt} (hl : Lay σ) {n a y : Nat} (H : zHd σ n a y) {od : Nat → Nat} (ho : zOd σ a od) {q pa num : Nat} (hw : zWo σ q 2 pa num) : Dt mX11_saysAs [.ref 0, .ref q, .int (nI 5)] σ (some (.int (-nI 2))) (zuX σ 43 (upd (zX σ 43) 2 (zX σ 43 2 + nI 1))) := by
  obtain ⟨-, hn, hn8, ha, ha4, hy, hy8⟩ := id H
  have hpa : pa ≤ 99 := hw.2.2.2.2.2.2.2.1
  refine Dt.of (by decide) (Nat.le_of_ble_eq_true rfl) fun κ B Rt => ?_
  show Z κ 0 0 σ 0 [(0, .ref 0), (1, .ref q), (2, .int (nI 5))] []
  refine Z.iload_n B dX11_saysAs_0 (x := nI 5) rfl ?_
  refine Z.if_neN B dX11_saysAs_1 (tgt := 9) rfl (by omega) (fun h1 => ?_) (fun h1 => by exfalso; first | omega | contradiction | simp_all)
  refine Z.iload_n B dX11_saysAs_9 (x := nI 5) rfl ?_
  refine Z.iconst B dX11_saysAs_10 (v := nI 1) rfl ?_
  refine Z.icmp_neN B dX11_saysAs_11 (tgt := 31) rfl (by omega) (by omega) (fun h11 => ?_) (fun h11 => by exfalso; first | omega | contradiction | simp_all)
  refine Z.iload_n B dX11_saysAs_31 (x := nI 5) rfl ?_
  refine Z.iconst B dX11_saysAs_32 (v := nI 2) rfl ?_
  refine Z.icmp_neN B dX11_saysAs_33 (tgt := 53) rfl (by omega) (by omega) (fun h33 => ?_) (fun h33 => by exfalso; first | omega | contradiction | simp_all)
  refine Z.iload_n B dX11_saysAs_53 (x := nI 5) rfl ?_
  refine Z.iconst B dX11_saysAs_54 (v := nI 3) rfl ?_
  refine Z.icmp_neN B dX11_saysAs_55 (tgt := 75) rfl (by omega) (by omega) (fun h55 => ?_) (fun h55 => by exfalso; first | omega | contradiction | simp_all)
  refine Z.iload_n B dX11_saysAs_75 (x := nI 5) rfl ?_
  refine Z.iconst B dX11_saysAs_76 (v := nI 4) rfl ?_
  refine Z.icmp_neN B dX11_saysAs_77 (tgt := 104) rfl (by omega) (by omega) (fun h77 => ?_) (fun h77 => by exfalso; first | omega | contradiction | simp_all)
  refine Z.iload_n B dX11_saysAs_104 (x := nI 5) rfl ?_
  refine Z.iconst B dX11_saysAs_105 (v := nI 5) rfl ?_
  refine Z.icmp_neN B dX11_saysAs_106 (tgt := 125) rfl (by omega) (by omega) (fun h106 => by exfalso; first | omega | contradiction | simp_all) (fun h106 => ?_)
  refine Z.aload_n B dX11_saysAs_109 (v := .ref q) rfl rfl ?_
  refine Z.instNo (σ := σ) B (nm := "FourAskOne$Marked") dX11_saysAs_110 (zT_at 350 (by decide +kernel) rfl) hw.1 hw.2.1 (by decide) rfl (by decide +kernel) ?_
  refine Z.if_eqN B dX11_saysAs_113 (tgt := 125) rfl (by omega) (fun h113 => ?_) (fun h113 => by exfalso; first | omega | contradiction | simp_all)
  refine Z.iload_n B dX11_saysAs_125 (x := nI 5) rfl ?_
  refine Z.bipush B dX11_saysAs_126 (v := nI 6) rfl ?_
  refine Z.icmp_neN B dX11_saysAs_128 (tgt := 169) rfl (by omega) (by omega) (fun h128 => ?_) (fun h128 => by exfalso; first | omega | contradiction | simp_all)
  refine Z.aload_n B dX11_saysAs_169 (v := .ref 0) rfl rfl ?_
  refine Z.iconst B dX11_saysAs_170 (v := nI 2) rfl ?_
  refine Z.callVI (σ := σ) B (M' := mX11_refuse) (as := [.int (nI 2)]) (st := []) (v := .int (-nI 2)) dX11_saysAs_171 wX11_refuse iX11_refuse sX11_refuse kX11_63 (hl.n (k := 0) (by decide)) (hl.k (k := 0) (by decide)) (by decide) rfl rfl (t_X11_refuse (σ := σ) hl (b := 2) (by decide)) rfl rfl (by decide) (by decide) (Nat.le_of_ble_eq_true rfl) (by decide) (by decide) ?_
  refine Z.eqσ (τ := (zuX σ 43 (upd (zX σ 43) 2 (zX σ 43 2 + nI 1)))) rfl ?_
  refine Z.iret B Rt dX11_saysAs_174 (ty := .int) rfl rfl (by decide) (by decide) ?_
  exact ⟨rfl, rfl⟩

theorem t_K_saysAs_2_6 {σ : zSt} (hl : Lay σ) {n a y : Nat} (H : zHd σ n a y) {od : Nat → Nat} (ho : zOd σ a od) {q pa num : Nat} (hw : zWo σ q 2 pa num) : Dt mX11_saysAs [.ref 0, .ref q, .int (nI 6)] σ (some (.int (-nI 2))) (zuX σ 43 (upd (zX σ 43) 2 (zX σ 43 2 + nI 1))) := by
  obtain ⟨-, hn, hn8, ha, ha4, hy, hy8⟩ := id H
  have hpa : pa ≤ 99 := hw.2.2.2.2.2.2.2.1
  refine Dt.of (by decide) (Nat.le_of_ble_eq_true rfl) fun κ B Rt => ?_
  show Z κ 0 0 σ 0 [(0, .ref 0), (1, .ref q), (2, .int (nI 6))] []
  refine Z.iload_n B dX11_saysAs_0 (x := nI 6) rfl ?_
  refine Z.if_neN B dX11_saysAs_1 (tgt := 9) rfl (by omega) (fun h1 => ?_) (fun h1 => by exfalso; first | omega | contradiction | simp_all)
  refine Z.iload_n B dX11_saysAs_9 (x := nI 6) rfl ?_
  refine Z.iconst B dX11_saysAs_10 (v := nI 1) rfl ?_
  refine Z.icmp_neN B dX11_saysAs_11 (tgt := 31) rfl (by omega) (by omega) (fun h11 => ?_) (fun h11 => by exfalso; first | omega | contradiction | simp_all)
  refine Z.iload_n B dX11_saysAs_31 (x := nI 6) rfl ?_
  refine Z.iconst B dX11_saysAs_32 (v := nI 2) rfl ?_
  refine Z.icmp_neN B dX11_saysAs_33 (tgt := 53) rfl (by omega) (by omega) (fun h33 => ?_) (fun h33 => by exfalso; first | omega | contradiction | simp_all)
  refine Z.iload_n B dX11_saysAs_53 (x := nI 6) rfl ?_
  refine Z.iconst B dX11_saysAs_54 (v := nI 3) rfl ?_
  refine Z.icmp_neN B dX11_saysAs_55 (tgt := 75) rfl (by omega) (by omega) (fun h55 => ?_) (fun h55 => by exfalso; first | omega | contradiction | simp_all)
  refine Z.iload_n B dX11_saysAs_75 (x := nI 6) rfl ?_
  refine Z.iconst B dX11_saysAs_76 (v := nI 4) rfl ?_
  refine Z.icmp_neN B dX11_saysAs_77 (tgt := 104) rfl (by omega) (by omega) (fun h77 => ?_) (fun h77 => by exfalso; first | omega | contradiction | simp_all)
  refine Z.iload_n B dX11_saysAs_104 (x := nI 6) rfl ?_
  refine Z.iconst B dX11_saysAs_105 (v := nI 5) rfl ?_
  refine Z.icmp_neN B dX11_saysAs_106 (tgt := 125) rfl (by omega) (by omega) (fun h106 => ?_) (fun h106 => by exfalso; first | omega | contradiction | simp_all)
  refine Z.iload_n B dX11_saysAs_125 (x := nI 6) rfl ?_
  refine Z.bipush B dX11_saysAs_126 (v := nI 6) rfl ?_
  refine Z.icmp_neN B dX11_saysAs_128 (tgt := 169) rfl (by omega) (by omega) (fun h128 => by exfalso; first | omega | contradiction | simp_all) (fun h128 => ?_)
  refine Z.aload_n B dX11_saysAs_131 (v := .ref q) rfl rfl ?_
  refine Z.instNo (σ := σ) B (nm := "FourAskOne$Blind") dX11_saysAs_132 (zT_at 363 (by decide +kernel) rfl) hw.1 hw.2.1 (by decide) rfl (by decide +kernel) ?_
  refine Z.if_eqN B dX11_saysAs_135 (tgt := 169) rfl (by omega) (fun h135 => ?_) (fun h135 => by exfalso; first | omega | contradiction | simp_all)
  refine Z.aload_n B dX11_saysAs_169 (v := .ref 0) rfl rfl ?_
  refine Z.iconst B dX11_saysAs_170 (v := nI 2) rfl ?_
  refine Z.callVI (σ := σ) B (M' := mX11_refuse) (as := [.int (nI 2)]) (st := []) (v := .int (-nI 2)) dX11_saysAs_171 wX11_refuse iX11_refuse sX11_refuse kX11_63 (hl.n (k := 0) (by decide)) (hl.k (k := 0) (by decide)) (by decide) rfl rfl (t_X11_refuse (σ := σ) hl (b := 2) (by decide)) rfl rfl (by decide) (by decide) (Nat.le_of_ble_eq_true rfl) (by decide) (by decide) ?_
  refine Z.eqσ (τ := (zuX σ 43 (upd (zX σ 43) 2 (zX σ 43 2 + nI 1)))) rfl ?_
  refine Z.iret B Rt dX11_saysAs_174 (ty := .int) rfl rfl (by decide) (by decide) ?_
  exact ⟨rfl, rfl⟩

theorem t_K_saysAs_3_0 {σ : zSt} (hl : Lay σ) {n a y : Nat} (H : zHd σ n a y) {od : Nat → Nat} (ho : zOd σ a od) {q pa num : Nat} (hw : zWo σ q 3 pa num) : Dt mX11_saysAs [.ref 0, .ref q, .int (nI 0)] σ (some (.int (nI pa))) σ := by
  obtain ⟨-, hn, hn8, ha, ha4, hy, hy8⟩ := id H
  have hpa : pa ≤ 99 := hw.2.2.2.2.2.2.2.1
  refine Dt.of (by decide) (Nat.le_of_ble_eq_true rfl) fun κ B Rt => ?_
  show Z κ 0 0 σ 0 [(0, .ref 0), (1, .ref q), (2, .int (nI 0))] []
  refine Z.iload_n B dX11_saysAs_0 (x := nI 0) rfl ?_
  refine Z.if_neN B dX11_saysAs_1 (tgt := 9) rfl (by omega) (fun h1 => by exfalso; first | omega | contradiction | simp_all) (fun h1 => ?_)
  refine Z.aload_n B dX11_saysAs_4 (v := .ref q) rfl rfl ?_
  refine Z.getI (σ := σ) B fX11_172_10 dX11_saysAs_5 hw.1 hw.2.1 (by decide) (v := nI pa) hw.2.2.2.2.2.1 ?_
  refine Z.iret B Rt dX11_saysAs_8 (ty := .int) rfl rfl (by decide) (by decide) ?_
  exact ⟨rfl, rfl⟩

theorem t_K_saysAs_3_1 {σ : zSt} (hl : Lay σ) {n a y : Nat} (H : zHd σ n a y) {od : Nat → Nat} (ho : zOd σ a od) {q pa num : Nat} (hw : zWo σ q 3 pa num) : Dt mX11_saysAs [.ref 0, .ref q, .int (nI 1)] σ (some (.int (-nI 2))) (zuX σ 43 (upd (zX σ 43) 2 (zX σ 43 2 + nI 1))) := by
  obtain ⟨-, hn, hn8, ha, ha4, hy, hy8⟩ := id H
  have hpa : pa ≤ 99 := hw.2.2.2.2.2.2.2.1
  refine Dt.of (by decide) (Nat.le_of_ble_eq_true rfl) fun κ B Rt => ?_
  show Z κ 0 0 σ 0 [(0, .ref 0), (1, .ref q), (2, .int (nI 1))] []
  refine Z.iload_n B dX11_saysAs_0 (x := nI 1) rfl ?_
  refine Z.if_neN B dX11_saysAs_1 (tgt := 9) rfl (by omega) (fun h1 => ?_) (fun h1 => by exfalso; first | omega | contradiction | simp_all)
  refine Z.iload_n B dX11_saysAs_9 (x := nI 1) rfl ?_
  refine Z.iconst B dX11_saysAs_10 (v := nI 1) rfl ?_
  refine Z.icmp_neN B dX11_saysAs_11 (tgt := 31) rfl (by omega) (by omega) (fun h11 => by exfalso; first | omega | contradiction | simp_all) (fun h11 => ?_)
  refine Z.aload_n B dX11_saysAs_14 (v := .ref q) rfl rfl ?_
  refine Z.instNo (σ := σ) B (nm := "FourAskOne$Talked") dX11_saysAs_15 (zT_at 323 (by decide +kernel) rfl) hw.1 hw.2.1 (by decide) rfl (by decide +kernel) ?_
  refine Z.if_eqN B dX11_saysAs_18 (tgt := 31) rfl (by omega) (fun h18 => ?_) (fun h18 => by exfalso; first | omega | contradiction | simp_all)
  refine Z.iload_n B dX11_saysAs_31 (x := nI 1) rfl ?_
  refine Z.iconst B dX11_saysAs_32 (v := nI 2) rfl ?_
  refine Z.icmp_neN B dX11_saysAs_33 (tgt := 53) rfl (by omega) (by omega) (fun h33 => ?_) (fun h33 => by exfalso; first | omega | contradiction | simp_all)
  refine Z.iload_n B dX11_saysAs_53 (x := nI 1) rfl ?_
  refine Z.iconst B dX11_saysAs_54 (v := nI 3) rfl ?_
  refine Z.icmp_neN B dX11_saysAs_55 (tgt := 75) rfl (by omega) (by omega) (fun h55 => ?_) (fun h55 => by exfalso; first | omega | contradiction | simp_all)
  refine Z.iload_n B dX11_saysAs_75 (x := nI 1) rfl ?_
  refine Z.iconst B dX11_saysAs_76 (v := nI 4) rfl ?_
  refine Z.icmp_neN B dX11_saysAs_77 (tgt := 104) rfl (by omega) (by omega) (fun h77 => ?_) (fun h77 => by exfalso; first | omega | contradiction | simp_all)
  refine Z.iload_n B dX11_saysAs_104 (x := nI 1) rfl ?_
  refine Z.iconst B dX11_saysAs_105 (v := nI 5) rfl ?_
  refine Z.icmp_neN B dX11_saysAs_106 (tgt := 125) rfl (by omega) (by omega) (fun h106 => ?_) (fun h106 => by exfalso; first | omega | contradiction | simp_all)
  refine Z.iload_n B dX11_saysAs_125 (x := nI 1) rfl ?_
  refine Z.bipush B dX11_saysAs_126 (v := nI 6) rfl ?_
  refine Z.icmp_neN B dX11_saysAs_128 (tgt := 169) rfl (by omega) (by omega) (fun h128 => ?_) (fun h128 => by exfalso; first | omega | contradiction | simp_all)
  refine Z.aload_n B dX11_saysAs_169 (v := .ref 0) rfl rfl ?_
  refine Z.iconst B dX11_saysAs_170 (v := nI 2) rfl ?_
  refine Z.callVI (σ := σ) B (M' := mX11_refuse) (as := [.int (nI 2)]) (st := []) (v := .int (-nI 2)) dX11_saysAs_171 wX11_refuse iX11_refuse sX11_refuse kX11_63 (hl.n (k := 0) (by decide)) (hl.k (k := 0) (by decide)) (by decide) rfl rfl (t_X11_refuse (σ := σ) hl (b := 2) (by decide)) rfl rfl (by decide) (by decide) (Nat.le_of_ble_eq_true rfl) (by decide) (by decide) ?_
  refine Z.eqσ (τ := (zuX σ 43 (upd (zX σ 43) 2 (zX σ 43 2 + nI 1)))) rfl ?_
  refine Z.iret B Rt dX11_saysAs_174 (ty := .int) rfl rfl (by decide) (by decide) ?_
  exact ⟨rfl, rfl⟩

theorem t_K_saysAs_3_2 {σ : zSt} (hl : Lay σ) {n a y : Nat} (H : zHd σ n a y) {od : Nat → Nat} (ho : zOd σ a od) {q pa num : Nat} (hw : zWo σ q 3 pa num) : Dt mX11_saysAs [.ref 0, .ref q, .int (nI 2)] σ (some (.int (-nI 2))) (zuX σ 43 (upd (zX σ 43) 2 (zX σ 43 2 + nI 1))) := by
  obtain ⟨-, hn, hn8, ha, ha4, hy, hy8⟩ := id H
  have hpa : pa ≤ 99 := hw.2.2.2.2.2.2.2.1
  refine Dt.of (by decide) (Nat.le_of_ble_eq_true rfl) fun κ B Rt => ?_
  show Z κ 0 0 σ 0 [(0, .ref 0), (1, .ref q), (2, .int (nI 2))] []
  refine Z.iload_n B dX11_saysAs_0 (x := nI 2) rfl ?_
  refine Z.if_neN B dX11_saysAs_1 (tgt := 9) rfl (by omega) (fun h1 => ?_) (fun h1 => by exfalso; first | omega | contradiction | simp_all)
  refine Z.iload_n B dX11_saysAs_9 (x := nI 2) rfl ?_
  refine Z.iconst B dX11_saysAs_10 (v := nI 1) rfl ?_
  refine Z.icmp_neN B dX11_saysAs_11 (tgt := 31) rfl (by omega) (by omega) (fun h11 => ?_) (fun h11 => by exfalso; first | omega | contradiction | simp_all)
  refine Z.iload_n B dX11_saysAs_31 (x := nI 2) rfl ?_
  refine Z.iconst B dX11_saysAs_32 (v := nI 2) rfl ?_
  refine Z.icmp_neN B dX11_saysAs_33 (tgt := 53) rfl (by omega) (by omega) (fun h33 => by exfalso; first | omega | contradiction | simp_all) (fun h33 => ?_)
  refine Z.aload_n B dX11_saysAs_36 (v := .ref q) rfl rfl ?_
  refine Z.instNo (σ := σ) B (nm := "FourAskOne$Lined") dX11_saysAs_37 (zT_at 334 (by decide +kernel) rfl) hw.1 hw.2.1 (by decide) rfl (by decide +kernel) ?_
  refine Z.if_eqN B dX11_saysAs_40 (tgt := 53) rfl (by omega) (fun h40 => ?_) (fun h40 => by exfalso; first | omega | contradiction | simp_all)
  refine Z.iload_n B dX11_saysAs_53 (x := nI 2) rfl ?_
  refine Z.iconst B dX11_saysAs_54 (v := nI 3) rfl ?_
  refine Z.icmp_neN B dX11_saysAs_55 (tgt := 75) rfl (by omega) (by omega) (fun h55 => ?_) (fun h55 => by exfalso; first | omega | contradiction | simp_all)
  refine Z.iload_n B dX11_saysAs_75 (x := nI 2) rfl ?_
  refine Z.iconst B dX11_saysAs_76 (v := nI 4) rfl ?_
  refine Z.icmp_neN B dX11_saysAs_77 (tgt := 104) rfl (by omega) (by omega) (fun h77 => ?_) (fun h77 => by exfalso; first | omega | contradiction | simp_all)
  refine Z.iload_n B dX11_saysAs_104 (x := nI 2) rfl ?_
  refine Z.iconst B dX11_saysAs_105 (v := nI 5) rfl ?_
  refine Z.icmp_neN B dX11_saysAs_106 (tgt := 125) rfl (by omega) (by omega) (fun h106 => ?_) (fun h106 => by exfalso; first | omega | contradiction | simp_all)
  refine Z.iload_n B dX11_saysAs_125 (x := nI 2) rfl ?_
  refine Z.bipush B dX11_saysAs_126 (v := nI 6) rfl ?_
  refine Z.icmp_neN B dX11_saysAs_128 (tgt := 169) rfl (by omega) (by omega) (fun h128 => ?_) (fun h128 => by exfalso; first | omega | contradiction | simp_all)
  refine Z.aload_n B dX11_saysAs_169 (v := .ref 0) rfl rfl ?_
  refine Z.iconst B dX11_saysAs_170 (v := nI 2) rfl ?_
  refine Z.callVI (σ := σ) B (M' := mX11_refuse) (as := [.int (nI 2)]) (st := []) (v := .int (-nI 2)) dX11_saysAs_171 wX11_refuse iX11_refuse sX11_refuse kX11_63 (hl.n (k := 0) (by decide)) (hl.k (k := 0) (by decide)) (by decide) rfl rfl (t_X11_refuse (σ := σ) hl (b := 2) (by decide)) rfl rfl (by decide) (by decide) (Nat.le_of_ble_eq_true rfl) (by decide) (by decide) ?_
  refine Z.eqσ (τ := (zuX σ 43 (upd (zX σ 43) 2 (zX σ 43 2 + nI 1)))) rfl ?_
  refine Z.iret B Rt dX11_saysAs_174 (ty := .int) rfl rfl (by decide) (by decide) ?_
  exact ⟨rfl, rfl⟩

theorem t_K_saysAs_3_3 {σ : zSt} (hl : Lay σ) {n a y : Nat} (H : zHd σ n a y) {od : Nat → Nat} (ho : zOd σ a od) {q pa num : Nat} (hw : zWo σ q 3 pa num) : Dt mX11_saysAs [.ref 0, .ref q, .int (nI 3)] σ (some (.int (nI (pa % 3)))) σ := by
  obtain ⟨-, hn, hn8, ha, ha4, hy, hy8⟩ := id H
  have hpa : pa ≤ 99 := hw.2.2.2.2.2.2.2.1
  refine Dt.of (by decide) (Nat.le_of_ble_eq_true rfl) fun κ B Rt => ?_
  show Z κ 0 0 σ 0 [(0, .ref 0), (1, .ref q), (2, .int (nI 3))] []
  refine Z.iload_n B dX11_saysAs_0 (x := nI 3) rfl ?_
  refine Z.if_neN B dX11_saysAs_1 (tgt := 9) rfl (by omega) (fun h1 => ?_) (fun h1 => by exfalso; first | omega | contradiction | simp_all)
  refine Z.iload_n B dX11_saysAs_9 (x := nI 3) rfl ?_
  refine Z.iconst B dX11_saysAs_10 (v := nI 1) rfl ?_
  refine Z.icmp_neN B dX11_saysAs_11 (tgt := 31) rfl (by omega) (by omega) (fun h11 => ?_) (fun h11 => by exfalso; first | omega | contradiction | simp_all)
  refine Z.iload_n B dX11_saysAs_31 (x := nI 3) rfl ?_
  refine Z.iconst B dX11_saysAs_32 (v := nI 2) rfl ?_
  refine Z.icmp_neN B dX11_saysAs_33 (tgt := 53) rfl (by omega) (by omega) (fun h33 => ?_) (fun h33 => by exfalso; first | omega | contradiction | simp_all)
  refine Z.iload_n B dX11_saysAs_53 (x := nI 3) rfl ?_
  refine Z.iconst B dX11_saysAs_54 (v := nI 3) rfl ?_
  refine Z.icmp_neN B dX11_saysAs_55 (tgt := 75) rfl (by omega) (by omega) (fun h55 => by exfalso; first | omega | contradiction | simp_all) (fun h55 => ?_)
  refine Z.aload_n B dX11_saysAs_58 (v := .ref q) rfl rfl ?_
  refine Z.instY (σ := σ) B (nm := "FourAskOne$Worked") dX11_saysAs_59 (zT_at 336 (by decide +kernel) rfl) hw.1 hw.2.1 (by decide) rfl (Or.inr rfl) ?_
  refine Z.if_eqN B dX11_saysAs_62 (tgt := 75) rfl (by omega) (fun h62 => by exfalso; first | omega | contradiction | simp_all) (fun h62 => ?_)
  refine Z.aload_n B dX11_saysAs_65 (v := .ref q) rfl rfl ?_
  refine Z.cast (σ := σ) B (nm := "FourAskOne$Worked") dX11_saysAs_66 (zT_at 336 (by decide +kernel) rfl) hw.1 hw.2.1 (by decide) rfl (Or.inr rfl) ?_
  refine Z.astore_n B dX11_saysAs_69 (by decide) rfl (L' := [(0, .ref 0), (1, .ref q), (2, .int (nI 3)), (3, .ref q)]) rfl ?_
  refine Z.aload_n B dX11_saysAs_70 (v := .ref q) rfl rfl ?_
  refine Z.callVI (σ := σ) B (M' := mX10_line) (as := []) (st := []) (v := .int (nI (pa % 3))) dX11_saysAs_71 wX10_line iX10_line sX10_line kX11_317 hw.1 hw.2.1 (by decide) rfl rfl (t_X10_line (σ := σ) H hw) rfl rfl (by decide) (by decide) (Nat.le_of_ble_eq_true rfl) (by decide) (by decide) ?_
  refine Z.iret B Rt dX11_saysAs_74 (ty := .int) rfl rfl (by decide) (by decide) ?_
  exact ⟨rfl, rfl⟩

theorem t_K_saysAs_3_4 {σ : zSt} (hl : Lay σ) {n a y : Nat} (H : zHd σ n a y) {od : Nat → Nat} (ho : zOd σ a od) {q pa num : Nat} (hw : zWo σ q 3 pa num) : Dt mX11_saysAs [.ref 0, .ref q, .int (nI 4)] σ (some (.int (-nI 2))) (zuX σ 43 (upd (zX σ 43) 2 (zX σ 43 2 + nI 1))) := by
  obtain ⟨-, hn, hn8, ha, ha4, hy, hy8⟩ := id H
  have hpa : pa ≤ 99 := hw.2.2.2.2.2.2.2.1
  refine Dt.of (by decide) (Nat.le_of_ble_eq_true rfl) fun κ B Rt => ?_
  show Z κ 0 0 σ 0 [(0, .ref 0), (1, .ref q), (2, .int (nI 4))] []
  refine Z.iload_n B dX11_saysAs_0 (x := nI 4) rfl ?_
  refine Z.if_neN B dX11_saysAs_1 (tgt := 9) rfl (by omega) (fun h1 => ?_) (fun h1 => by exfalso; first | omega | contradiction | simp_all)
  refine Z.iload_n B dX11_saysAs_9 (x := nI 4) rfl ?_
  refine Z.iconst B dX11_saysAs_10 (v := nI 1) rfl ?_
  refine Z.icmp_neN B dX11_saysAs_11 (tgt := 31) rfl (by omega) (by omega) (fun h11 => ?_) (fun h11 => by exfalso; first | omega | contradiction | simp_all)
  refine Z.iload_n B dX11_saysAs_31 (x := nI 4) rfl ?_
  refine Z.iconst B dX11_saysAs_32 (v := nI 2) rfl ?_
  refine Z.icmp_neN B dX11_saysAs_33 (tgt := 53) rfl (by omega) (by omega) (fun h33 => ?_) (fun h33 => by exfalso; first | omega | contradiction | simp_all)
  refine Z.iload_n B dX11_saysAs_53 (x := nI 4) rfl ?_
  refine Z.iconst B dX11_saysAs_54 (v := nI 3) rfl ?_
  refine Z.icmp_neN B dX11_saysAs_55 (tgt := 75) rfl (by omega) (by omega) (fun h55 => ?_) (fun h55 => by exfalso; first | omega | contradiction | simp_all)
  refine Z.iload_n B dX11_saysAs_75 (x := nI 4) rfl ?_
  refine Z.iconst B dX11_saysAs_76 (v := nI 4) rfl ?_
  refine Z.icmp_neN B dX11_saysAs_77 (tgt := 104) rfl (by omega) (by omega) (fun h77 => by exfalso; first | omega | contradiction | simp_all) (fun h77 => ?_)
  refine Z.aload_n B dX11_saysAs_80 (v := .ref q) rfl rfl ?_
  refine Z.instNo (σ := σ) B (nm := "FourAskOne$Lettered") dX11_saysAs_81 (zT_at 341 (by decide +kernel) rfl) hw.1 hw.2.1 (by decide) rfl (by decide +kernel) ?_
  refine Z.if_eqN B dX11_saysAs_84 (tgt := 104) rfl (by omega) (fun h84 => ?_) (fun h84 => by exfalso; first | omega | contradiction | simp_all)
  refine Z.iload_n B dX11_saysAs_104 (x := nI 4) rfl ?_
  refine Z.iconst B dX11_saysAs_105 (v := nI 5) rfl ?_
  refine Z.icmp_neN B dX11_saysAs_106 (tgt := 125) rfl (by omega) (by omega) (fun h106 => ?_) (fun h106 => by exfalso; first | omega | contradiction | simp_all)
  refine Z.iload_n B dX11_saysAs_125 (x := nI 4) rfl ?_
  refine Z.bipush B dX11_saysAs_126 (v := nI 6) rfl ?_
  refine Z.icmp_neN B dX11_saysAs_128 (tgt := 169) rfl (by omega) (by omega) (fun h128 => ?_) (fun h128 => by exfalso; first | omega | contradiction | simp_all)
  refine Z.aload_n B dX11_saysAs_169 (v := .ref 0) rfl rfl ?_
  refine Z.iconst B dX11_saysAs_170 (v := nI 2) rfl ?_
  refine Z.callVI (σ := σ) B (M' := mX11_refuse) (as := [.int (nI 2)]) (st := []) (v := .int (-nI 2)) dX11_saysAs_171 wX11_refuse iX11_refuse sX11_refuse kX11_63 (hl.n (k := 0) (by decide)) (hl.k (k := 0) (by decide)) (by decide) rfl rfl (t_X11_refuse (σ := σ) hl (b := 2) (by decide)) rfl rfl (by decide) (by decide) (Nat.le_of_ble_eq_true rfl) (by decide) (by decide) ?_
  refine Z.eqσ (τ := (zuX σ 43 (upd (zX σ 43) 2 (zX σ 43 2 + nI 1)))) rfl ?_
  refine Z.iret B Rt dX11_saysAs_174 (ty := .int) rfl rfl (by decide) (by decide) ?_
  exact ⟨rfl, rfl⟩

theorem t_K_saysAs_3_5 {σ : zSt} (hl : Lay σ) {n a y : Nat} (H : zHd σ n a y) {od : Nat → Nat} (ho : zOd σ a od) {q pa num : Nat} (hw : zWo σ q 3 pa num) : Dt mX11_saysAs [.ref 0, .ref q, .int (nI 5)] σ (some (.int (-nI 2))) (zuX σ 43 (upd (zX σ 43) 2 (zX σ 43 2 + nI 1))) := by
  obtain ⟨-, hn, hn8, ha, ha4, hy, hy8⟩ := id H
  have hpa : pa ≤ 99 := hw.2.2.2.2.2.2.2.1
  refine Dt.of (by decide) (Nat.le_of_ble_eq_true rfl) fun κ B Rt => ?_
  show Z κ 0 0 σ 0 [(0, .ref 0), (1, .ref q), (2, .int (nI 5))] []
  refine Z.iload_n B dX11_saysAs_0 (x := nI 5) rfl ?_
  refine Z.if_neN B dX11_saysAs_1 (tgt := 9) rfl (by omega) (fun h1 => ?_) (fun h1 => by exfalso; first | omega | contradiction | simp_all)
  refine Z.iload_n B dX11_saysAs_9 (x := nI 5) rfl ?_
  refine Z.iconst B dX11_saysAs_10 (v := nI 1) rfl ?_
  refine Z.icmp_neN B dX11_saysAs_11 (tgt := 31) rfl (by omega) (by omega) (fun h11 => ?_) (fun h11 => by exfalso; first | omega | contradiction | simp_all)
  refine Z.iload_n B dX11_saysAs_31 (x := nI 5) rfl ?_
  refine Z.iconst B dX11_saysAs_32 (v := nI 2) rfl ?_
  refine Z.icmp_neN B dX11_saysAs_33 (tgt := 53) rfl (by omega) (by omega) (fun h33 => ?_) (fun h33 => by exfalso; first | omega | contradiction | simp_all)
  refine Z.iload_n B dX11_saysAs_53 (x := nI 5) rfl ?_
  refine Z.iconst B dX11_saysAs_54 (v := nI 3) rfl ?_
  refine Z.icmp_neN B dX11_saysAs_55 (tgt := 75) rfl (by omega) (by omega) (fun h55 => ?_) (fun h55 => by exfalso; first | omega | contradiction | simp_all)
  refine Z.iload_n B dX11_saysAs_75 (x := nI 5) rfl ?_
  refine Z.iconst B dX11_saysAs_76 (v := nI 4) rfl ?_
  refine Z.icmp_neN B dX11_saysAs_77 (tgt := 104) rfl (by omega) (by omega) (fun h77 => ?_) (fun h77 => by exfalso; first | omega | contradiction | simp_all)
  refine Z.iload_n B dX11_saysAs_104 (x := nI 5) rfl ?_
  refine Z.iconst B dX11_saysAs_105 (v := nI 5) rfl ?_
  refine Z.icmp_neN B dX11_saysAs_106 (tgt := 125) rfl (by omega) (by omega) (fun h106 => by exfalso; first | omega | contradiction | simp_all) (fun h106 => ?_)
  refine Z.aload_n B dX11_saysAs_109 (v := .ref q) rfl rfl ?_
  refine Z.instNo (σ := σ) B (nm := "FourAskOne$Marked") dX11_saysAs_110 (zT_at 350 (by decide +kernel) rfl) hw.1 hw.2.1 (by decide) rfl (by decide +kernel) ?_
  refine Z.if_eqN B dX11_saysAs_113 (tgt := 125) rfl (by omega) (fun h113 => ?_) (fun h113 => by exfalso; first | omega | contradiction | simp_all)
  refine Z.iload_n B dX11_saysAs_125 (x := nI 5) rfl ?_
  refine Z.bipush B dX11_saysAs_126 (v := nI 6) rfl ?_
  refine Z.icmp_neN B dX11_saysAs_128 (tgt := 169) rfl (by omega) (by omega) (fun h128 => ?_) (fun h128 => by exfalso; first | omega | contradiction | simp_all)
  refine Z.aload_n B dX11_saysAs_169 (v := .ref 0) rfl rfl ?_
  refine Z.iconst B dX11_saysAs_170 (v := nI 2) rfl ?_
  refine Z.callVI (σ := σ) B (M' := mX11_refuse) (as := [.int (nI 2)]) (st := []) (v := .int (-nI 2)) dX11_saysAs_171 wX11_refuse iX11_refuse sX11_refuse kX11_63 (hl.n (k := 0) (by decide)) (hl.k (k := 0) (by decide)) (by decide) rfl rfl (t_X11_refuse (σ := σ) hl (b := 2) (by decide)) rfl rfl (by decide) (by decide) (Nat.le_of_ble_eq_true rfl) (by decide) (by decide) ?_
  refine Z.eqσ (τ := (zuX σ 43 (upd (zX σ 43) 2 (zX σ 43 2 + nI 1)))) rfl ?_
  refine Z.iret B Rt dX11_saysAs_174 (ty := .int) rfl rfl (by decide) (by decide) ?_
  exact ⟨rfl, rfl⟩

theorem t_K_saysAs_3_6 {σ : zSt} (hl : Lay σ) {n a y : Nat} (H : zHd σ n a y) {od : Nat → Nat} (ho : zOd σ a od) {q pa num : Nat} (hw : zWo σ q 3 pa num) : Dt mX11_saysAs [.ref 0, .ref q, .int (nI 6)] σ (some (.int (-nI 2))) (zuX σ 43 (upd (zX σ 43) 2 (zX σ 43 2 + nI 1))) := by
  obtain ⟨-, hn, hn8, ha, ha4, hy, hy8⟩ := id H
  have hpa : pa ≤ 99 := hw.2.2.2.2.2.2.2.1
  refine Dt.of (by decide) (Nat.le_of_ble_eq_true rfl) fun κ B Rt => ?_
  show Z κ 0 0 σ 0 [(0, .ref 0), (1, .ref q), (2, .int (nI 6))] []
  refine Z.iload_n B dX11_saysAs_0 (x := nI 6) rfl ?_
  refine Z.if_neN B dX11_saysAs_1 (tgt := 9) rfl (by omega) (fun h1 => ?_) (fun h1 => by exfalso; first | omega | contradiction | simp_all)
  refine Z.iload_n B dX11_saysAs_9 (x := nI 6) rfl ?_
  refine Z.iconst B dX11_saysAs_10 (v := nI 1) rfl ?_
  refine Z.icmp_neN B dX11_saysAs_11 (tgt := 31) rfl (by omega) (by omega) (fun h11 => ?_) (fun h11 => by exfalso; first | omega | contradiction | simp_all)
  refine Z.iload_n B dX11_saysAs_31 (x := nI 6) rfl ?_
  refine Z.iconst B dX11_saysAs_32 (v := nI 2) rfl ?_
  refine Z.icmp_neN B dX11_saysAs_33 (tgt := 53) rfl (by omega) (by omega) (fun h33 => ?_) (fun h33 => by exfalso; first | omega | contradiction | simp_all)
  refine Z.iload_n B dX11_saysAs_53 (x := nI 6) rfl ?_
  refine Z.iconst B dX11_saysAs_54 (v := nI 3) rfl ?_
  refine Z.icmp_neN B dX11_saysAs_55 (tgt := 75) rfl (by omega) (by omega) (fun h55 => ?_) (fun h55 => by exfalso; first | omega | contradiction | simp_all)
  refine Z.iload_n B dX11_saysAs_75 (x := nI 6) rfl ?_
  refine Z.iconst B dX11_saysAs_76 (v := nI 4) rfl ?_
  refine Z.icmp_neN B dX11_saysAs_77 (tgt := 104) rfl (by omega) (by omega) (fun h77 => ?_) (fun h77 => by exfalso; first | omega | contradiction | simp_all)
  refine Z.iload_n B dX11_saysAs_104 (x := nI 6) rfl ?_
  refine Z.iconst B dX11_saysAs_105 (v := nI 5) rfl ?_
  refine Z.icmp_neN B dX11_saysAs_106 (tgt := 125) rfl (by omega) (by omega) (fun h106 => ?_) (fun h106 => by exfalso; first | omega | contradiction | simp_all)
  refine Z.iload_n B dX11_saysAs_125 (x := nI 6) rfl ?_
  refine Z.bipush B dX11_saysAs_126 (v := nI 6) rfl ?_
  refine Z.icmp_neN B dX11_saysAs_128 (tgt := 169) rfl (by omega) (by omega) (fun h128 => by exfalso; first | omega | contradiction | simp_all) (fun h128 => ?_)
  refine Z.aload_n B dX11_saysAs_131 (v := .ref q) rfl rfl ?_
  refine Z.instNo (σ := σ) B (nm := "FourAskOne$Blind") dX11_saysAs_132 (zT_at 363 (by decide +kernel) rfl) hw.1 hw.2.1 (by decide) rfl (by decide +kernel) ?_
  refine Z.if_eqN B dX11_saysAs_135 (tgt := 169) rfl (by omega) (fun h135 => ?_) (fun h135 => by exfalso; first | omega | contradiction | simp_all)
  refine Z.aload_n B dX11_saysAs_169 (v := .ref 0) rfl rfl ?_
  refine Z.iconst B dX11_saysAs_170 (v := nI 2) rfl ?_
  refine Z.callVI (σ := σ) B (M' := mX11_refuse) (as := [.int (nI 2)]) (st := []) (v := .int (-nI 2)) dX11_saysAs_171 wX11_refuse iX11_refuse sX11_refuse kX11_63 (hl.n (k := 0) (by decide)) (hl.k (k := 0) (by decide)) (by decide) rfl rfl (t_X11_refuse (σ := σ) hl (b := 2) (by decide)) rfl rfl (by decide) (by decide) (Nat.le_of_ble_eq_true rfl) (by decide) (by decide) ?_
  refine Z.eqσ (τ := (zuX σ 43 (upd (zX σ 43) 2 (zX σ 43 2 + nI 1)))) rfl ?_
  refine Z.iret B Rt dX11_saysAs_174 (ty := .int) rfl rfl (by decide) (by decide) ?_
  exact ⟨rfl, rfl⟩

theorem t_K_saysAs_4_0 {σ : zSt} (hl : Lay σ) {n a y : Nat} (H : zHd σ n a y) {od : Nat → Nat} (ho : zOd σ a od) {q pa num : Nat} (hw : zWo σ q 4 pa num) : Dt mX11_saysAs [.ref 0, .ref q, .int (nI 0)] σ (some (.int (nI pa))) σ := by
  obtain ⟨-, hn, hn8, ha, ha4, hy, hy8⟩ := id H
  have hpa : pa ≤ 99 := hw.2.2.2.2.2.2.2.1
  refine Dt.of (by decide) (Nat.le_of_ble_eq_true rfl) fun κ B Rt => ?_
  show Z κ 0 0 σ 0 [(0, .ref 0), (1, .ref q), (2, .int (nI 0))] []
  refine Z.iload_n B dX11_saysAs_0 (x := nI 0) rfl ?_
  refine Z.if_neN B dX11_saysAs_1 (tgt := 9) rfl (by omega) (fun h1 => by exfalso; first | omega | contradiction | simp_all) (fun h1 => ?_)
  refine Z.aload_n B dX11_saysAs_4 (v := .ref q) rfl rfl ?_
  refine Z.getI (σ := σ) B fX11_172_3 dX11_saysAs_5 hw.1 hw.2.1 (by decide) (v := nI pa) hw.2.2.2.2.2.1 ?_
  refine Z.iret B Rt dX11_saysAs_8 (ty := .int) rfl rfl (by decide) (by decide) ?_
  exact ⟨rfl, rfl⟩

theorem t_K_saysAs_4_1 {σ : zSt} (hl : Lay σ) {n a y : Nat} (H : zHd σ n a y) {od : Nat → Nat} (ho : zOd σ a od) {q pa num : Nat} (hw : zWo σ q 4 pa num) : Dt mX11_saysAs [.ref 0, .ref q, .int (nI 1)] σ (some (.int (-nI 2))) (zuX σ 43 (upd (zX σ 43) 2 (zX σ 43 2 + nI 1))) := by
  obtain ⟨-, hn, hn8, ha, ha4, hy, hy8⟩ := id H
  have hpa : pa ≤ 99 := hw.2.2.2.2.2.2.2.1
  refine Dt.of (by decide) (Nat.le_of_ble_eq_true rfl) fun κ B Rt => ?_
  show Z κ 0 0 σ 0 [(0, .ref 0), (1, .ref q), (2, .int (nI 1))] []
  refine Z.iload_n B dX11_saysAs_0 (x := nI 1) rfl ?_
  refine Z.if_neN B dX11_saysAs_1 (tgt := 9) rfl (by omega) (fun h1 => ?_) (fun h1 => by exfalso; first | omega | contradiction | simp_all)
  refine Z.iload_n B dX11_saysAs_9 (x := nI 1) rfl ?_
  refine Z.iconst B dX11_saysAs_10 (v := nI 1) rfl ?_
  refine Z.icmp_neN B dX11_saysAs_11 (tgt := 31) rfl (by omega) (by omega) (fun h11 => by exfalso; first | omega | contradiction | simp_all) (fun h11 => ?_)
  refine Z.aload_n B dX11_saysAs_14 (v := .ref q) rfl rfl ?_
  refine Z.instNo (σ := σ) B (nm := "FourAskOne$Talked") dX11_saysAs_15 (zT_at 323 (by decide +kernel) rfl) hw.1 hw.2.1 (by decide) rfl (by decide +kernel) ?_
  refine Z.if_eqN B dX11_saysAs_18 (tgt := 31) rfl (by omega) (fun h18 => ?_) (fun h18 => by exfalso; first | omega | contradiction | simp_all)
  refine Z.iload_n B dX11_saysAs_31 (x := nI 1) rfl ?_
  refine Z.iconst B dX11_saysAs_32 (v := nI 2) rfl ?_
  refine Z.icmp_neN B dX11_saysAs_33 (tgt := 53) rfl (by omega) (by omega) (fun h33 => ?_) (fun h33 => by exfalso; first | omega | contradiction | simp_all)
  refine Z.iload_n B dX11_saysAs_53 (x := nI 1) rfl ?_
  refine Z.iconst B dX11_saysAs_54 (v := nI 3) rfl ?_
  refine Z.icmp_neN B dX11_saysAs_55 (tgt := 75) rfl (by omega) (by omega) (fun h55 => ?_) (fun h55 => by exfalso; first | omega | contradiction | simp_all)
  refine Z.iload_n B dX11_saysAs_75 (x := nI 1) rfl ?_
  refine Z.iconst B dX11_saysAs_76 (v := nI 4) rfl ?_
  refine Z.icmp_neN B dX11_saysAs_77 (tgt := 104) rfl (by omega) (by omega) (fun h77 => ?_) (fun h77 => by exfalso; first | omega | contradiction | simp_all)
  refine Z.iload_n B dX11_saysAs_104 (x := nI 1) rfl ?_
  refine Z.iconst B dX11_saysAs_105 (v := nI 5) rfl ?_
  refine Z.icmp_neN B dX11_saysAs_106 (tgt := 125) rfl (by omega) (by omega) (fun h106 => ?_) (fun h106 => by exfalso; first | omega | contradiction | simp_all)
  refine Z.iload_n B dX11_saysAs_125 (x := nI 1) rfl ?_
  refine Z.bipush B dX11_saysAs_126 (v := nI 6) rfl ?_
  refine Z.icmp_neN B dX11_saysAs_128 (tgt := 169) rfl (by omega) (by omega) (fun h128 => ?_) (fun h128 => by exfalso; first | omega | contradiction | simp_all)
  refine Z.aload_n B dX11_saysAs_169 (v := .ref 0) rfl rfl ?_
  refine Z.iconst B dX11_saysAs_170 (v := nI 2) rfl ?_
  refine Z.callVI (σ := σ) B (M' := mX11_refuse) (as := [.int (nI 2)]) (st := []) (v := .int (-nI 2)) dX11_saysAs_171 wX11_refuse iX11_refuse sX11_refuse kX11_63 (hl.n (k := 0) (by decide)) (hl.k (k := 0) (by decide)) (by decide) rfl rfl (t_X11_refuse (σ := σ) hl (b := 2) (by decide)) rfl rfl (by decide) (by decide) (Nat.le_of_ble_eq_true rfl) (by decide) (by decide) ?_
  refine Z.eqσ (τ := (zuX σ 43 (upd (zX σ 43) 2 (zX σ 43 2 + nI 1)))) rfl ?_
  refine Z.iret B Rt dX11_saysAs_174 (ty := .int) rfl rfl (by decide) (by decide) ?_
  exact ⟨rfl, rfl⟩

theorem t_K_saysAs_4_2 {σ : zSt} (hl : Lay σ) {n a y : Nat} (H : zHd σ n a y) {od : Nat → Nat} (ho : zOd σ a od) {q pa num : Nat} (hw : zWo σ q 4 pa num) : Dt mX11_saysAs [.ref 0, .ref q, .int (nI 2)] σ (some (.int (-nI 2))) (zuX σ 43 (upd (zX σ 43) 2 (zX σ 43 2 + nI 1))) := by
  obtain ⟨-, hn, hn8, ha, ha4, hy, hy8⟩ := id H
  have hpa : pa ≤ 99 := hw.2.2.2.2.2.2.2.1
  refine Dt.of (by decide) (Nat.le_of_ble_eq_true rfl) fun κ B Rt => ?_
  show Z κ 0 0 σ 0 [(0, .ref 0), (1, .ref q), (2, .int (nI 2))] []
  refine Z.iload_n B dX11_saysAs_0 (x := nI 2) rfl ?_
  refine Z.if_neN B dX11_saysAs_1 (tgt := 9) rfl (by omega) (fun h1 => ?_) (fun h1 => by exfalso; first | omega | contradiction | simp_all)
  refine Z.iload_n B dX11_saysAs_9 (x := nI 2) rfl ?_
  refine Z.iconst B dX11_saysAs_10 (v := nI 1) rfl ?_
  refine Z.icmp_neN B dX11_saysAs_11 (tgt := 31) rfl (by omega) (by omega) (fun h11 => ?_) (fun h11 => by exfalso; first | omega | contradiction | simp_all)
  refine Z.iload_n B dX11_saysAs_31 (x := nI 2) rfl ?_
  refine Z.iconst B dX11_saysAs_32 (v := nI 2) rfl ?_
  refine Z.icmp_neN B dX11_saysAs_33 (tgt := 53) rfl (by omega) (by omega) (fun h33 => by exfalso; first | omega | contradiction | simp_all) (fun h33 => ?_)
  refine Z.aload_n B dX11_saysAs_36 (v := .ref q) rfl rfl ?_
  refine Z.instNo (σ := σ) B (nm := "FourAskOne$Lined") dX11_saysAs_37 (zT_at 334 (by decide +kernel) rfl) hw.1 hw.2.1 (by decide) rfl (by decide +kernel) ?_
  refine Z.if_eqN B dX11_saysAs_40 (tgt := 53) rfl (by omega) (fun h40 => ?_) (fun h40 => by exfalso; first | omega | contradiction | simp_all)
  refine Z.iload_n B dX11_saysAs_53 (x := nI 2) rfl ?_
  refine Z.iconst B dX11_saysAs_54 (v := nI 3) rfl ?_
  refine Z.icmp_neN B dX11_saysAs_55 (tgt := 75) rfl (by omega) (by omega) (fun h55 => ?_) (fun h55 => by exfalso; first | omega | contradiction | simp_all)
  refine Z.iload_n B dX11_saysAs_75 (x := nI 2) rfl ?_
  refine Z.iconst B dX11_saysAs_76 (v := nI 4) rfl ?_
  refine Z.icmp_neN B dX11_saysAs_77 (tgt := 104) rfl (by omega) (by omega) (fun h77 => ?_) (fun h77 => by exfalso; first | omega | contradiction | simp_all)
  refine Z.iload_n B dX11_saysAs_104 (x := nI 2) rfl ?_
  refine Z.iconst B dX11_saysAs_105 (v := nI 5) rfl ?_
  refine Z.icmp_neN B dX11_saysAs_106 (tgt := 125) rfl (by omega) (by omega) (fun h106 => ?_) (fun h106 => by exfalso; first | omega | contradiction | simp_all)
  refine Z.iload_n B dX11_saysAs_125 (x := nI 2) rfl ?_
  refine Z.bipush B dX11_saysAs_126 (v := nI 6) rfl ?_
  refine Z.icmp_neN B dX11_saysAs_128 (tgt := 169) rfl (by omega) (by omega) (fun h128 => ?_) (fun h128 => by exfalso; first | omega | contradiction | simp_all)
  refine Z.aload_n B dX11_saysAs_169 (v := .ref 0) rfl rfl ?_
  refine Z.iconst B dX11_saysAs_170 (v := nI 2) rfl ?_
  refine Z.callVI (σ := σ) B (M' := mX11_refuse) (as := [.int (nI 2)]) (st := []) (v := .int (-nI 2)) dX11_saysAs_171 wX11_refuse iX11_refuse sX11_refuse kX11_63 (hl.n (k := 0) (by decide)) (hl.k (k := 0) (by decide)) (by decide) rfl rfl (t_X11_refuse (σ := σ) hl (b := 2) (by decide)) rfl rfl (by decide) (by decide) (Nat.le_of_ble_eq_true rfl) (by decide) (by decide) ?_
  refine Z.eqσ (τ := (zuX σ 43 (upd (zX σ 43) 2 (zX σ 43 2 + nI 1)))) rfl ?_
  refine Z.iret B Rt dX11_saysAs_174 (ty := .int) rfl rfl (by decide) (by decide) ?_
  exact ⟨rfl, rfl⟩

theorem t_K_saysAs_4_3 {σ : zSt} (hl : Lay σ) {n a y : Nat} (H : zHd σ n a y) {od : Nat → Nat} (ho : zOd σ a od) {q pa num : Nat} (hw : zWo σ q 4 pa num) : Dt mX11_saysAs [.ref 0, .ref q, .int (nI 3)] σ (some (.int (-nI 2))) (zuX σ 43 (upd (zX σ 43) 2 (zX σ 43 2 + nI 1))) := by
  obtain ⟨-, hn, hn8, ha, ha4, hy, hy8⟩ := id H
  have hpa : pa ≤ 99 := hw.2.2.2.2.2.2.2.1
  refine Dt.of (by decide) (Nat.le_of_ble_eq_true rfl) fun κ B Rt => ?_
  show Z κ 0 0 σ 0 [(0, .ref 0), (1, .ref q), (2, .int (nI 3))] []
  refine Z.iload_n B dX11_saysAs_0 (x := nI 3) rfl ?_
  refine Z.if_neN B dX11_saysAs_1 (tgt := 9) rfl (by omega) (fun h1 => ?_) (fun h1 => by exfalso; first | omega | contradiction | simp_all)
  refine Z.iload_n B dX11_saysAs_9 (x := nI 3) rfl ?_
  refine Z.iconst B dX11_saysAs_10 (v := nI 1) rfl ?_
  refine Z.icmp_neN B dX11_saysAs_11 (tgt := 31) rfl (by omega) (by omega) (fun h11 => ?_) (fun h11 => by exfalso; first | omega | contradiction | simp_all)
  refine Z.iload_n B dX11_saysAs_31 (x := nI 3) rfl ?_
  refine Z.iconst B dX11_saysAs_32 (v := nI 2) rfl ?_
  refine Z.icmp_neN B dX11_saysAs_33 (tgt := 53) rfl (by omega) (by omega) (fun h33 => ?_) (fun h33 => by exfalso; first | omega | contradiction | simp_all)
  refine Z.iload_n B dX11_saysAs_53 (x := nI 3) rfl ?_
  refine Z.iconst B dX11_saysAs_54 (v := nI 3) rfl ?_
  refine Z.icmp_neN B dX11_saysAs_55 (tgt := 75) rfl (by omega) (by omega) (fun h55 => by exfalso; first | omega | contradiction | simp_all) (fun h55 => ?_)
  refine Z.aload_n B dX11_saysAs_58 (v := .ref q) rfl rfl ?_
  refine Z.instNo (σ := σ) B (nm := "FourAskOne$Worked") dX11_saysAs_59 (zT_at 336 (by decide +kernel) rfl) hw.1 hw.2.1 (by decide) rfl (by decide +kernel) ?_
  refine Z.if_eqN B dX11_saysAs_62 (tgt := 75) rfl (by omega) (fun h62 => ?_) (fun h62 => by exfalso; first | omega | contradiction | simp_all)
  refine Z.iload_n B dX11_saysAs_75 (x := nI 3) rfl ?_
  refine Z.iconst B dX11_saysAs_76 (v := nI 4) rfl ?_
  refine Z.icmp_neN B dX11_saysAs_77 (tgt := 104) rfl (by omega) (by omega) (fun h77 => ?_) (fun h77 => by exfalso; first | omega | contradiction | simp_all)
  refine Z.iload_n B dX11_saysAs_104 (x := nI 3) rfl ?_
  refine Z.iconst B dX11_saysAs_105 (v := nI 5) rfl ?_
  refine Z.icmp_neN B dX11_saysAs_106 (tgt := 125) rfl (by omega) (by omega) (fun h106 => ?_) (fun h106 => by exfalso; first | omega | contradiction | simp_all)
  refine Z.iload_n B dX11_saysAs_125 (x := nI 3) rfl ?_
  refine Z.bipush B dX11_saysAs_126 (v := nI 6) rfl ?_
  refine Z.icmp_neN B dX11_saysAs_128 (tgt := 169) rfl (by omega) (by omega) (fun h128 => ?_) (fun h128 => by exfalso; first | omega | contradiction | simp_all)
  refine Z.aload_n B dX11_saysAs_169 (v := .ref 0) rfl rfl ?_
  refine Z.iconst B dX11_saysAs_170 (v := nI 2) rfl ?_
  refine Z.callVI (σ := σ) B (M' := mX11_refuse) (as := [.int (nI 2)]) (st := []) (v := .int (-nI 2)) dX11_saysAs_171 wX11_refuse iX11_refuse sX11_refuse kX11_63 (hl.n (k := 0) (by decide)) (hl.k (k := 0) (by decide)) (by decide) rfl rfl (t_X11_refuse (σ := σ) hl (b := 2) (by decide)) rfl rfl (by decide) (by decide) (Nat.le_of_ble_eq_true rfl) (by decide) (by decide) ?_
  refine Z.eqσ (τ := (zuX σ 43 (upd (zX σ 43) 2 (zX σ 43 2 + nI 1)))) rfl ?_
  refine Z.iret B Rt dX11_saysAs_174 (ty := .int) rfl rfl (by decide) (by decide) ?_
  exact ⟨rfl, rfl⟩

theorem t_K_saysAs_4_4 {σ : zSt} (hl : Lay σ) {n a y : Nat} (H : zHd σ n a y) {od : Nat → Nat} (ho : zOd σ a od) {q pa num : Nat} (hw : zWo σ q 4 pa num) : Dt mX11_saysAs [.ref 0, .ref q, .int (nI 4)] σ (some (.int (ct (fun c => decide (cn (zX σ 21) c 6 < nI pa)) n))) σ := by
  obtain ⟨-, hn, hn8, ha, ha4, hy, hy8⟩ := id H
  have hpa : pa ≤ 99 := hw.2.2.2.2.2.2.2.1
  refine Dt.of (by decide) (Nat.le_of_ble_eq_true rfl) fun κ B Rt => ?_
  show Z κ 0 0 σ 0 [(0, .ref 0), (1, .ref q), (2, .int (nI 4))] []
  refine Z.iload_n B dX11_saysAs_0 (x := nI 4) rfl ?_
  refine Z.if_neN B dX11_saysAs_1 (tgt := 9) rfl (by omega) (fun h1 => ?_) (fun h1 => by exfalso; first | omega | contradiction | simp_all)
  refine Z.iload_n B dX11_saysAs_9 (x := nI 4) rfl ?_
  refine Z.iconst B dX11_saysAs_10 (v := nI 1) rfl ?_
  refine Z.icmp_neN B dX11_saysAs_11 (tgt := 31) rfl (by omega) (by omega) (fun h11 => ?_) (fun h11 => by exfalso; first | omega | contradiction | simp_all)
  refine Z.iload_n B dX11_saysAs_31 (x := nI 4) rfl ?_
  refine Z.iconst B dX11_saysAs_32 (v := nI 2) rfl ?_
  refine Z.icmp_neN B dX11_saysAs_33 (tgt := 53) rfl (by omega) (by omega) (fun h33 => ?_) (fun h33 => by exfalso; first | omega | contradiction | simp_all)
  refine Z.iload_n B dX11_saysAs_53 (x := nI 4) rfl ?_
  refine Z.iconst B dX11_saysAs_54 (v := nI 3) rfl ?_
  refine Z.icmp_neN B dX11_saysAs_55 (tgt := 75) rfl (by omega) (by omega) (fun h55 => ?_) (fun h55 => by exfalso; first | omega | contradiction | simp_all)
  refine Z.iload_n B dX11_saysAs_75 (x := nI 4) rfl ?_
  refine Z.iconst B dX11_saysAs_76 (v := nI 4) rfl ?_
  refine Z.icmp_neN B dX11_saysAs_77 (tgt := 104) rfl (by omega) (by omega) (fun h77 => by exfalso; first | omega | contradiction | simp_all) (fun h77 => ?_)
  refine Z.aload_n B dX11_saysAs_80 (v := .ref q) rfl rfl ?_
  refine Z.instY (σ := σ) B (nm := "FourAskOne$Lettered") dX11_saysAs_81 (zT_at 341 (by decide +kernel) rfl) hw.1 hw.2.1 (by decide) rfl (Or.inr rfl) ?_
  refine Z.if_eqN B dX11_saysAs_84 (tgt := 104) rfl (by omega) (fun h84 => by exfalso; first | omega | contradiction | simp_all) (fun h84 => ?_)
  refine Z.aload_n B dX11_saysAs_87 (v := .ref q) rfl rfl ?_
  refine Z.cast (σ := σ) B (nm := "FourAskOne$Lettered") dX11_saysAs_88 (zT_at 341 (by decide +kernel) rfl) hw.1 hw.2.1 (by decide) rfl (Or.inr rfl) ?_
  refine Z.astore_n B dX11_saysAs_91 (by decide) rfl (L' := [(0, .ref 0), (1, .ref q), (2, .int (nI 4)), (3, .ref q)]) rfl ?_
  refine Z.aload_n B dX11_saysAs_92 (v := .ref 0) rfl rfl ?_
  refine Z.getR (σ := σ) B fX11_28_11 dX11_saysAs_93 (hl.n (k := 0) (by decide)) (hl.k (k := 0) (by decide)) (by decide) (j := 20) (hl.r (k := 0) (f := 2) (by decide) (by decide)) ?_
  refine Z.aload_n B dX11_saysAs_96 (v := .ref q) rfl rfl ?_
  refine Z.getI (σ := σ) B fX11_322_3 dX11_saysAs_97 hw.1 hw.2.1 (by decide) (v := nI pa) hw.2.2.2.2.2.1 ?_
  refine Z.callVI (σ := σ) B (M' := mX1_sumsBelow) (as := [.int (nI pa)]) (st := []) (v := .int (ct (fun c => decide (cn (zX σ 21) c 6 < nI pa)) n)) dX11_saysAs_100 wX1_sumsBelow iX1_sumsBelow sX1_sumsBelow kX11_323 (hl.n (k := 20) (by decide)) (hl.k (k := 20) (by decide)) (by decide) rfl rfl (t_X1_sumsBelow (σ := σ) H) rfl rfl (by decide) (by decide) (Nat.le_of_ble_eq_true rfl) (by decide) (by decide) ?_
  refine Z.iret B Rt dX11_saysAs_103 (ty := .int) rfl rfl (by decide) (by decide) ?_
  exact ⟨rfl, rfl⟩

theorem t_K_saysAs_4_5 {σ : zSt} (hl : Lay σ) {n a y : Nat} (H : zHd σ n a y) {od : Nat → Nat} (ho : zOd σ a od) {q pa num : Nat} (hw : zWo σ q 4 pa num) : Dt mX11_saysAs [.ref 0, .ref q, .int (nI 5)] σ (some (.int (-nI 2))) (zuX σ 43 (upd (zX σ 43) 2 (zX σ 43 2 + nI 1))) := by
  obtain ⟨-, hn, hn8, ha, ha4, hy, hy8⟩ := id H
  have hpa : pa ≤ 99 := hw.2.2.2.2.2.2.2.1
  refine Dt.of (by decide) (Nat.le_of_ble_eq_true rfl) fun κ B Rt => ?_
  show Z κ 0 0 σ 0 [(0, .ref 0), (1, .ref q), (2, .int (nI 5))] []
  refine Z.iload_n B dX11_saysAs_0 (x := nI 5) rfl ?_
  refine Z.if_neN B dX11_saysAs_1 (tgt := 9) rfl (by omega) (fun h1 => ?_) (fun h1 => by exfalso; first | omega | contradiction | simp_all)
  refine Z.iload_n B dX11_saysAs_9 (x := nI 5) rfl ?_
  refine Z.iconst B dX11_saysAs_10 (v := nI 1) rfl ?_
  refine Z.icmp_neN B dX11_saysAs_11 (tgt := 31) rfl (by omega) (by omega) (fun h11 => ?_) (fun h11 => by exfalso; first | omega | contradiction | simp_all)
  refine Z.iload_n B dX11_saysAs_31 (x := nI 5) rfl ?_
  refine Z.iconst B dX11_saysAs_32 (v := nI 2) rfl ?_
  refine Z.icmp_neN B dX11_saysAs_33 (tgt := 53) rfl (by omega) (by omega) (fun h33 => ?_) (fun h33 => by exfalso; first | omega | contradiction | simp_all)
  refine Z.iload_n B dX11_saysAs_53 (x := nI 5) rfl ?_
  refine Z.iconst B dX11_saysAs_54 (v := nI 3) rfl ?_
  refine Z.icmp_neN B dX11_saysAs_55 (tgt := 75) rfl (by omega) (by omega) (fun h55 => ?_) (fun h55 => by exfalso; first | omega | contradiction | simp_all)
  refine Z.iload_n B dX11_saysAs_75 (x := nI 5) rfl ?_
  refine Z.iconst B dX11_saysAs_76 (v := nI 4) rfl ?_
  refine Z.icmp_neN B dX11_saysAs_77 (tgt := 104) rfl (by omega) (by omega) (fun h77 => ?_) (fun h77 => by exfalso; first | omega | contradiction | simp_all)
  refine Z.iload_n B dX11_saysAs_104 (x := nI 5) rfl ?_
  refine Z.iconst B dX11_saysAs_105 (v := nI 5) rfl ?_
  refine Z.icmp_neN B dX11_saysAs_106 (tgt := 125) rfl (by omega) (by omega) (fun h106 => by exfalso; first | omega | contradiction | simp_all) (fun h106 => ?_)
  refine Z.aload_n B dX11_saysAs_109 (v := .ref q) rfl rfl ?_
  refine Z.instNo (σ := σ) B (nm := "FourAskOne$Marked") dX11_saysAs_110 (zT_at 350 (by decide +kernel) rfl) hw.1 hw.2.1 (by decide) rfl (by decide +kernel) ?_
  refine Z.if_eqN B dX11_saysAs_113 (tgt := 125) rfl (by omega) (fun h113 => ?_) (fun h113 => by exfalso; first | omega | contradiction | simp_all)
  refine Z.iload_n B dX11_saysAs_125 (x := nI 5) rfl ?_
  refine Z.bipush B dX11_saysAs_126 (v := nI 6) rfl ?_
  refine Z.icmp_neN B dX11_saysAs_128 (tgt := 169) rfl (by omega) (by omega) (fun h128 => ?_) (fun h128 => by exfalso; first | omega | contradiction | simp_all)
  refine Z.aload_n B dX11_saysAs_169 (v := .ref 0) rfl rfl ?_
  refine Z.iconst B dX11_saysAs_170 (v := nI 2) rfl ?_
  refine Z.callVI (σ := σ) B (M' := mX11_refuse) (as := [.int (nI 2)]) (st := []) (v := .int (-nI 2)) dX11_saysAs_171 wX11_refuse iX11_refuse sX11_refuse kX11_63 (hl.n (k := 0) (by decide)) (hl.k (k := 0) (by decide)) (by decide) rfl rfl (t_X11_refuse (σ := σ) hl (b := 2) (by decide)) rfl rfl (by decide) (by decide) (Nat.le_of_ble_eq_true rfl) (by decide) (by decide) ?_
  refine Z.eqσ (τ := (zuX σ 43 (upd (zX σ 43) 2 (zX σ 43 2 + nI 1)))) rfl ?_
  refine Z.iret B Rt dX11_saysAs_174 (ty := .int) rfl rfl (by decide) (by decide) ?_
  exact ⟨rfl, rfl⟩

theorem t_K_saysAs_4_6 {σ : zSt} (hl : Lay σ) {n a y : Nat} (H : zHd σ n a y) {od : Nat → Nat} (ho : zOd σ a od) {q pa num : Nat} (hw : zWo σ q 4 pa num) : Dt mX11_saysAs [.ref 0, .ref q, .int (nI 6)] σ (some (.int (-nI 2))) (zuX σ 43 (upd (zX σ 43) 2 (zX σ 43 2 + nI 1))) := by
  obtain ⟨-, hn, hn8, ha, ha4, hy, hy8⟩ := id H
  have hpa : pa ≤ 99 := hw.2.2.2.2.2.2.2.1
  refine Dt.of (by decide) (Nat.le_of_ble_eq_true rfl) fun κ B Rt => ?_
  show Z κ 0 0 σ 0 [(0, .ref 0), (1, .ref q), (2, .int (nI 6))] []
  refine Z.iload_n B dX11_saysAs_0 (x := nI 6) rfl ?_
  refine Z.if_neN B dX11_saysAs_1 (tgt := 9) rfl (by omega) (fun h1 => ?_) (fun h1 => by exfalso; first | omega | contradiction | simp_all)
  refine Z.iload_n B dX11_saysAs_9 (x := nI 6) rfl ?_
  refine Z.iconst B dX11_saysAs_10 (v := nI 1) rfl ?_
  refine Z.icmp_neN B dX11_saysAs_11 (tgt := 31) rfl (by omega) (by omega) (fun h11 => ?_) (fun h11 => by exfalso; first | omega | contradiction | simp_all)
  refine Z.iload_n B dX11_saysAs_31 (x := nI 6) rfl ?_
  refine Z.iconst B dX11_saysAs_32 (v := nI 2) rfl ?_
  refine Z.icmp_neN B dX11_saysAs_33 (tgt := 53) rfl (by omega) (by omega) (fun h33 => ?_) (fun h33 => by exfalso; first | omega | contradiction | simp_all)
  refine Z.iload_n B dX11_saysAs_53 (x := nI 6) rfl ?_
  refine Z.iconst B dX11_saysAs_54 (v := nI 3) rfl ?_
  refine Z.icmp_neN B dX11_saysAs_55 (tgt := 75) rfl (by omega) (by omega) (fun h55 => ?_) (fun h55 => by exfalso; first | omega | contradiction | simp_all)
  refine Z.iload_n B dX11_saysAs_75 (x := nI 6) rfl ?_
  refine Z.iconst B dX11_saysAs_76 (v := nI 4) rfl ?_
  refine Z.icmp_neN B dX11_saysAs_77 (tgt := 104) rfl (by omega) (by omega) (fun h77 => ?_) (fun h77 => by exfalso; first | omega | contradiction | simp_all)
  refine Z.iload_n B dX11_saysAs_104 (x := nI 6) rfl ?_
  refine Z.iconst B dX11_saysAs_105 (v := nI 5) rfl ?_
  refine Z.icmp_neN B dX11_saysAs_106 (tgt := 125) rfl (by omega) (by omega) (fun h106 => ?_) (fun h106 => by exfalso; first | omega | contradiction | simp_all)
  refine Z.iload_n B dX11_saysAs_125 (x := nI 6) rfl ?_
  refine Z.bipush B dX11_saysAs_126 (v := nI 6) rfl ?_
  refine Z.icmp_neN B dX11_saysAs_128 (tgt := 169) rfl (by omega) (by omega) (fun h128 => by exfalso; first | omega | contradiction | simp_all) (fun h128 => ?_)
  refine Z.aload_n B dX11_saysAs_131 (v := .ref q) rfl rfl ?_
  refine Z.instNo (σ := σ) B (nm := "FourAskOne$Blind") dX11_saysAs_132 (zT_at 363 (by decide +kernel) rfl) hw.1 hw.2.1 (by decide) rfl (by decide +kernel) ?_
  refine Z.if_eqN B dX11_saysAs_135 (tgt := 169) rfl (by omega) (fun h135 => ?_) (fun h135 => by exfalso; first | omega | contradiction | simp_all)
  refine Z.aload_n B dX11_saysAs_169 (v := .ref 0) rfl rfl ?_
  refine Z.iconst B dX11_saysAs_170 (v := nI 2) rfl ?_
  refine Z.callVI (σ := σ) B (M' := mX11_refuse) (as := [.int (nI 2)]) (st := []) (v := .int (-nI 2)) dX11_saysAs_171 wX11_refuse iX11_refuse sX11_refuse kX11_63 (hl.n (k := 0) (by decide)) (hl.k (k := 0) (by decide)) (by decide) rfl rfl (t_X11_refuse (σ := σ) hl (b := 2) (by decide)) rfl rfl (by decide) (by decide) (Nat.le_of_ble_eq_true rfl) (by decide) (by decide) ?_
  refine Z.eqσ (τ := (zuX σ 43 (upd (zX σ 43) 2 (zX σ 43 2 + nI 1)))) rfl ?_
  refine Z.iret B Rt dX11_saysAs_174 (ty := .int) rfl rfl (by decide) (by decide) ?_
  exact ⟨rfl, rfl⟩

theorem t_K_saysAs_5_0 {σ : zSt} (hl : Lay σ) {n a y : Nat} (H : zHd σ n a y) {od : Nat → Nat} (ho : zOd σ a od) {q pa num : Nat} (hw : zWo σ q 5 pa num) : Dt mX11_saysAs [.ref 0, .ref q, .int (nI 0)] σ (some (.int (nI pa))) σ := by
  obtain ⟨-, hn, hn8, ha, ha4, hy, hy8⟩ := id H
  have hpa : pa ≤ 99 := hw.2.2.2.2.2.2.2.1
  refine Dt.of (by decide) (Nat.le_of_ble_eq_true rfl) fun κ B Rt => ?_
  show Z κ 0 0 σ 0 [(0, .ref 0), (1, .ref q), (2, .int (nI 0))] []
  refine Z.iload_n B dX11_saysAs_0 (x := nI 0) rfl ?_
  refine Z.if_neN B dX11_saysAs_1 (tgt := 9) rfl (by omega) (fun h1 => by exfalso; first | omega | contradiction | simp_all) (fun h1 => ?_)
  refine Z.aload_n B dX11_saysAs_4 (v := .ref q) rfl rfl ?_
  refine Z.getI (σ := σ) B fX11_172_5 dX11_saysAs_5 hw.1 hw.2.1 (by decide) (v := nI pa) hw.2.2.2.2.2.1 ?_
  refine Z.iret B Rt dX11_saysAs_8 (ty := .int) rfl rfl (by decide) (by decide) ?_
  exact ⟨rfl, rfl⟩

theorem t_K_saysAs_5_1 {σ : zSt} (hl : Lay σ) {n a y : Nat} (H : zHd σ n a y) {od : Nat → Nat} (ho : zOd σ a od) {q pa num : Nat} (hw : zWo σ q 5 pa num) : Dt mX11_saysAs [.ref 0, .ref q, .int (nI 1)] σ (some (.int (-nI 2))) (zuX σ 43 (upd (zX σ 43) 2 (zX σ 43 2 + nI 1))) := by
  obtain ⟨-, hn, hn8, ha, ha4, hy, hy8⟩ := id H
  have hpa : pa ≤ 99 := hw.2.2.2.2.2.2.2.1
  refine Dt.of (by decide) (Nat.le_of_ble_eq_true rfl) fun κ B Rt => ?_
  show Z κ 0 0 σ 0 [(0, .ref 0), (1, .ref q), (2, .int (nI 1))] []
  refine Z.iload_n B dX11_saysAs_0 (x := nI 1) rfl ?_
  refine Z.if_neN B dX11_saysAs_1 (tgt := 9) rfl (by omega) (fun h1 => ?_) (fun h1 => by exfalso; first | omega | contradiction | simp_all)
  refine Z.iload_n B dX11_saysAs_9 (x := nI 1) rfl ?_
  refine Z.iconst B dX11_saysAs_10 (v := nI 1) rfl ?_
  refine Z.icmp_neN B dX11_saysAs_11 (tgt := 31) rfl (by omega) (by omega) (fun h11 => by exfalso; first | omega | contradiction | simp_all) (fun h11 => ?_)
  refine Z.aload_n B dX11_saysAs_14 (v := .ref q) rfl rfl ?_
  refine Z.instNo (σ := σ) B (nm := "FourAskOne$Talked") dX11_saysAs_15 (zT_at 323 (by decide +kernel) rfl) hw.1 hw.2.1 (by decide) rfl (by decide +kernel) ?_
  refine Z.if_eqN B dX11_saysAs_18 (tgt := 31) rfl (by omega) (fun h18 => ?_) (fun h18 => by exfalso; first | omega | contradiction | simp_all)
  refine Z.iload_n B dX11_saysAs_31 (x := nI 1) rfl ?_
  refine Z.iconst B dX11_saysAs_32 (v := nI 2) rfl ?_
  refine Z.icmp_neN B dX11_saysAs_33 (tgt := 53) rfl (by omega) (by omega) (fun h33 => ?_) (fun h33 => by exfalso; first | omega | contradiction | simp_all)
  refine Z.iload_n B dX11_saysAs_53 (x := nI 1) rfl ?_
  refine Z.iconst B dX11_saysAs_54 (v := nI 3) rfl ?_
  refine Z.icmp_neN B dX11_saysAs_55 (tgt := 75) rfl (by omega) (by omega) (fun h55 => ?_) (fun h55 => by exfalso; first | omega | contradiction | simp_all)
  refine Z.iload_n B dX11_saysAs_75 (x := nI 1) rfl ?_
  refine Z.iconst B dX11_saysAs_76 (v := nI 4) rfl ?_
  refine Z.icmp_neN B dX11_saysAs_77 (tgt := 104) rfl (by omega) (by omega) (fun h77 => ?_) (fun h77 => by exfalso; first | omega | contradiction | simp_all)
  refine Z.iload_n B dX11_saysAs_104 (x := nI 1) rfl ?_
  refine Z.iconst B dX11_saysAs_105 (v := nI 5) rfl ?_
  refine Z.icmp_neN B dX11_saysAs_106 (tgt := 125) rfl (by omega) (by omega) (fun h106 => ?_) (fun h106 => by exfalso; first | omega | contradiction | simp_all)
  refine Z.iload_n B dX11_saysAs_125 (x := nI 1) rfl ?_
  refine Z.bipush B dX11_saysAs_126 (v := nI 6) rfl ?_
  refine Z.icmp_neN B dX11_saysAs_128 (tgt := 169) rfl (by omega) (by omega) (fun h128 => ?_) (fun h128 => by exfalso; first | omega | contradiction | simp_all)
  refine Z.aload_n B dX11_saysAs_169 (v := .ref 0) rfl rfl ?_
  refine Z.iconst B dX11_saysAs_170 (v := nI 2) rfl ?_
  refine Z.callVI (σ := σ) B (M' := mX11_refuse) (as := [.int (nI 2)]) (st := []) (v := .int (-nI 2)) dX11_saysAs_171 wX11_refuse iX11_refuse sX11_refuse kX11_63 (hl.n (k := 0) (by decide)) (hl.k (k := 0) (by decide)) (by decide) rfl rfl (t_X11_refuse (σ := σ) hl (b := 2) (by decide)) rfl rfl (by decide) (by decide) (Nat.le_of_ble_eq_true rfl) (by decide) (by decide) ?_
  refine Z.eqσ (τ := (zuX σ 43 (upd (zX σ 43) 2 (zX σ 43 2 + nI 1)))) rfl ?_
  refine Z.iret B Rt dX11_saysAs_174 (ty := .int) rfl rfl (by decide) (by decide) ?_
  exact ⟨rfl, rfl⟩

theorem t_K_saysAs_5_2 {σ : zSt} (hl : Lay σ) {n a y : Nat} (H : zHd σ n a y) {od : Nat → Nat} (ho : zOd σ a od) {q pa num : Nat} (hw : zWo σ q 5 pa num) : Dt mX11_saysAs [.ref 0, .ref q, .int (nI 2)] σ (some (.int (-nI 2))) (zuX σ 43 (upd (zX σ 43) 2 (zX σ 43 2 + nI 1))) := by
  obtain ⟨-, hn, hn8, ha, ha4, hy, hy8⟩ := id H
  have hpa : pa ≤ 99 := hw.2.2.2.2.2.2.2.1
  refine Dt.of (by decide) (Nat.le_of_ble_eq_true rfl) fun κ B Rt => ?_
  show Z κ 0 0 σ 0 [(0, .ref 0), (1, .ref q), (2, .int (nI 2))] []
  refine Z.iload_n B dX11_saysAs_0 (x := nI 2) rfl ?_
  refine Z.if_neN B dX11_saysAs_1 (tgt := 9) rfl (by omega) (fun h1 => ?_) (fun h1 => by exfalso; first | omega | contradiction | simp_all)
  refine Z.iload_n B dX11_saysAs_9 (x := nI 2) rfl ?_
  refine Z.iconst B dX11_saysAs_10 (v := nI 1) rfl ?_
  refine Z.icmp_neN B dX11_saysAs_11 (tgt := 31) rfl (by omega) (by omega) (fun h11 => ?_) (fun h11 => by exfalso; first | omega | contradiction | simp_all)
  refine Z.iload_n B dX11_saysAs_31 (x := nI 2) rfl ?_
  refine Z.iconst B dX11_saysAs_32 (v := nI 2) rfl ?_
  refine Z.icmp_neN B dX11_saysAs_33 (tgt := 53) rfl (by omega) (by omega) (fun h33 => by exfalso; first | omega | contradiction | simp_all) (fun h33 => ?_)
  refine Z.aload_n B dX11_saysAs_36 (v := .ref q) rfl rfl ?_
  refine Z.instNo (σ := σ) B (nm := "FourAskOne$Lined") dX11_saysAs_37 (zT_at 334 (by decide +kernel) rfl) hw.1 hw.2.1 (by decide) rfl (by decide +kernel) ?_
  refine Z.if_eqN B dX11_saysAs_40 (tgt := 53) rfl (by omega) (fun h40 => ?_) (fun h40 => by exfalso; first | omega | contradiction | simp_all)
  refine Z.iload_n B dX11_saysAs_53 (x := nI 2) rfl ?_
  refine Z.iconst B dX11_saysAs_54 (v := nI 3) rfl ?_
  refine Z.icmp_neN B dX11_saysAs_55 (tgt := 75) rfl (by omega) (by omega) (fun h55 => ?_) (fun h55 => by exfalso; first | omega | contradiction | simp_all)
  refine Z.iload_n B dX11_saysAs_75 (x := nI 2) rfl ?_
  refine Z.iconst B dX11_saysAs_76 (v := nI 4) rfl ?_
  refine Z.icmp_neN B dX11_saysAs_77 (tgt := 104) rfl (by omega) (by omega) (fun h77 => ?_) (fun h77 => by exfalso; first | omega | contradiction | simp_all)
  refine Z.iload_n B dX11_saysAs_104 (x := nI 2) rfl ?_
  refine Z.iconst B dX11_saysAs_105 (v := nI 5) rfl ?_
  refine Z.icmp_neN B dX11_saysAs_106 (tgt := 125) rfl (by omega) (by omega) (fun h106 => ?_) (fun h106 => by exfalso; first | omega | contradiction | simp_all)
  refine Z.iload_n B dX11_saysAs_125 (x := nI 2) rfl ?_
  refine Z.bipush B dX11_saysAs_126 (v := nI 6) rfl ?_
  refine Z.icmp_neN B dX11_saysAs_128 (tgt := 169) rfl (by omega) (by omega) (fun h128 => ?_) (fun h128 => by exfalso; first | omega | contradiction | simp_all)
  refine Z.aload_n B dX11_saysAs_169 (v := .ref 0) rfl rfl ?_
  refine Z.iconst B dX11_saysAs_170 (v := nI 2) rfl ?_
  refine Z.callVI (σ := σ) B (M' := mX11_refuse) (as := [.int (nI 2)]) (st := []) (v := .int (-nI 2)) dX11_saysAs_171 wX11_refuse iX11_refuse sX11_refuse kX11_63 (hl.n (k := 0) (by decide)) (hl.k (k := 0) (by decide)) (by decide) rfl rfl (t_X11_refuse (σ := σ) hl (b := 2) (by decide)) rfl rfl (by decide) (by decide) (Nat.le_of_ble_eq_true rfl) (by decide) (by decide) ?_
  refine Z.eqσ (τ := (zuX σ 43 (upd (zX σ 43) 2 (zX σ 43 2 + nI 1)))) rfl ?_
  refine Z.iret B Rt dX11_saysAs_174 (ty := .int) rfl rfl (by decide) (by decide) ?_
  exact ⟨rfl, rfl⟩

theorem t_K_saysAs_5_3 {σ : zSt} (hl : Lay σ) {n a y : Nat} (H : zHd σ n a y) {od : Nat → Nat} (ho : zOd σ a od) {q pa num : Nat} (hw : zWo σ q 5 pa num) : Dt mX11_saysAs [.ref 0, .ref q, .int (nI 3)] σ (some (.int (-nI 2))) (zuX σ 43 (upd (zX σ 43) 2 (zX σ 43 2 + nI 1))) := by
  obtain ⟨-, hn, hn8, ha, ha4, hy, hy8⟩ := id H
  have hpa : pa ≤ 99 := hw.2.2.2.2.2.2.2.1
  refine Dt.of (by decide) (Nat.le_of_ble_eq_true rfl) fun κ B Rt => ?_
  show Z κ 0 0 σ 0 [(0, .ref 0), (1, .ref q), (2, .int (nI 3))] []
  refine Z.iload_n B dX11_saysAs_0 (x := nI 3) rfl ?_
  refine Z.if_neN B dX11_saysAs_1 (tgt := 9) rfl (by omega) (fun h1 => ?_) (fun h1 => by exfalso; first | omega | contradiction | simp_all)
  refine Z.iload_n B dX11_saysAs_9 (x := nI 3) rfl ?_
  refine Z.iconst B dX11_saysAs_10 (v := nI 1) rfl ?_
  refine Z.icmp_neN B dX11_saysAs_11 (tgt := 31) rfl (by omega) (by omega) (fun h11 => ?_) (fun h11 => by exfalso; first | omega | contradiction | simp_all)
  refine Z.iload_n B dX11_saysAs_31 (x := nI 3) rfl ?_
  refine Z.iconst B dX11_saysAs_32 (v := nI 2) rfl ?_
  refine Z.icmp_neN B dX11_saysAs_33 (tgt := 53) rfl (by omega) (by omega) (fun h33 => ?_) (fun h33 => by exfalso; first | omega | contradiction | simp_all)
  refine Z.iload_n B dX11_saysAs_53 (x := nI 3) rfl ?_
  refine Z.iconst B dX11_saysAs_54 (v := nI 3) rfl ?_
  refine Z.icmp_neN B dX11_saysAs_55 (tgt := 75) rfl (by omega) (by omega) (fun h55 => by exfalso; first | omega | contradiction | simp_all) (fun h55 => ?_)
  refine Z.aload_n B dX11_saysAs_58 (v := .ref q) rfl rfl ?_
  refine Z.instNo (σ := σ) B (nm := "FourAskOne$Worked") dX11_saysAs_59 (zT_at 336 (by decide +kernel) rfl) hw.1 hw.2.1 (by decide) rfl (by decide +kernel) ?_
  refine Z.if_eqN B dX11_saysAs_62 (tgt := 75) rfl (by omega) (fun h62 => ?_) (fun h62 => by exfalso; first | omega | contradiction | simp_all)
  refine Z.iload_n B dX11_saysAs_75 (x := nI 3) rfl ?_
  refine Z.iconst B dX11_saysAs_76 (v := nI 4) rfl ?_
  refine Z.icmp_neN B dX11_saysAs_77 (tgt := 104) rfl (by omega) (by omega) (fun h77 => ?_) (fun h77 => by exfalso; first | omega | contradiction | simp_all)
  refine Z.iload_n B dX11_saysAs_104 (x := nI 3) rfl ?_
  refine Z.iconst B dX11_saysAs_105 (v := nI 5) rfl ?_
  refine Z.icmp_neN B dX11_saysAs_106 (tgt := 125) rfl (by omega) (by omega) (fun h106 => ?_) (fun h106 => by exfalso; first | omega | contradiction | simp_all)
  refine Z.iload_n B dX11_saysAs_125 (x := nI 3) rfl ?_
  refine Z.bipush B dX11_saysAs_126 (v := nI 6) rfl ?_
  refine Z.icmp_neN B dX11_saysAs_128 (tgt := 169) rfl (by omega) (by omega) (fun h128 => ?_) (fun h128 => by exfalso; first | omega | contradiction | simp_all)
  refine Z.aload_n B dX11_saysAs_169 (v := .ref 0) rfl rfl ?_
  refine Z.iconst B dX11_saysAs_170 (v := nI 2) rfl ?_
  refine Z.callVI (σ := σ) B (M' := mX11_refuse) (as := [.int (nI 2)]) (st := []) (v := .int (-nI 2)) dX11_saysAs_171 wX11_refuse iX11_refuse sX11_refuse kX11_63 (hl.n (k := 0) (by decide)) (hl.k (k := 0) (by decide)) (by decide) rfl rfl (t_X11_refuse (σ := σ) hl (b := 2) (by decide)) rfl rfl (by decide) (by decide) (Nat.le_of_ble_eq_true rfl) (by decide) (by decide) ?_
  refine Z.eqσ (τ := (zuX σ 43 (upd (zX σ 43) 2 (zX σ 43 2 + nI 1)))) rfl ?_
  refine Z.iret B Rt dX11_saysAs_174 (ty := .int) rfl rfl (by decide) (by decide) ?_
  exact ⟨rfl, rfl⟩

theorem t_K_saysAs_5_4 {σ : zSt} (hl : Lay σ) {n a y : Nat} (H : zHd σ n a y) {od : Nat → Nat} (ho : zOd σ a od) {q pa num : Nat} (hw : zWo σ q 5 pa num) : Dt mX11_saysAs [.ref 0, .ref q, .int (nI 4)] σ (some (.int (-nI 2))) (zuX σ 43 (upd (zX σ 43) 2 (zX σ 43 2 + nI 1))) := by
  obtain ⟨-, hn, hn8, ha, ha4, hy, hy8⟩ := id H
  have hpa : pa ≤ 99 := hw.2.2.2.2.2.2.2.1
  refine Dt.of (by decide) (Nat.le_of_ble_eq_true rfl) fun κ B Rt => ?_
  show Z κ 0 0 σ 0 [(0, .ref 0), (1, .ref q), (2, .int (nI 4))] []
  refine Z.iload_n B dX11_saysAs_0 (x := nI 4) rfl ?_
  refine Z.if_neN B dX11_saysAs_1 (tgt := 9) rfl (by omega) (fun h1 => ?_) (fun h1 => by exfalso; first | omega | contradiction | simp_all)
  refine Z.iload_n B dX11_saysAs_9 (x := nI 4) rfl ?_
  refine Z.iconst B dX11_saysAs_10 (v := nI 1) rfl ?_
  refine Z.icmp_neN B dX11_saysAs_11 (tgt := 31) rfl (by omega) (by omega) (fun h11 => ?_) (fun h11 => by exfalso; first | omega | contradiction | simp_all)
  refine Z.iload_n B dX11_saysAs_31 (x := nI 4) rfl ?_
  refine Z.iconst B dX11_saysAs_32 (v := nI 2) rfl ?_
  refine Z.icmp_neN B dX11_saysAs_33 (tgt := 53) rfl (by omega) (by omega) (fun h33 => ?_) (fun h33 => by exfalso; first | omega | contradiction | simp_all)
  refine Z.iload_n B dX11_saysAs_53 (x := nI 4) rfl ?_
  refine Z.iconst B dX11_saysAs_54 (v := nI 3) rfl ?_
  refine Z.icmp_neN B dX11_saysAs_55 (tgt := 75) rfl (by omega) (by omega) (fun h55 => ?_) (fun h55 => by exfalso; first | omega | contradiction | simp_all)
  refine Z.iload_n B dX11_saysAs_75 (x := nI 4) rfl ?_
  refine Z.iconst B dX11_saysAs_76 (v := nI 4) rfl ?_
  refine Z.icmp_neN B dX11_saysAs_77 (tgt := 104) rfl (by omega) (by omega) (fun h77 => by exfalso; first | omega | contradiction | simp_all) (fun h77 => ?_)
  refine Z.aload_n B dX11_saysAs_80 (v := .ref q) rfl rfl ?_
  refine Z.instNo (σ := σ) B (nm := "FourAskOne$Lettered") dX11_saysAs_81 (zT_at 341 (by decide +kernel) rfl) hw.1 hw.2.1 (by decide) rfl (by decide +kernel) ?_
  refine Z.if_eqN B dX11_saysAs_84 (tgt := 104) rfl (by omega) (fun h84 => ?_) (fun h84 => by exfalso; first | omega | contradiction | simp_all)
  refine Z.iload_n B dX11_saysAs_104 (x := nI 4) rfl ?_
  refine Z.iconst B dX11_saysAs_105 (v := nI 5) rfl ?_
  refine Z.icmp_neN B dX11_saysAs_106 (tgt := 125) rfl (by omega) (by omega) (fun h106 => ?_) (fun h106 => by exfalso; first | omega | contradiction | simp_all)
  refine Z.iload_n B dX11_saysAs_125 (x := nI 4) rfl ?_
  refine Z.bipush B dX11_saysAs_126 (v := nI 6) rfl ?_
  refine Z.icmp_neN B dX11_saysAs_128 (tgt := 169) rfl (by omega) (by omega) (fun h128 => ?_) (fun h128 => by exfalso; first | omega | contradiction | simp_all)
  refine Z.aload_n B dX11_saysAs_169 (v := .ref 0) rfl rfl ?_
  refine Z.iconst B dX11_saysAs_170 (v := nI 2) rfl ?_
  refine Z.callVI (σ := σ) B (M' := mX11_refuse) (as := [.int (nI 2)]) (st := []) (v := .int (-nI 2)) dX11_saysAs_171 wX11_refuse iX11_refuse sX11_refuse kX11_63 (hl.n (k := 0) (by decide)) (hl.k (k := 0) (by decide)) (by decide) rfl rfl (t_X11_refuse (σ := σ) hl (b := 2) (by decide)) rfl rfl (by decide) (by decide) (Nat.le_of_ble_eq_true rfl) (by decide) (by decide) ?_
  refine Z.eqσ (τ := (zuX σ 43 (upd (zX σ 43) 2 (zX σ 43 2 + nI 1)))) rfl ?_
  refine Z.iret B Rt dX11_saysAs_174 (ty := .int) rfl rfl (by decide) (by decide) ?_
  exact ⟨rfl, rfl⟩

theorem t_K_saysAs_5_5 {σ : zSt} (hl : Lay σ) {n a y : Nat} (H : zHd σ n a y) {od : Nat → Nat} (ho : zOd σ a od) {q pa num : Nat} (hw : zWo σ q 5 pa num) : Dt mX11_saysAs [.ref 0, .ref q, .int (nI 5)] σ (some (.int (gI (fun c => cn (zX σ 21) c 5) n))) (zuX σ 25 (fi n (fun c => cn (zX σ 21) c 5) (zX σ 25))) := by
  obtain ⟨-, hn, hn8, ha, ha4, hy, hy8⟩ := id H
  have hpa : pa ≤ 99 := hw.2.2.2.2.2.2.2.1
  refine Dt.of (by decide) (Nat.le_of_ble_eq_true rfl) fun κ B Rt => ?_
  show Z κ 0 0 σ 0 [(0, .ref 0), (1, .ref q), (2, .int (nI 5))] []
  refine Z.iload_n B dX11_saysAs_0 (x := nI 5) rfl ?_
  refine Z.if_neN B dX11_saysAs_1 (tgt := 9) rfl (by omega) (fun h1 => ?_) (fun h1 => by exfalso; first | omega | contradiction | simp_all)
  refine Z.iload_n B dX11_saysAs_9 (x := nI 5) rfl ?_
  refine Z.iconst B dX11_saysAs_10 (v := nI 1) rfl ?_
  refine Z.icmp_neN B dX11_saysAs_11 (tgt := 31) rfl (by omega) (by omega) (fun h11 => ?_) (fun h11 => by exfalso; first | omega | contradiction | simp_all)
  refine Z.iload_n B dX11_saysAs_31 (x := nI 5) rfl ?_
  refine Z.iconst B dX11_saysAs_32 (v := nI 2) rfl ?_
  refine Z.icmp_neN B dX11_saysAs_33 (tgt := 53) rfl (by omega) (by omega) (fun h33 => ?_) (fun h33 => by exfalso; first | omega | contradiction | simp_all)
  refine Z.iload_n B dX11_saysAs_53 (x := nI 5) rfl ?_
  refine Z.iconst B dX11_saysAs_54 (v := nI 3) rfl ?_
  refine Z.icmp_neN B dX11_saysAs_55 (tgt := 75) rfl (by omega) (by omega) (fun h55 => ?_) (fun h55 => by exfalso; first | omega | contradiction | simp_all)
  refine Z.iload_n B dX11_saysAs_75 (x := nI 5) rfl ?_
  refine Z.iconst B dX11_saysAs_76 (v := nI 4) rfl ?_
  refine Z.icmp_neN B dX11_saysAs_77 (tgt := 104) rfl (by omega) (by omega) (fun h77 => ?_) (fun h77 => by exfalso; first | omega | contradiction | simp_all)
  refine Z.iload_n B dX11_saysAs_104 (x := nI 5) rfl ?_
  refine Z.iconst B dX11_saysAs_105 (v := nI 5) rfl ?_
  refine Z.icmp_neN B dX11_saysAs_106 (tgt := 125) rfl (by omega) (by omega) (fun h106 => by exfalso; first | omega | contradiction | simp_all) (fun h106 => ?_)
  refine Z.aload_n B dX11_saysAs_109 (v := .ref q) rfl rfl ?_
  refine Z.instY (σ := σ) B (nm := "FourAskOne$Marked") dX11_saysAs_110 (zT_at 350 (by decide +kernel) rfl) hw.1 hw.2.1 (by decide) rfl (Or.inr rfl) ?_
  refine Z.if_eqN B dX11_saysAs_113 (tgt := 125) rfl (by omega) (fun h113 => by exfalso; first | omega | contradiction | simp_all) (fun h113 => ?_)
  refine Z.aload_n B dX11_saysAs_116 (v := .ref 0) rfl rfl ?_
  refine Z.getR (σ := σ) B fX11_28_11 dX11_saysAs_117 (hl.n (k := 0) (by decide)) (hl.k (k := 0) (by decide)) (by decide) (j := 20) (hl.r (k := 0) (f := 2) (by decide) (by decide)) ?_
  refine Z.iconst B dX11_saysAs_120 (v := nI 5) rfl ?_
  refine Z.callVI (σ := σ) B (M' := mX1_firstGreatest) (as := [.int (nI 5)]) (st := []) (v := .int (gI (fun c => cn (zX σ 21) c 5) n)) dX11_saysAs_121 wX1_firstGreatest iX1_firstGreatest sX1_firstGreatest kX11_218 (hl.n (k := 20) (by decide)) (hl.k (k := 20) (by decide)) (by decide) rfl rfl (t_X1_firstGreatest (σ := σ) H (by decide)) rfl rfl (by decide) (by decide) (Nat.le_of_ble_eq_true rfl) (by decide) (by decide) ?_
  refine Z.eqσ (τ := (zuX σ 25 (fi n (fun c => cn (zX σ 21) c 5) (zX σ 25)))) rfl ?_
  refine Z.iret B Rt dX11_saysAs_124 (ty := .int) rfl rfl (by decide) (by decide) ?_
  exact ⟨rfl, rfl⟩

theorem t_K_saysAs_5_6 {σ : zSt} (hl : Lay σ) {n a y : Nat} (H : zHd σ n a y) {od : Nat → Nat} (ho : zOd σ a od) {q pa num : Nat} (hw : zWo σ q 5 pa num) : Dt mX11_saysAs [.ref 0, .ref q, .int (nI 6)] σ (some (.int (-nI 2))) (zuX σ 43 (upd (zX σ 43) 2 (zX σ 43 2 + nI 1))) := by
  obtain ⟨-, hn, hn8, ha, ha4, hy, hy8⟩ := id H
  have hpa : pa ≤ 99 := hw.2.2.2.2.2.2.2.1
  refine Dt.of (by decide) (Nat.le_of_ble_eq_true rfl) fun κ B Rt => ?_
  show Z κ 0 0 σ 0 [(0, .ref 0), (1, .ref q), (2, .int (nI 6))] []
  refine Z.iload_n B dX11_saysAs_0 (x := nI 6) rfl ?_
  refine Z.if_neN B dX11_saysAs_1 (tgt := 9) rfl (by omega) (fun h1 => ?_) (fun h1 => by exfalso; first | omega | contradiction | simp_all)
  refine Z.iload_n B dX11_saysAs_9 (x := nI 6) rfl ?_
  refine Z.iconst B dX11_saysAs_10 (v := nI 1) rfl ?_
  refine Z.icmp_neN B dX11_saysAs_11 (tgt := 31) rfl (by omega) (by omega) (fun h11 => ?_) (fun h11 => by exfalso; first | omega | contradiction | simp_all)
  refine Z.iload_n B dX11_saysAs_31 (x := nI 6) rfl ?_
  refine Z.iconst B dX11_saysAs_32 (v := nI 2) rfl ?_
  refine Z.icmp_neN B dX11_saysAs_33 (tgt := 53) rfl (by omega) (by omega) (fun h33 => ?_) (fun h33 => by exfalso; first | omega | contradiction | simp_all)
  refine Z.iload_n B dX11_saysAs_53 (x := nI 6) rfl ?_
  refine Z.iconst B dX11_saysAs_54 (v := nI 3) rfl ?_
  refine Z.icmp_neN B dX11_saysAs_55 (tgt := 75) rfl (by omega) (by omega) (fun h55 => ?_) (fun h55 => by exfalso; first | omega | contradiction | simp_all)
  refine Z.iload_n B dX11_saysAs_75 (x := nI 6) rfl ?_
  refine Z.iconst B dX11_saysAs_76 (v := nI 4) rfl ?_
  refine Z.icmp_neN B dX11_saysAs_77 (tgt := 104) rfl (by omega) (by omega) (fun h77 => ?_) (fun h77 => by exfalso; first | omega | contradiction | simp_all)
  refine Z.iload_n B dX11_saysAs_104 (x := nI 6) rfl ?_
  refine Z.iconst B dX11_saysAs_105 (v := nI 5) rfl ?_
  refine Z.icmp_neN B dX11_saysAs_106 (tgt := 125) rfl (by omega) (by omega) (fun h106 => ?_) (fun h106 => by exfalso; first | omega | contradiction | simp_all)
  refine Z.iload_n B dX11_saysAs_125 (x := nI 6) rfl ?_
  refine Z.bipush B dX11_saysAs_126 (v := nI 6) rfl ?_
  refine Z.icmp_neN B dX11_saysAs_128 (tgt := 169) rfl (by omega) (by omega) (fun h128 => by exfalso; first | omega | contradiction | simp_all) (fun h128 => ?_)
  refine Z.aload_n B dX11_saysAs_131 (v := .ref q) rfl rfl ?_
  refine Z.instNo (σ := σ) B (nm := "FourAskOne$Blind") dX11_saysAs_132 (zT_at 363 (by decide +kernel) rfl) hw.1 hw.2.1 (by decide) rfl (by decide +kernel) ?_
  refine Z.if_eqN B dX11_saysAs_135 (tgt := 169) rfl (by omega) (fun h135 => ?_) (fun h135 => by exfalso; first | omega | contradiction | simp_all)
  refine Z.aload_n B dX11_saysAs_169 (v := .ref 0) rfl rfl ?_
  refine Z.iconst B dX11_saysAs_170 (v := nI 2) rfl ?_
  refine Z.callVI (σ := σ) B (M' := mX11_refuse) (as := [.int (nI 2)]) (st := []) (v := .int (-nI 2)) dX11_saysAs_171 wX11_refuse iX11_refuse sX11_refuse kX11_63 (hl.n (k := 0) (by decide)) (hl.k (k := 0) (by decide)) (by decide) rfl rfl (t_X11_refuse (σ := σ) hl (b := 2) (by decide)) rfl rfl (by decide) (by decide) (Nat.le_of_ble_eq_true rfl) (by decide) (by decide) ?_
  refine Z.eqσ (τ := (zuX σ 43 (upd (zX σ 43) 2 (zX σ 43 2 + nI 1)))) rfl ?_
  refine Z.iret B Rt dX11_saysAs_174 (ty := .int) rfl rfl (by decide) (by decide) ?_
  exact ⟨rfl, rfl⟩

theorem t_K_saysAs_6_0 {σ : zSt} (hl : Lay σ) {n a y : Nat} (H : zHd σ n a y) {od : Nat → Nat} (ho : zOd σ a od) {q pa num : Nat} (hw : zWo σ q 6 pa num) : Dt mX11_saysAs [.ref 0, .ref q, .int (nI 0)] σ (some (.int (nI pa))) σ := by
  obtain ⟨-, hn, hn8, ha, ha4, hy, hy8⟩ := id H
  have hpa : pa ≤ 99 := hw.2.2.2.2.2.2.2.1
  refine Dt.of (by decide) (Nat.le_of_ble_eq_true rfl) fun κ B Rt => ?_
  show Z κ 0 0 σ 0 [(0, .ref 0), (1, .ref q), (2, .int (nI 0))] []
  refine Z.iload_n B dX11_saysAs_0 (x := nI 0) rfl ?_
  refine Z.if_neN B dX11_saysAs_1 (tgt := 9) rfl (by omega) (fun h1 => by exfalso; first | omega | contradiction | simp_all) (fun h1 => ?_)
  refine Z.aload_n B dX11_saysAs_4 (v := .ref q) rfl rfl ?_
  refine Z.getI (σ := σ) B fX11_172_0 dX11_saysAs_5 hw.1 hw.2.1 (by decide) (v := nI pa) hw.2.2.2.2.2.1 ?_
  refine Z.iret B Rt dX11_saysAs_8 (ty := .int) rfl rfl (by decide) (by decide) ?_
  exact ⟨rfl, rfl⟩

theorem t_K_saysAs_6_1 {σ : zSt} (hl : Lay σ) {n a y : Nat} (H : zHd σ n a y) {od : Nat → Nat} (ho : zOd σ a od) {q pa num : Nat} (hw : zWo σ q 6 pa num) : Dt mX11_saysAs [.ref 0, .ref q, .int (nI 1)] σ (some (.int (-nI 2))) (zuX σ 43 (upd (zX σ 43) 2 (zX σ 43 2 + nI 1))) := by
  obtain ⟨-, hn, hn8, ha, ha4, hy, hy8⟩ := id H
  have hpa : pa ≤ 99 := hw.2.2.2.2.2.2.2.1
  refine Dt.of (by decide) (Nat.le_of_ble_eq_true rfl) fun κ B Rt => ?_
  show Z κ 0 0 σ 0 [(0, .ref 0), (1, .ref q), (2, .int (nI 1))] []
  refine Z.iload_n B dX11_saysAs_0 (x := nI 1) rfl ?_
  refine Z.if_neN B dX11_saysAs_1 (tgt := 9) rfl (by omega) (fun h1 => ?_) (fun h1 => by exfalso; first | omega | contradiction | simp_all)
  refine Z.iload_n B dX11_saysAs_9 (x := nI 1) rfl ?_
  refine Z.iconst B dX11_saysAs_10 (v := nI 1) rfl ?_
  refine Z.icmp_neN B dX11_saysAs_11 (tgt := 31) rfl (by omega) (by omega) (fun h11 => by exfalso; first | omega | contradiction | simp_all) (fun h11 => ?_)
  refine Z.aload_n B dX11_saysAs_14 (v := .ref q) rfl rfl ?_
  refine Z.instNo (σ := σ) B (nm := "FourAskOne$Talked") dX11_saysAs_15 (zT_at 323 (by decide +kernel) rfl) hw.1 hw.2.1 (by decide) rfl (by decide +kernel) ?_
  refine Z.if_eqN B dX11_saysAs_18 (tgt := 31) rfl (by omega) (fun h18 => ?_) (fun h18 => by exfalso; first | omega | contradiction | simp_all)
  refine Z.iload_n B dX11_saysAs_31 (x := nI 1) rfl ?_
  refine Z.iconst B dX11_saysAs_32 (v := nI 2) rfl ?_
  refine Z.icmp_neN B dX11_saysAs_33 (tgt := 53) rfl (by omega) (by omega) (fun h33 => ?_) (fun h33 => by exfalso; first | omega | contradiction | simp_all)
  refine Z.iload_n B dX11_saysAs_53 (x := nI 1) rfl ?_
  refine Z.iconst B dX11_saysAs_54 (v := nI 3) rfl ?_
  refine Z.icmp_neN B dX11_saysAs_55 (tgt := 75) rfl (by omega) (by omega) (fun h55 => ?_) (fun h55 => by exfalso; first | omega | contradiction | simp_all)
  refine Z.iload_n B dX11_saysAs_75 (x := nI 1) rfl ?_
  refine Z.iconst B dX11_saysAs_76 (v := nI 4) rfl ?_
  refine Z.icmp_neN B dX11_saysAs_77 (tgt := 104) rfl (by omega) (by omega) (fun h77 => ?_) (fun h77 => by exfalso; first | omega | contradiction | simp_all)
  refine Z.iload_n B dX11_saysAs_104 (x := nI 1) rfl ?_
  refine Z.iconst B dX11_saysAs_105 (v := nI 5) rfl ?_
  refine Z.icmp_neN B dX11_saysAs_106 (tgt := 125) rfl (by omega) (by omega) (fun h106 => ?_) (fun h106 => by exfalso; first | omega | contradiction | simp_all)
  refine Z.iload_n B dX11_saysAs_125 (x := nI 1) rfl ?_
  refine Z.bipush B dX11_saysAs_126 (v := nI 6) rfl ?_
  refine Z.icmp_neN B dX11_saysAs_128 (tgt := 169) rfl (by omega) (by omega) (fun h128 => ?_) (fun h128 => by exfalso; first | omega | contradiction | simp_all)
  refine Z.aload_n B dX11_saysAs_169 (v := .ref 0) rfl rfl ?_
  refine Z.iconst B dX11_saysAs_170 (v := nI 2) rfl ?_
  refine Z.callVI (σ := σ) B (M' := mX11_refuse) (as := [.int (nI 2)]) (st := []) (v := .int (-nI 2)) dX11_saysAs_171 wX11_refuse iX11_refuse sX11_refuse kX11_63 (hl.n (k := 0) (by decide)) (hl.k (k := 0) (by decide)) (by decide) rfl rfl (t_X11_refuse (σ := σ) hl (b := 2) (by decide)) rfl rfl (by decide) (by decide) (Nat.le_of_ble_eq_true rfl) (by decide) (by decide) ?_
  refine Z.eqσ (τ := (zuX σ 43 (upd (zX σ 43) 2 (zX σ 43 2 + nI 1)))) rfl ?_
  refine Z.iret B Rt dX11_saysAs_174 (ty := .int) rfl rfl (by decide) (by decide) ?_
  exact ⟨rfl, rfl⟩

theorem t_K_saysAs_6_2 {σ : zSt} (hl : Lay σ) {n a y : Nat} (H : zHd σ n a y) {od : Nat → Nat} (ho : zOd σ a od) {q pa num : Nat} (hw : zWo σ q 6 pa num) : Dt mX11_saysAs [.ref 0, .ref q, .int (nI 2)] σ (some (.int (-nI 2))) (zuX σ 43 (upd (zX σ 43) 2 (zX σ 43 2 + nI 1))) := by
  obtain ⟨-, hn, hn8, ha, ha4, hy, hy8⟩ := id H
  have hpa : pa ≤ 99 := hw.2.2.2.2.2.2.2.1
  refine Dt.of (by decide) (Nat.le_of_ble_eq_true rfl) fun κ B Rt => ?_
  show Z κ 0 0 σ 0 [(0, .ref 0), (1, .ref q), (2, .int (nI 2))] []
  refine Z.iload_n B dX11_saysAs_0 (x := nI 2) rfl ?_
  refine Z.if_neN B dX11_saysAs_1 (tgt := 9) rfl (by omega) (fun h1 => ?_) (fun h1 => by exfalso; first | omega | contradiction | simp_all)
  refine Z.iload_n B dX11_saysAs_9 (x := nI 2) rfl ?_
  refine Z.iconst B dX11_saysAs_10 (v := nI 1) rfl ?_
  refine Z.icmp_neN B dX11_saysAs_11 (tgt := 31) rfl (by omega) (by omega) (fun h11 => ?_) (fun h11 => by exfalso; first | omega | contradiction | simp_all)
  refine Z.iload_n B dX11_saysAs_31 (x := nI 2) rfl ?_
  refine Z.iconst B dX11_saysAs_32 (v := nI 2) rfl ?_
  refine Z.icmp_neN B dX11_saysAs_33 (tgt := 53) rfl (by omega) (by omega) (fun h33 => by exfalso; first | omega | contradiction | simp_all) (fun h33 => ?_)
  refine Z.aload_n B dX11_saysAs_36 (v := .ref q) rfl rfl ?_
  refine Z.instNo (σ := σ) B (nm := "FourAskOne$Lined") dX11_saysAs_37 (zT_at 334 (by decide +kernel) rfl) hw.1 hw.2.1 (by decide) rfl (by decide +kernel) ?_
  refine Z.if_eqN B dX11_saysAs_40 (tgt := 53) rfl (by omega) (fun h40 => ?_) (fun h40 => by exfalso; first | omega | contradiction | simp_all)
  refine Z.iload_n B dX11_saysAs_53 (x := nI 2) rfl ?_
  refine Z.iconst B dX11_saysAs_54 (v := nI 3) rfl ?_
  refine Z.icmp_neN B dX11_saysAs_55 (tgt := 75) rfl (by omega) (by omega) (fun h55 => ?_) (fun h55 => by exfalso; first | omega | contradiction | simp_all)
  refine Z.iload_n B dX11_saysAs_75 (x := nI 2) rfl ?_
  refine Z.iconst B dX11_saysAs_76 (v := nI 4) rfl ?_
  refine Z.icmp_neN B dX11_saysAs_77 (tgt := 104) rfl (by omega) (by omega) (fun h77 => ?_) (fun h77 => by exfalso; first | omega | contradiction | simp_all)
  refine Z.iload_n B dX11_saysAs_104 (x := nI 2) rfl ?_
  refine Z.iconst B dX11_saysAs_105 (v := nI 5) rfl ?_
  refine Z.icmp_neN B dX11_saysAs_106 (tgt := 125) rfl (by omega) (by omega) (fun h106 => ?_) (fun h106 => by exfalso; first | omega | contradiction | simp_all)
  refine Z.iload_n B dX11_saysAs_125 (x := nI 2) rfl ?_
  refine Z.bipush B dX11_saysAs_126 (v := nI 6) rfl ?_
  refine Z.icmp_neN B dX11_saysAs_128 (tgt := 169) rfl (by omega) (by omega) (fun h128 => ?_) (fun h128 => by exfalso; first | omega | contradiction | simp_all)
  refine Z.aload_n B dX11_saysAs_169 (v := .ref 0) rfl rfl ?_
  refine Z.iconst B dX11_saysAs_170 (v := nI 2) rfl ?_
  refine Z.callVI (σ := σ) B (M' := mX11_refuse) (as := [.int (nI 2)]) (st := []) (v := .int (-nI 2)) dX11_saysAs_171 wX11_refuse iX11_refuse sX11_refuse kX11_63 (hl.n (k := 0) (by decide)) (hl.k (k := 0) (by decide)) (by decide) rfl rfl (t_X11_refuse (σ := σ) hl (b := 2) (by decide)) rfl rfl (by decide) (by decide) (Nat.le_of_ble_eq_true rfl) (by decide) (by decide) ?_
  refine Z.eqσ (τ := (zuX σ 43 (upd (zX σ 43) 2 (zX σ 43 2 + nI 1)))) rfl ?_
  refine Z.iret B Rt dX11_saysAs_174 (ty := .int) rfl rfl (by decide) (by decide) ?_
  exact ⟨rfl, rfl⟩

theorem t_K_saysAs_6_3 {σ : zSt} (hl : Lay σ) {n a y : Nat} (H : zHd σ n a y) {od : Nat → Nat} (ho : zOd σ a od) {q pa num : Nat} (hw : zWo σ q 6 pa num) : Dt mX11_saysAs [.ref 0, .ref q, .int (nI 3)] σ (some (.int (-nI 2))) (zuX σ 43 (upd (zX σ 43) 2 (zX σ 43 2 + nI 1))) := by
  obtain ⟨-, hn, hn8, ha, ha4, hy, hy8⟩ := id H
  have hpa : pa ≤ 99 := hw.2.2.2.2.2.2.2.1
  refine Dt.of (by decide) (Nat.le_of_ble_eq_true rfl) fun κ B Rt => ?_
  show Z κ 0 0 σ 0 [(0, .ref 0), (1, .ref q), (2, .int (nI 3))] []
  refine Z.iload_n B dX11_saysAs_0 (x := nI 3) rfl ?_
  refine Z.if_neN B dX11_saysAs_1 (tgt := 9) rfl (by omega) (fun h1 => ?_) (fun h1 => by exfalso; first | omega | contradiction | simp_all)
  refine Z.iload_n B dX11_saysAs_9 (x := nI 3) rfl ?_
  refine Z.iconst B dX11_saysAs_10 (v := nI 1) rfl ?_
  refine Z.icmp_neN B dX11_saysAs_11 (tgt := 31) rfl (by omega) (by omega) (fun h11 => ?_) (fun h11 => by exfalso; first | omega | contradiction | simp_all)
  refine Z.iload_n B dX11_saysAs_31 (x := nI 3) rfl ?_
  refine Z.iconst B dX11_saysAs_32 (v := nI 2) rfl ?_
  refine Z.icmp_neN B dX11_saysAs_33 (tgt := 53) rfl (by omega) (by omega) (fun h33 => ?_) (fun h33 => by exfalso; first | omega | contradiction | simp_all)
  refine Z.iload_n B dX11_saysAs_53 (x := nI 3) rfl ?_
  refine Z.iconst B dX11_saysAs_54 (v := nI 3) rfl ?_
  refine Z.icmp_neN B dX11_saysAs_55 (tgt := 75) rfl (by omega) (by omega) (fun h55 => by exfalso; first | omega | contradiction | simp_all) (fun h55 => ?_)
  refine Z.aload_n B dX11_saysAs_58 (v := .ref q) rfl rfl ?_
  refine Z.instNo (σ := σ) B (nm := "FourAskOne$Worked") dX11_saysAs_59 (zT_at 336 (by decide +kernel) rfl) hw.1 hw.2.1 (by decide) rfl (by decide +kernel) ?_
  refine Z.if_eqN B dX11_saysAs_62 (tgt := 75) rfl (by omega) (fun h62 => ?_) (fun h62 => by exfalso; first | omega | contradiction | simp_all)
  refine Z.iload_n B dX11_saysAs_75 (x := nI 3) rfl ?_
  refine Z.iconst B dX11_saysAs_76 (v := nI 4) rfl ?_
  refine Z.icmp_neN B dX11_saysAs_77 (tgt := 104) rfl (by omega) (by omega) (fun h77 => ?_) (fun h77 => by exfalso; first | omega | contradiction | simp_all)
  refine Z.iload_n B dX11_saysAs_104 (x := nI 3) rfl ?_
  refine Z.iconst B dX11_saysAs_105 (v := nI 5) rfl ?_
  refine Z.icmp_neN B dX11_saysAs_106 (tgt := 125) rfl (by omega) (by omega) (fun h106 => ?_) (fun h106 => by exfalso; first | omega | contradiction | simp_all)
  refine Z.iload_n B dX11_saysAs_125 (x := nI 3) rfl ?_
  refine Z.bipush B dX11_saysAs_126 (v := nI 6) rfl ?_
  refine Z.icmp_neN B dX11_saysAs_128 (tgt := 169) rfl (by omega) (by omega) (fun h128 => ?_) (fun h128 => by exfalso; first | omega | contradiction | simp_all)
  refine Z.aload_n B dX11_saysAs_169 (v := .ref 0) rfl rfl ?_
  refine Z.iconst B dX11_saysAs_170 (v := nI 2) rfl ?_
  refine Z.callVI (σ := σ) B (M' := mX11_refuse) (as := [.int (nI 2)]) (st := []) (v := .int (-nI 2)) dX11_saysAs_171 wX11_refuse iX11_refuse sX11_refuse kX11_63 (hl.n (k := 0) (by decide)) (hl.k (k := 0) (by decide)) (by decide) rfl rfl (t_X11_refuse (σ := σ) hl (b := 2) (by decide)) rfl rfl (by decide) (by decide) (Nat.le_of_ble_eq_true rfl) (by decide) (by decide) ?_
  refine Z.eqσ (τ := (zuX σ 43 (upd (zX σ 43) 2 (zX σ 43 2 + nI 1)))) rfl ?_
  refine Z.iret B Rt dX11_saysAs_174 (ty := .int) rfl rfl (by decide) (by decide) ?_
  exact ⟨rfl, rfl⟩

theorem t_K_saysAs_6_4 {σ : zSt} (hl : Lay σ) {n a y : Nat} (H : zHd σ n a y) {od : Nat → Nat} (ho : zOd σ a od) {q pa num : Nat} (hw : zWo σ q 6 pa num) : Dt mX11_saysAs [.ref 0, .ref q, .int (nI 4)] σ (some (.int (-nI 2))) (zuX σ 43 (upd (zX σ 43) 2 (zX σ 43 2 + nI 1))) := by
  obtain ⟨-, hn, hn8, ha, ha4, hy, hy8⟩ := id H
  have hpa : pa ≤ 99 := hw.2.2.2.2.2.2.2.1
  refine Dt.of (by decide) (Nat.le_of_ble_eq_true rfl) fun κ B Rt => ?_
  show Z κ 0 0 σ 0 [(0, .ref 0), (1, .ref q), (2, .int (nI 4))] []
  refine Z.iload_n B dX11_saysAs_0 (x := nI 4) rfl ?_
  refine Z.if_neN B dX11_saysAs_1 (tgt := 9) rfl (by omega) (fun h1 => ?_) (fun h1 => by exfalso; first | omega | contradiction | simp_all)
  refine Z.iload_n B dX11_saysAs_9 (x := nI 4) rfl ?_
  refine Z.iconst B dX11_saysAs_10 (v := nI 1) rfl ?_
  refine Z.icmp_neN B dX11_saysAs_11 (tgt := 31) rfl (by omega) (by omega) (fun h11 => ?_) (fun h11 => by exfalso; first | omega | contradiction | simp_all)
  refine Z.iload_n B dX11_saysAs_31 (x := nI 4) rfl ?_
  refine Z.iconst B dX11_saysAs_32 (v := nI 2) rfl ?_
  refine Z.icmp_neN B dX11_saysAs_33 (tgt := 53) rfl (by omega) (by omega) (fun h33 => ?_) (fun h33 => by exfalso; first | omega | contradiction | simp_all)
  refine Z.iload_n B dX11_saysAs_53 (x := nI 4) rfl ?_
  refine Z.iconst B dX11_saysAs_54 (v := nI 3) rfl ?_
  refine Z.icmp_neN B dX11_saysAs_55 (tgt := 75) rfl (by omega) (by omega) (fun h55 => ?_) (fun h55 => by exfalso; first | omega | contradiction | simp_all)
  refine Z.iload_n B dX11_saysAs_75 (x := nI 4) rfl ?_
  refine Z.iconst B dX11_saysAs_76 (v := nI 4) rfl ?_
  refine Z.icmp_neN B dX11_saysAs_77 (tgt := 104) rfl (by omega) (by omega) (fun h77 => by exfalso; first | omega | contradiction | simp_all) (fun h77 => ?_)
  refine Z.aload_n B dX11_saysAs_80 (v := .ref q) rfl rfl ?_
  refine Z.instNo (σ := σ) B (nm := "FourAskOne$Lettered") dX11_saysAs_81 (zT_at 341 (by decide +kernel) rfl) hw.1 hw.2.1 (by decide) rfl (by decide +kernel) ?_
  refine Z.if_eqN B dX11_saysAs_84 (tgt := 104) rfl (by omega) (fun h84 => ?_) (fun h84 => by exfalso; first | omega | contradiction | simp_all)
  refine Z.iload_n B dX11_saysAs_104 (x := nI 4) rfl ?_
  refine Z.iconst B dX11_saysAs_105 (v := nI 5) rfl ?_
  refine Z.icmp_neN B dX11_saysAs_106 (tgt := 125) rfl (by omega) (by omega) (fun h106 => ?_) (fun h106 => by exfalso; first | omega | contradiction | simp_all)
  refine Z.iload_n B dX11_saysAs_125 (x := nI 4) rfl ?_
  refine Z.bipush B dX11_saysAs_126 (v := nI 6) rfl ?_
  refine Z.icmp_neN B dX11_saysAs_128 (tgt := 169) rfl (by omega) (by omega) (fun h128 => ?_) (fun h128 => by exfalso; first | omega | contradiction | simp_all)
  refine Z.aload_n B dX11_saysAs_169 (v := .ref 0) rfl rfl ?_
  refine Z.iconst B dX11_saysAs_170 (v := nI 2) rfl ?_
  refine Z.callVI (σ := σ) B (M' := mX11_refuse) (as := [.int (nI 2)]) (st := []) (v := .int (-nI 2)) dX11_saysAs_171 wX11_refuse iX11_refuse sX11_refuse kX11_63 (hl.n (k := 0) (by decide)) (hl.k (k := 0) (by decide)) (by decide) rfl rfl (t_X11_refuse (σ := σ) hl (b := 2) (by decide)) rfl rfl (by decide) (by decide) (Nat.le_of_ble_eq_true rfl) (by decide) (by decide) ?_
  refine Z.eqσ (τ := (zuX σ 43 (upd (zX σ 43) 2 (zX σ 43 2 + nI 1)))) rfl ?_
  refine Z.iret B Rt dX11_saysAs_174 (ty := .int) rfl rfl (by decide) (by decide) ?_
  exact ⟨rfl, rfl⟩

theorem t_K_saysAs_6_5 {σ : zSt} (hl : Lay σ) {n a y : Nat} (H : zHd σ n a y) {od : Nat → Nat} (ho : zOd σ a od) {q pa num : Nat} (hw : zWo σ q 6 pa num) : Dt mX11_saysAs [.ref 0, .ref q, .int (nI 5)] σ (some (.int (gI (fun c => cn (zX σ 21) c 5) n))) (zuX σ 25 (fi n (fun c => cn (zX σ 21) c 5) (zX σ 25))) := by
  obtain ⟨-, hn, hn8, ha, ha4, hy, hy8⟩ := id H
  have hpa : pa ≤ 99 := hw.2.2.2.2.2.2.2.1
  refine Dt.of (by decide) (Nat.le_of_ble_eq_true rfl) fun κ B Rt => ?_
  show Z κ 0 0 σ 0 [(0, .ref 0), (1, .ref q), (2, .int (nI 5))] []
  refine Z.iload_n B dX11_saysAs_0 (x := nI 5) rfl ?_
  refine Z.if_neN B dX11_saysAs_1 (tgt := 9) rfl (by omega) (fun h1 => ?_) (fun h1 => by exfalso; first | omega | contradiction | simp_all)
  refine Z.iload_n B dX11_saysAs_9 (x := nI 5) rfl ?_
  refine Z.iconst B dX11_saysAs_10 (v := nI 1) rfl ?_
  refine Z.icmp_neN B dX11_saysAs_11 (tgt := 31) rfl (by omega) (by omega) (fun h11 => ?_) (fun h11 => by exfalso; first | omega | contradiction | simp_all)
  refine Z.iload_n B dX11_saysAs_31 (x := nI 5) rfl ?_
  refine Z.iconst B dX11_saysAs_32 (v := nI 2) rfl ?_
  refine Z.icmp_neN B dX11_saysAs_33 (tgt := 53) rfl (by omega) (by omega) (fun h33 => ?_) (fun h33 => by exfalso; first | omega | contradiction | simp_all)
  refine Z.iload_n B dX11_saysAs_53 (x := nI 5) rfl ?_
  refine Z.iconst B dX11_saysAs_54 (v := nI 3) rfl ?_
  refine Z.icmp_neN B dX11_saysAs_55 (tgt := 75) rfl (by omega) (by omega) (fun h55 => ?_) (fun h55 => by exfalso; first | omega | contradiction | simp_all)
  refine Z.iload_n B dX11_saysAs_75 (x := nI 5) rfl ?_
  refine Z.iconst B dX11_saysAs_76 (v := nI 4) rfl ?_
  refine Z.icmp_neN B dX11_saysAs_77 (tgt := 104) rfl (by omega) (by omega) (fun h77 => ?_) (fun h77 => by exfalso; first | omega | contradiction | simp_all)
  refine Z.iload_n B dX11_saysAs_104 (x := nI 5) rfl ?_
  refine Z.iconst B dX11_saysAs_105 (v := nI 5) rfl ?_
  refine Z.icmp_neN B dX11_saysAs_106 (tgt := 125) rfl (by omega) (by omega) (fun h106 => by exfalso; first | omega | contradiction | simp_all) (fun h106 => ?_)
  refine Z.aload_n B dX11_saysAs_109 (v := .ref q) rfl rfl ?_
  refine Z.instY (σ := σ) B (nm := "FourAskOne$Marked") dX11_saysAs_110 (zT_at 350 (by decide +kernel) rfl) hw.1 hw.2.1 (by decide) rfl (Or.inl (by decide +kernel)) ?_
  refine Z.if_eqN B dX11_saysAs_113 (tgt := 125) rfl (by omega) (fun h113 => by exfalso; first | omega | contradiction | simp_all) (fun h113 => ?_)
  refine Z.aload_n B dX11_saysAs_116 (v := .ref 0) rfl rfl ?_
  refine Z.getR (σ := σ) B fX11_28_11 dX11_saysAs_117 (hl.n (k := 0) (by decide)) (hl.k (k := 0) (by decide)) (by decide) (j := 20) (hl.r (k := 0) (f := 2) (by decide) (by decide)) ?_
  refine Z.iconst B dX11_saysAs_120 (v := nI 5) rfl ?_
  refine Z.callVI (σ := σ) B (M' := mX1_firstGreatest) (as := [.int (nI 5)]) (st := []) (v := .int (gI (fun c => cn (zX σ 21) c 5) n)) dX11_saysAs_121 wX1_firstGreatest iX1_firstGreatest sX1_firstGreatest kX11_218 (hl.n (k := 20) (by decide)) (hl.k (k := 20) (by decide)) (by decide) rfl rfl (t_X1_firstGreatest (σ := σ) H (by decide)) rfl rfl (by decide) (by decide) (Nat.le_of_ble_eq_true rfl) (by decide) (by decide) ?_
  refine Z.eqσ (τ := (zuX σ 25 (fi n (fun c => cn (zX σ 21) c 5) (zX σ 25)))) rfl ?_
  refine Z.iret B Rt dX11_saysAs_124 (ty := .int) rfl rfl (by decide) (by decide) ?_
  exact ⟨rfl, rfl⟩

theorem t_K_saysAs_6_6 {σ : zSt} (hl : Lay σ) {n a y : Nat} (H : zHd σ n a y) {od : Nat → Nat} (ho : zOd σ a od) {q pa num : Nat} (hw : zWo σ q 6 pa num) : Dt mX11_saysAs [.ref 0, .ref q, .int (nI 6)] σ (some (.int (if gI (fun c => sm (fun b => shW (zX σ 21) (zSc σ) (zLk σ) 5 pa b c) a) n = gI (tf (zX σ 21) (zSc σ) (zLk σ) (zDr σ) true 6 pa od a) n then nI 0 else nI 1))) (zuX σ 25 (fi n (tf (zX σ 21) (zSc σ) (zLk σ) (zDr σ) true 6 pa od a) (zX σ 25))) := by
  obtain ⟨-, hn, hn8, ha, ha4, hy, hy8⟩ := id H
  have hpa : pa ≤ 99 := hw.2.2.2.2.2.2.2.1
  refine Dt.of (by decide) (Nat.le_of_ble_eq_true rfl) fun κ B Rt => ?_
  show Z κ 0 0 σ 0 [(0, .ref 0), (1, .ref q), (2, .int (nI 6))] []
  refine Z.iload_n B dX11_saysAs_0 (x := nI 6) rfl ?_
  refine Z.if_neN B dX11_saysAs_1 (tgt := 9) rfl (by omega) (fun h1 => ?_) (fun h1 => by exfalso; first | omega | contradiction | simp_all)
  refine Z.iload_n B dX11_saysAs_9 (x := nI 6) rfl ?_
  refine Z.iconst B dX11_saysAs_10 (v := nI 1) rfl ?_
  refine Z.icmp_neN B dX11_saysAs_11 (tgt := 31) rfl (by omega) (by omega) (fun h11 => ?_) (fun h11 => by exfalso; first | omega | contradiction | simp_all)
  refine Z.iload_n B dX11_saysAs_31 (x := nI 6) rfl ?_
  refine Z.iconst B dX11_saysAs_32 (v := nI 2) rfl ?_
  refine Z.icmp_neN B dX11_saysAs_33 (tgt := 53) rfl (by omega) (by omega) (fun h33 => ?_) (fun h33 => by exfalso; first | omega | contradiction | simp_all)
  refine Z.iload_n B dX11_saysAs_53 (x := nI 6) rfl ?_
  refine Z.iconst B dX11_saysAs_54 (v := nI 3) rfl ?_
  refine Z.icmp_neN B dX11_saysAs_55 (tgt := 75) rfl (by omega) (by omega) (fun h55 => ?_) (fun h55 => by exfalso; first | omega | contradiction | simp_all)
  refine Z.iload_n B dX11_saysAs_75 (x := nI 6) rfl ?_
  refine Z.iconst B dX11_saysAs_76 (v := nI 4) rfl ?_
  refine Z.icmp_neN B dX11_saysAs_77 (tgt := 104) rfl (by omega) (by omega) (fun h77 => ?_) (fun h77 => by exfalso; first | omega | contradiction | simp_all)
  refine Z.iload_n B dX11_saysAs_104 (x := nI 6) rfl ?_
  refine Z.iconst B dX11_saysAs_105 (v := nI 5) rfl ?_
  refine Z.icmp_neN B dX11_saysAs_106 (tgt := 125) rfl (by omega) (by omega) (fun h106 => ?_) (fun h106 => by exfalso; first | omega | contradiction | simp_all)
  refine Z.iload_n B dX11_saysAs_125 (x := nI 6) rfl ?_
  refine Z.bipush B dX11_saysAs_126 (v := nI 6) rfl ?_
  refine Z.icmp_neN B dX11_saysAs_128 (tgt := 169) rfl (by omega) (by omega) (fun h128 => by exfalso; first | omega | contradiction | simp_all) (fun h128 => ?_)
  refine Z.aload_n B dX11_saysAs_131 (v := .ref q) rfl rfl ?_
  refine Z.instY (σ := σ) B (nm := "FourAskOne$Blind") dX11_saysAs_132 (zT_at 363 (by decide +kernel) rfl) hw.1 hw.2.1 (by decide) rfl (Or.inr rfl) ?_
  refine Z.if_eqN B dX11_saysAs_135 (tgt := 169) rfl (by omega) (fun h135 => by exfalso; first | omega | contradiction | simp_all) (fun h135 => ?_)
  refine Z.aload_n B dX11_saysAs_138 (v := .ref q) rfl rfl ?_
  refine Z.cast (σ := σ) B (nm := "FourAskOne$Blind") dX11_saysAs_139 (zT_at 363 (by decide +kernel) rfl) hw.1 hw.2.1 (by decide) rfl (Or.inr rfl) ?_
  refine Z.astore_n B dX11_saysAs_142 (by decide) rfl (L' := [(0, .ref 0), (1, .ref q), (2, .int (nI 6)), (3, .ref q)]) rfl ?_
  refine Z.aload_n B dX11_saysAs_143 (v := .ref 0) rfl rfl ?_
  refine Z.getR (σ := σ) B fX11_28_11 dX11_saysAs_144 (hl.n (k := 0) (by decide)) (hl.k (k := 0) (by decide)) (by decide) (j := 20) (hl.r (k := 0) (f := 2) (by decide) (by decide)) ?_
  refine Z.aload_n B dX11_saysAs_147 (v := .ref q) rfl rfl ?_
  refine Z.callVI (σ := σ) B (M' := mX1_takenWithNames) (as := [.ref q]) (st := []) (v := .int (gI (fun c => sm (fun b => shW (zX σ 21) (zSc σ) (zLk σ) 5 pa b c) a) n)) dX11_saysAs_148 wX1_takenWithNames iX1_takenWithNames sX1_takenWithNames kX11_330 (hl.n (k := 20) (by decide)) (hl.k (k := 20) (by decide)) (by decide) rfl rfl (t_X1_takenWithNames (σ := σ) H hw) rfl rfl (by decide) (by decide) (Nat.le_of_ble_eq_true rfl) (by decide) (by decide) ?_
  refine Z.eqσ (τ := (zuX σ 25 (fi n (fun c => sm (fun b => shW (zX σ 21) (zSc σ) (zLk σ) 5 pa b c) a) (zX σ 25)))) rfl ?_
  refine Z.aload_n B dX11_saysAs_151 (v := .ref 0) rfl rfl ?_
  refine Z.getR (σ := (zuX σ 25 (fi n (fun c => sm (fun b => shW (zX σ 21) (zSc σ) (zLk σ) 5 pa b c) a) (zX σ 25)))) B fX11_28_11 dX11_saysAs_152 (hl.n (k := 0) (by decide)) (hl.k (k := 0) (by decide)) (by decide) (j := 20) (hl.r (k := 0) (f := 2) (by decide) (by decide)) ?_
  refine Z.aload_n B dX11_saysAs_155 (v := .ref q) rfl rfl ?_
  refine Z.iconst B dX11_saysAs_156 (v := nI 1) rfl ?_
  have etrue : nI 1 = zb true := rfl
  refine Z.callVI (σ := (zuX σ 25 (fi n (fun c => sm (fun b => shW (zX σ 21) (zSc σ) (zLk σ) 5 pa b c) a) (zX σ 25)))) B (M' := mX1_takenBy) (as := [.ref q, .int (zb true)]) (st := [.int (gI (fun c => sm (fun b => shW (zX σ 21) (zSc σ) (zLk σ) 5 pa b c) a) n)]) (v := .int (gI (tf (zX σ 21) (zSc σ) (zLk σ) (zDr σ) true 6 pa od a) n)) dX11_saysAs_157 wX1_takenBy iX1_takenBy sX1_takenBy kX11_214 (hl.n (k := 20) (by decide)) (hl.k (k := 20) (by decide)) (by decide) rfl rfl (t_X1_takenBy (σ := (zuX σ 25 (fi n (fun c => sm (fun b => shW (zX σ 21) (zSc σ) (zLk σ) 5 pa b c) a) (zX σ 25)))) H ho (hw.uX (by decide)) (sl := true)) rfl rfl (by decide) (by decide) (Nat.le_of_ble_eq_true rfl) (by decide) (by decide) ?_
  refine Z.eqσ (τ := (zuX σ 25 (fi n (tf (zX σ 21) (zSc σ) (zLk σ) (zDr σ) true 6 pa od a) (zX σ 25)))) (by rw [zX_self, zuX_uX, fi_fi]; rfl) ?_
  refine Z.icmp_ne B dX11_saysAs_160 (tgt := 167) rfl (fun h160 => ?_) (fun h160 => ?_)
  · skip
    refine Z.iconst B dX11_saysAs_167 (v := nI 1) rfl ?_
    refine Z.iret B Rt dX11_saysAs_168 (ty := .int) rfl rfl (by decide) (by decide) ?_
    first | exact ⟨zip h160, rfl⟩ | exact ⟨zin h160, rfl⟩
  · skip
    refine Z.iconst B dX11_saysAs_163 (v := nI 0) rfl ?_
    refine Z.goto B dX11_saysAs_164 (tgt := 168) rfl ?_
    refine Z.iret B Rt dX11_saysAs_168 (ty := .int) rfl rfl (by decide) (by decide) ?_
    first | exact ⟨zip h160, rfl⟩ | exact ⟨zin h160, rfl⟩

theorem t_K_says_1 {σ : zSt} (hl : Lay σ) {s : Int32} (hs : zOut s 8) {k : Int32} : Dt mX11_says [.ref 0, .int s, .int k] σ (some (.int (-nI 1))) (zuX σ 43 (upd (zX σ 43) 1 (zX σ 43 1 + nI 1))) := by
  refine Dt.of (by decide) (Nat.le_of_ble_eq_true rfl) fun κ B Rt => ?_
  show Z κ 0 0 σ 0 [(0, .ref 0), (1, .int s), (2, .int k)] []
  refine Z.aload_n B dX11_says_0 (v := .ref 0) rfl rfl ?_
  refine Z.iload_n B dX11_says_1 (x := s) rfl ?_
  refine Z.callVI (σ := σ) B (M' := mX11_shelfAt) (as := [.int s]) (st := []) (v := .null) dX11_says_2 wX11_shelfAt iX11_shelfAt sX11_shelfAt kX11_59 (hl.n (k := 0) (by decide)) (hl.k (k := 0) (by decide)) (by decide) rfl rfl (t_X11_shelfAt_out (σ := σ) hl hs) rfl rfl (by decide) (by decide) (Nat.le_of_ble_eq_true rfl) (by decide) (by decide) ?_
  refine Z.astore_n B dX11_says_5 (by decide) rfl (L' := [(0, .ref 0), (1, .int s), (2, .int k), (3, .null)]) rfl ?_
  refine Z.aload_n B dX11_says_6 (v := .null) rfl rfl ?_
  refine Z.ifnull_n B dX11_says_7 (tgt := 20) rfl ?_
  refine Z.aload_n B dX11_says_20 (v := .ref 0) rfl rfl ?_
  refine Z.iconst B dX11_says_21 (v := nI 1) rfl ?_
  refine Z.callVI (σ := σ) B (M' := mX11_refuse) (as := [.int (nI 1)]) (st := []) (v := .int (-nI 1)) dX11_says_22 wX11_refuse iX11_refuse sX11_refuse kX11_63 (hl.n (k := 0) (by decide)) (hl.k (k := 0) (by decide)) (by decide) rfl rfl (t_X11_refuse (σ := σ) hl (b := 1) (by decide)) rfl rfl (by decide) (by decide) (Nat.le_of_ble_eq_true rfl) (by decide) (by decide) ?_
  refine Z.eqσ (τ := (zuX σ 43 (upd (zX σ 43) 1 (zX σ 43 1 + nI 1)))) rfl ?_
  refine Z.iret B Rt dX11_says_25 (ty := .int) rfl rfl (by decide) (by decide) ?_
  exact ⟨rfl, rfl⟩

theorem t_K_says_1k {σ : zSt} (hl : Lay σ) {s : Nat} (hs : s < 8) {k : Int32} (hk : zOut k 7) : Dt mX11_says [.ref 0, .int (nI s), .int k] σ (some (.int (-nI 1))) (zuX σ 43 (upd (zX σ 43) 1 (zX σ 43 1 + nI 1))) := by
  have hqs := (hl.shelf hs).2
  refine Dt.of (by decide) (Nat.le_of_ble_eq_true rfl) fun κ B Rt => ?_
  show Z κ 0 0 σ 0 [(0, .ref 0), (1, .int (nI s)), (2, .int k)] []
  refine Z.aload_n B dX11_says_0 (v := .ref 0) rfl rfl ?_
  refine Z.iload_n B dX11_says_1 (x := nI s) rfl ?_
  refine Z.callVI (σ := σ) B (M' := mX11_shelfAt) (as := [.int (nI s)]) (st := []) (v := .ref (2 + 2 * s)) dX11_says_2 wX11_shelfAt iX11_shelfAt sX11_shelfAt kX11_59 (hl.n (k := 0) (by decide)) (hl.k (k := 0) (by decide)) (by decide) rfl rfl (t_X11_shelfAt_in (σ := σ) hl hs) rfl rfl (by decide) (by decide) (Nat.le_of_ble_eq_true rfl) (by decide) (by decide) ?_
  refine Z.astore_n B dX11_says_5 (by decide) rfl (L' := [(0, .ref 0), (1, .int (nI s)), (2, .int k), (3, .ref (2 + 2 * s))]) rfl ?_
  refine Z.aload_n B dX11_says_6 (v := .ref (2 + 2 * s)) rfl rfl ?_
  refine Z.ifnull_r B dX11_says_7 ?_
  refine Z.iload_n B dX11_says_10 (x := k) rfl ?_
  refine Z.if_lt B dX11_says_11 (tgt := 20) rfl (fun h11 => ?_) (fun h11 => ?_)
  · skip
    refine Z.aload_n B dX11_says_20 (v := .ref 0) rfl rfl ?_
    refine Z.iconst B dX11_says_21 (v := nI 1) rfl ?_
    refine Z.callVI (σ := σ) B (M' := mX11_refuse) (as := [.int (nI 1)]) (st := []) (v := .int (-nI 1)) dX11_says_22 wX11_refuse iX11_refuse sX11_refuse kX11_63 (hl.n (k := 0) (by decide)) (hl.k (k := 0) (by decide)) (by decide) rfl rfl (t_X11_refuse (σ := σ) hl (b := 1) (by decide)) rfl rfl (by decide) (by decide) (Nat.le_of_ble_eq_true rfl) (by decide) (by decide) ?_
    refine Z.eqσ (τ := (zuX σ 43 (upd (zX σ 43) 1 (zX σ 43 1 + nI 1)))) rfl ?_
    refine Z.iret B Rt dX11_says_25 (ty := .int) rfl rfl (by decide) (by decide) ?_
    exact ⟨rfl, rfl⟩
  · skip
    refine Z.iload_n B dX11_says_14 (x := k) rfl ?_
    refine Z.bipush B dX11_says_15 (v := nI 6) rfl ?_
    refine Z.icmp_le B dX11_says_17 (tgt := 26) rfl (fun h17 => (zo_le hk h11 h17 (by decide)).elim) (fun h17 => ?_)
    refine Z.aload_n B dX11_says_20 (v := .ref 0) rfl rfl ?_
    refine Z.iconst B dX11_says_21 (v := nI 1) rfl ?_
    refine Z.callVI (σ := σ) B (M' := mX11_refuse) (as := [.int (nI 1)]) (st := []) (v := .int (-nI 1)) dX11_says_22 wX11_refuse iX11_refuse sX11_refuse kX11_63 (hl.n (k := 0) (by decide)) (hl.k (k := 0) (by decide)) (by decide) rfl rfl (t_X11_refuse (σ := σ) hl (b := 1) (by decide)) rfl rfl (by decide) (by decide) (Nat.le_of_ble_eq_true rfl) (by decide) (by decide) ?_
    refine Z.eqσ (τ := (zuX σ 43 (upd (zX σ 43) 1 (zX σ 43 1 + nI 1)))) rfl ?_
    refine Z.iret B Rt dX11_says_25 (ty := .int) rfl rfl (by decide) (by decide) ?_
    exact ⟨rfl, rfl⟩

theorem t_K_says_2 {σ : zSt} (hl : Lay σ) {s : Nat} (hs : s < 8) {o m : Nat} (hh : zRw σ (2 + 2 * s) o m){k : Nat} (hk : k < 7)  : Dt mX11_says [.ref 0, .int (nI s), .int (nI k)] σ (some (.int (-nI 2))) (zuX σ 43 (upd (zX σ 43) 2 (zX σ 43 2 + nI 1))) := by
  have hqs := (hl.shelf hs).2
  refine Dt.of (by decide) (Nat.le_of_ble_eq_true rfl) fun κ B Rt => ?_
  show Z κ 0 0 σ 0 [(0, .ref 0), (1, .int (nI s)), (2, .int (nI k))] []
  refine Z.aload_n B dX11_says_0 (v := .ref 0) rfl rfl ?_
  refine Z.iload_n B dX11_says_1 (x := nI s) rfl ?_
  refine Z.callVI (σ := σ) B (M' := mX11_shelfAt) (as := [.int (nI s)]) (st := []) (v := .ref (2 + 2 * s)) dX11_says_2 wX11_shelfAt iX11_shelfAt sX11_shelfAt kX11_59 (hl.n (k := 0) (by decide)) (hl.k (k := 0) (by decide)) (by decide) rfl rfl (t_X11_shelfAt_in (σ := σ) hl hs) rfl rfl (by decide) (by decide) (Nat.le_of_ble_eq_true rfl) (by decide) (by decide) ?_
  refine Z.astore_n B dX11_says_5 (by decide) rfl (L' := [(0, .ref 0), (1, .int (nI s)), (2, .int (nI k)), (3, .ref (2 + 2 * s))]) rfl ?_
  refine Z.aload_n B dX11_says_6 (v := .ref (2 + 2 * s)) rfl rfl ?_
  refine Z.ifnull_r B dX11_says_7 ?_
  refine Z.iload_n B dX11_says_10 (x := nI k) rfl ?_
  refine Z.if_ltN B dX11_says_11 (tgt := 20) rfl (by omega) ?_
  refine Z.iload_n B dX11_says_14 (x := nI k) rfl ?_
  refine Z.bipush B dX11_says_15 (v := nI 6) rfl ?_
  refine Z.icmp_leN B dX11_says_17 (tgt := 26) rfl (by omega) (by omega) (fun h17 => ?_) (fun h17 => by exfalso; first | omega | contradiction | simp_all)
  refine Z.aload_n B dX11_says_26 (v := .ref (2 + 2 * s)) rfl rfl ?_
  refine Z.callVI (σ := σ) B (M' := mX6_holdsRow) (as := []) (st := []) (v := .int (nI 1)) dX11_says_27 wX6_holdsRow iX6_holdsRow sX6_holdsRow kX11_71 (Nat.lt_of_succ_lt hqs.1) hqs.2.1 (by decide) rfl rfl (t_X6_holdsRow_1 (σ := σ) hqs (Nat.lt_of_le_of_lt hh.2.1 (by decide)) hh.1) rfl rfl (by decide) (by decide) (Nat.le_of_ble_eq_true rfl) (by decide) (by decide) ?_
  refine Z.if_eqN B dX11_says_30 (tgt := 39) rfl (by omega) (fun h30 => by exfalso; first | omega | contradiction | simp_all) (fun h30 => ?_)
  refine Z.aload_n B dX11_says_33 (v := .ref 0) rfl rfl ?_
  refine Z.iconst B dX11_says_34 (v := nI 2) rfl ?_
  refine Z.callVI (σ := σ) B (M' := mX11_refuse) (as := [.int (nI 2)]) (st := []) (v := .int (-nI 2)) dX11_says_35 wX11_refuse iX11_refuse sX11_refuse kX11_63 (hl.n (k := 0) (by decide)) (hl.k (k := 0) (by decide)) (by decide) rfl rfl (t_X11_refuse (σ := σ) hl (b := 2) (by decide)) rfl rfl (by decide) (by decide) (Nat.le_of_ble_eq_true rfl) (by decide) (by decide) ?_
  refine Z.eqσ (τ := (zuX σ 43 (upd (zX σ 43) 2 (zX σ 43 2 + nI 1)))) rfl ?_
  refine Z.iret B Rt dX11_says_38 (ty := .int) rfl rfl (by decide) (by decide) ?_
  exact ⟨rfl, rfl⟩

theorem t_K_says_3 {σ : zSt} (hl : Lay σ) {n a y : Nat} (H : zHd σ n a y) {s : Nat} (hs : s < 8) (hh : zNo σ (2 + 2 * s)) {k : Nat} (hk : k < 7)  : Dt mX11_says [.ref 0, .int (nI s), .int (nI k)] σ (some (.int (-nI 3))) (zuX σ 43 (upd (zX σ 43) 3 (zX σ 43 3 + nI 1))) := by
  have hqs := (hl.shelf hs).2
  obtain ⟨-, hn, hn8, ha, ha4, hy, hy8⟩ := id H
  refine Dt.of (by decide) (Nat.le_of_ble_eq_true rfl) fun κ B Rt => ?_
  show Z κ 0 0 σ 0 [(0, .ref 0), (1, .int (nI s)), (2, .int (nI k))] []
  refine Z.aload_n B dX11_says_0 (v := .ref 0) rfl rfl ?_
  refine Z.iload_n B dX11_says_1 (x := nI s) rfl ?_
  refine Z.callVI (σ := σ) B (M' := mX11_shelfAt) (as := [.int (nI s)]) (st := []) (v := .ref (2 + 2 * s)) dX11_says_2 wX11_shelfAt iX11_shelfAt sX11_shelfAt kX11_59 (hl.n (k := 0) (by decide)) (hl.k (k := 0) (by decide)) (by decide) rfl rfl (t_X11_shelfAt_in (σ := σ) hl hs) rfl rfl (by decide) (by decide) (Nat.le_of_ble_eq_true rfl) (by decide) (by decide) ?_
  refine Z.astore_n B dX11_says_5 (by decide) rfl (L' := [(0, .ref 0), (1, .int (nI s)), (2, .int (nI k)), (3, .ref (2 + 2 * s))]) rfl ?_
  refine Z.aload_n B dX11_says_6 (v := .ref (2 + 2 * s)) rfl rfl ?_
  refine Z.ifnull_r B dX11_says_7 ?_
  refine Z.iload_n B dX11_says_10 (x := nI k) rfl ?_
  refine Z.if_ltN B dX11_says_11 (tgt := 20) rfl (by omega) ?_
  refine Z.iload_n B dX11_says_14 (x := nI k) rfl ?_
  refine Z.bipush B dX11_says_15 (v := nI 6) rfl ?_
  refine Z.icmp_leN B dX11_says_17 (tgt := 26) rfl (by omega) (by omega) (fun h17 => ?_) (fun h17 => by exfalso; first | omega | contradiction | simp_all)
  refine Z.aload_n B dX11_says_26 (v := .ref (2 + 2 * s)) rfl rfl ?_
  refine Z.callVI (σ := σ) B (M' := mX6_holdsRow) (as := []) (st := []) (v := .int (nI 0)) dX11_says_27 wX6_holdsRow iX6_holdsRow sX6_holdsRow kX11_71 (Nat.lt_of_succ_lt hqs.1) hqs.2.1 (by decide) rfl rfl (t_X6_holdsRow_0 (σ := σ) hqs hh.1) rfl rfl (by decide) (by decide) (Nat.le_of_ble_eq_true rfl) (by decide) (by decide) ?_
  refine Z.if_eqN B dX11_says_30 (tgt := 39) rfl (by omega) (fun h30 => ?_) (fun h30 => by exfalso; first | omega | contradiction | simp_all)
  refine Z.aload_n B dX11_says_39 (v := .ref 0) rfl rfl ?_
  refine Z.getR (σ := σ) B fX11_28_11 dX11_says_40 (hl.n (k := 0) (by decide)) (hl.k (k := 0) (by decide)) (by decide) (j := 20) (hl.r (k := 0) (f := 2) (by decide) (by decide)) ?_
  refine Z.aload_n B dX11_says_43 (v := .ref (2 + 2 * s)) rfl rfl ?_
  refine Z.callVI (σ := σ) B (M' := mX6_wayHeld) (as := []) (st := [.ref 20]) (v := .int (zX σ (2 + 2 * s) 3)) dX11_says_44 wX6_wayHeld iX6_wayHeld sX6_wayHeld kX11_114 (Nat.lt_of_succ_lt hqs.1) hqs.2.1 (by decide) rfl rfl (t_X6_wayHeld (σ := σ) hqs) rfl rfl (by decide) (by decide) (Nat.le_of_ble_eq_true rfl) (by decide) (by decide) ?_
  rw [hh.2.2]
  refine Z.callVI (σ := σ) B (M' := mX1_wayAt) (as := [.int (-1)]) (st := []) (v := .null) dX11_says_47 wX1_wayAt iX1_wayAt sX1_wayAt kX11_102 (hl.n (k := 20) (by decide)) (hl.k (k := 20) (by decide)) (by decide) rfl rfl (t_X1_wayAt_out (σ := σ) H (Or.inl (by decide))) rfl rfl (by decide) (by decide) (Nat.le_of_ble_eq_true rfl) (by decide) (by decide) ?_
  refine Z.astore B dX11_says_50 (by decide) rfl (L' := [(0, .ref 0), (1, .int (nI s)), (2, .int (nI k)), (3, .ref (2 + 2 * s)), (4, .null)]) rfl ?_
  refine Z.aload B dX11_says_52 (v := .null) rfl rfl ?_
  refine Z.ifnonnull_n B dX11_says_54 ?_
  refine Z.aload_n B dX11_says_57 (v := .ref 0) rfl rfl ?_
  refine Z.iconst B dX11_says_58 (v := nI 3) rfl ?_
  refine Z.callVI (σ := σ) B (M' := mX11_refuse) (as := [.int (nI 3)]) (st := []) (v := .int (-nI 3)) dX11_says_59 wX11_refuse iX11_refuse sX11_refuse kX11_63 (hl.n (k := 0) (by decide)) (hl.k (k := 0) (by decide)) (by decide) rfl rfl (t_X11_refuse (σ := σ) hl (b := 3) (by decide)) rfl rfl (by decide) (by decide) (Nat.le_of_ble_eq_true rfl) (by decide) (by decide) ?_
  refine Z.eqσ (τ := (zuX σ 43 (upd (zX σ 43) 3 (zX σ 43 3 + nI 1)))) rfl ?_
  refine Z.goto B dX11_says_62 (tgt := 72) rfl ?_
  refine Z.iret B Rt dX11_says_72 (ty := .int) rfl rfl (by decide) (by decide) ?_
  exact ⟨rfl, rfl⟩

theorem t_K_says_0_0_0 {σ : zSt} (hl : Lay σ) {n a y : Nat} (H : zHd σ n a y) {od : Nat → Nat} (ho : zOd σ a od) {s : Nat} (hs : s < 8) {i8 : Nat} (hh : zWa σ (2 + 2 * s) i8) {q pa num : Nat} (hi : i8 < y) (hq : zR σ 24 i8 = some q) (hw : zWo σ q 0 pa num) : Dt mX11_says [.ref 0, .int (nI s), .int (nI 0)] σ (some (.int (nI pa))) σ := by
  have hqs := (hl.shelf hs).2
  obtain ⟨-, hn, hn8, ha, ha4, hy, hy8⟩ := id H
  refine Dt.of (by decide) (Nat.le_of_ble_eq_true rfl) fun κ B Rt => ?_
  show Z κ 0 0 σ 0 [(0, .ref 0), (1, .int (nI s)), (2, .int (nI 0))] []
  refine Z.aload_n B dX11_says_0 (v := .ref 0) rfl rfl ?_
  refine Z.iload_n B dX11_says_1 (x := nI s) rfl ?_
  refine Z.callVI (σ := σ) B (M' := mX11_shelfAt) (as := [.int (nI s)]) (st := []) (v := .ref (2 + 2 * s)) dX11_says_2 wX11_shelfAt iX11_shelfAt sX11_shelfAt kX11_59 (hl.n (k := 0) (by decide)) (hl.k (k := 0) (by decide)) (by decide) rfl rfl (t_X11_shelfAt_in (σ := σ) hl hs) rfl rfl (by decide) (by decide) (Nat.le_of_ble_eq_true rfl) (by decide) (by decide) ?_
  refine Z.astore_n B dX11_says_5 (by decide) rfl (L' := [(0, .ref 0), (1, .int (nI s)), (2, .int (nI 0)), (3, .ref (2 + 2 * s))]) rfl ?_
  refine Z.aload_n B dX11_says_6 (v := .ref (2 + 2 * s)) rfl rfl ?_
  refine Z.ifnull_r B dX11_says_7 ?_
  refine Z.iload_n B dX11_says_10 (x := nI 0) rfl ?_
  refine Z.if_ltN B dX11_says_11 (tgt := 20) rfl (by omega) ?_
  refine Z.iload_n B dX11_says_14 (x := nI 0) rfl ?_
  refine Z.bipush B dX11_says_15 (v := nI 6) rfl ?_
  refine Z.icmp_leN B dX11_says_17 (tgt := 26) rfl (by omega) (by omega) (fun h17 => ?_) (fun h17 => by exfalso; first | omega | contradiction | simp_all)
  refine Z.aload_n B dX11_says_26 (v := .ref (2 + 2 * s)) rfl rfl ?_
  refine Z.callVI (σ := σ) B (M' := mX6_holdsRow) (as := []) (st := []) (v := .int (nI 0)) dX11_says_27 wX6_holdsRow iX6_holdsRow sX6_holdsRow kX11_71 (Nat.lt_of_succ_lt hqs.1) hqs.2.1 (by decide) rfl rfl (t_X6_holdsRow_0 (σ := σ) hqs hh.1) rfl rfl (by decide) (by decide) (Nat.le_of_ble_eq_true rfl) (by decide) (by decide) ?_
  refine Z.if_eqN B dX11_says_30 (tgt := 39) rfl (by omega) (fun h30 => ?_) (fun h30 => by exfalso; first | omega | contradiction | simp_all)
  refine Z.aload_n B dX11_says_39 (v := .ref 0) rfl rfl ?_
  refine Z.getR (σ := σ) B fX11_28_11 dX11_says_40 (hl.n (k := 0) (by decide)) (hl.k (k := 0) (by decide)) (by decide) (j := 20) (hl.r (k := 0) (f := 2) (by decide) (by decide)) ?_
  refine Z.aload_n B dX11_says_43 (v := .ref (2 + 2 * s)) rfl rfl ?_
  refine Z.callVI (σ := σ) B (M' := mX6_wayHeld) (as := []) (st := [.ref 20]) (v := .int (zX σ (2 + 2 * s) 3)) dX11_says_44 wX6_wayHeld iX6_wayHeld sX6_wayHeld kX11_114 (Nat.lt_of_succ_lt hqs.1) hqs.2.1 (by decide) rfl rfl (t_X6_wayHeld (σ := σ) hqs) rfl rfl (by decide) (by decide) (Nat.le_of_ble_eq_true rfl) (by decide) (by decide) ?_
  rw [hh.2.2.1]
  refine Z.callVI (σ := σ) B (M' := mX1_wayAt) (as := [.int (nI i8)]) (st := []) (v := .ref q) dX11_says_47 wX1_wayAt iX1_wayAt sX1_wayAt kX11_102 (hl.n (k := 20) (by decide)) (hl.k (k := 20) (by decide)) (by decide) rfl rfl (t_X1_wayAt_in (σ := σ) H hi hq) rfl rfl (by decide) (by decide) (Nat.le_of_ble_eq_true rfl) (by decide) (by decide) ?_
  refine Z.astore B dX11_says_50 (by decide) rfl (L' := [(0, .ref 0), (1, .int (nI s)), (2, .int (nI 0)), (3, .ref (2 + 2 * s)), (4, .ref q)]) rfl ?_
  refine Z.aload B dX11_says_52 (v := .ref q) rfl rfl ?_
  refine Z.ifnonnull_r B dX11_says_54 (tgt := 65) rfl ?_
  refine Z.aload_n B dX11_says_65 (v := .ref 0) rfl rfl ?_
  refine Z.aload B dX11_says_66 (v := .ref q) rfl rfl ?_
  refine Z.iload_n B dX11_says_68 (x := nI 0) rfl ?_
  refine Z.callVI (σ := σ) B (M' := mX11_saysAs) (as := [.ref q, .int (nI 0)]) (st := []) (v := .int (nI pa)) dX11_says_69 wX11_saysAs iX11_saysAs sX11_saysAs kX11_117 (hl.n (k := 0) (by decide)) (hl.k (k := 0) (by decide)) (by decide) rfl rfl (t_K_saysAs_0_0 (σ := σ) hl H ho hw) rfl rfl (by decide) (by decide) (Nat.le_of_ble_eq_true rfl) (by decide) (by decide) ?_
  refine Z.iret B Rt dX11_says_72 (ty := .int) rfl rfl (by decide) (by decide) ?_
  exact ⟨rfl, rfl⟩

theorem t_K_says_0_0_1 {σ : zSt} (hl : Lay σ) {n a y : Nat} (H : zHd σ n a y) {od : Nat → Nat} (ho : zOd σ a od) {s : Nat} (hs : s < 8) {i8 : Nat} (hh : zWa σ (2 + 2 * s) i8) {q pa num : Nat} (hi : i8 < y) (hq : zR σ 24 i8 = some q) (hw : zWo σ q 0 pa num) : Dt mX11_says [.ref 0, .int (nI s), .int (nI 1)] σ (some (.int (-nI 2))) (zuX σ 43 (upd (zX σ 43) 2 (zX σ 43 2 + nI 1))) := by
  have hqs := (hl.shelf hs).2
  obtain ⟨-, hn, hn8, ha, ha4, hy, hy8⟩ := id H
  refine Dt.of (by decide) (Nat.le_of_ble_eq_true rfl) fun κ B Rt => ?_
  show Z κ 0 0 σ 0 [(0, .ref 0), (1, .int (nI s)), (2, .int (nI 1))] []
  refine Z.aload_n B dX11_says_0 (v := .ref 0) rfl rfl ?_
  refine Z.iload_n B dX11_says_1 (x := nI s) rfl ?_
  refine Z.callVI (σ := σ) B (M' := mX11_shelfAt) (as := [.int (nI s)]) (st := []) (v := .ref (2 + 2 * s)) dX11_says_2 wX11_shelfAt iX11_shelfAt sX11_shelfAt kX11_59 (hl.n (k := 0) (by decide)) (hl.k (k := 0) (by decide)) (by decide) rfl rfl (t_X11_shelfAt_in (σ := σ) hl hs) rfl rfl (by decide) (by decide) (Nat.le_of_ble_eq_true rfl) (by decide) (by decide) ?_
  refine Z.astore_n B dX11_says_5 (by decide) rfl (L' := [(0, .ref 0), (1, .int (nI s)), (2, .int (nI 1)), (3, .ref (2 + 2 * s))]) rfl ?_
  refine Z.aload_n B dX11_says_6 (v := .ref (2 + 2 * s)) rfl rfl ?_
  refine Z.ifnull_r B dX11_says_7 ?_
  refine Z.iload_n B dX11_says_10 (x := nI 1) rfl ?_
  refine Z.if_ltN B dX11_says_11 (tgt := 20) rfl (by omega) ?_
  refine Z.iload_n B dX11_says_14 (x := nI 1) rfl ?_
  refine Z.bipush B dX11_says_15 (v := nI 6) rfl ?_
  refine Z.icmp_leN B dX11_says_17 (tgt := 26) rfl (by omega) (by omega) (fun h17 => ?_) (fun h17 => by exfalso; first | omega | contradiction | simp_all)
  refine Z.aload_n B dX11_says_26 (v := .ref (2 + 2 * s)) rfl rfl ?_
  refine Z.callVI (σ := σ) B (M' := mX6_holdsRow) (as := []) (st := []) (v := .int (nI 0)) dX11_says_27 wX6_holdsRow iX6_holdsRow sX6_holdsRow kX11_71 (Nat.lt_of_succ_lt hqs.1) hqs.2.1 (by decide) rfl rfl (t_X6_holdsRow_0 (σ := σ) hqs hh.1) rfl rfl (by decide) (by decide) (Nat.le_of_ble_eq_true rfl) (by decide) (by decide) ?_
  refine Z.if_eqN B dX11_says_30 (tgt := 39) rfl (by omega) (fun h30 => ?_) (fun h30 => by exfalso; first | omega | contradiction | simp_all)
  refine Z.aload_n B dX11_says_39 (v := .ref 0) rfl rfl ?_
  refine Z.getR (σ := σ) B fX11_28_11 dX11_says_40 (hl.n (k := 0) (by decide)) (hl.k (k := 0) (by decide)) (by decide) (j := 20) (hl.r (k := 0) (f := 2) (by decide) (by decide)) ?_
  refine Z.aload_n B dX11_says_43 (v := .ref (2 + 2 * s)) rfl rfl ?_
  refine Z.callVI (σ := σ) B (M' := mX6_wayHeld) (as := []) (st := [.ref 20]) (v := .int (zX σ (2 + 2 * s) 3)) dX11_says_44 wX6_wayHeld iX6_wayHeld sX6_wayHeld kX11_114 (Nat.lt_of_succ_lt hqs.1) hqs.2.1 (by decide) rfl rfl (t_X6_wayHeld (σ := σ) hqs) rfl rfl (by decide) (by decide) (Nat.le_of_ble_eq_true rfl) (by decide) (by decide) ?_
  rw [hh.2.2.1]
  refine Z.callVI (σ := σ) B (M' := mX1_wayAt) (as := [.int (nI i8)]) (st := []) (v := .ref q) dX11_says_47 wX1_wayAt iX1_wayAt sX1_wayAt kX11_102 (hl.n (k := 20) (by decide)) (hl.k (k := 20) (by decide)) (by decide) rfl rfl (t_X1_wayAt_in (σ := σ) H hi hq) rfl rfl (by decide) (by decide) (Nat.le_of_ble_eq_true rfl) (by decide) (by decide) ?_
  refine Z.astore B dX11_says_50 (by decide) rfl (L' := [(0, .ref 0), (1, .int (nI s)), (2, .int (nI 1)), (3, .ref (2 + 2 * s)), (4, .ref q)]) rfl ?_
  refine Z.aload B dX11_says_52 (v := .ref q) rfl rfl ?_
  refine Z.ifnonnull_r B dX11_says_54 (tgt := 65) rfl ?_
  refine Z.aload_n B dX11_says_65 (v := .ref 0) rfl rfl ?_
  refine Z.aload B dX11_says_66 (v := .ref q) rfl rfl ?_
  refine Z.iload_n B dX11_says_68 (x := nI 1) rfl ?_
  refine Z.callVI (σ := σ) B (M' := mX11_saysAs) (as := [.ref q, .int (nI 1)]) (st := []) (v := .int (-nI 2)) dX11_says_69 wX11_saysAs iX11_saysAs sX11_saysAs kX11_117 (hl.n (k := 0) (by decide)) (hl.k (k := 0) (by decide)) (by decide) rfl rfl (t_K_saysAs_0_1 (σ := σ) hl H ho hw) rfl rfl (by decide) (by decide) (Nat.le_of_ble_eq_true rfl) (by decide) (by decide) ?_
  refine Z.eqσ (τ := (zuX σ 43 (upd (zX σ 43) 2 (zX σ 43 2 + nI 1)))) rfl ?_
  refine Z.iret B Rt dX11_says_72 (ty := .int) rfl rfl (by decide) (by decide) ?_
  exact ⟨rfl, rfl⟩

theorem t_K_says_0_0_2 {σ : zSt} (hl : Lay σ) {n a y : Nat} (H : zHd σ n a y) {od : Nat → Nat} (ho : zOd σ a od) {s : Nat} (hs : s < 8) {i8 : Nat} (hh : zWa σ (2 + 2 * s) i8) {q pa num : Nat} (hi : i8 < y) (hq : zR σ 24 i8 = some q) (hw : zWo σ q 0 pa num) : Dt mX11_says [.ref 0, .int (nI s), .int (nI 2)] σ (some (.int (-nI 2))) (zuX σ 43 (upd (zX σ 43) 2 (zX σ 43 2 + nI 1))) := by
  have hqs := (hl.shelf hs).2
  obtain ⟨-, hn, hn8, ha, ha4, hy, hy8⟩ := id H
  refine Dt.of (by decide) (Nat.le_of_ble_eq_true rfl) fun κ B Rt => ?_
  show Z κ 0 0 σ 0 [(0, .ref 0), (1, .int (nI s)), (2, .int (nI 2))] []
  refine Z.aload_n B dX11_says_0 (v := .ref 0) rfl rfl ?_
  refine Z.iload_n B dX11_says_1 (x := nI s) rfl ?_
  refine Z.callVI (σ := σ) B (M' := mX11_shelfAt) (as := [.int (nI s)]) (st := []) (v := .ref (2 + 2 * s)) dX11_says_2 wX11_shelfAt iX11_shelfAt sX11_shelfAt kX11_59 (hl.n (k := 0) (by decide)) (hl.k (k := 0) (by decide)) (by decide) rfl rfl (t_X11_shelfAt_in (σ := σ) hl hs) rfl rfl (by decide) (by decide) (Nat.le_of_ble_eq_true rfl) (by decide) (by decide) ?_
  refine Z.astore_n B dX11_says_5 (by decide) rfl (L' := [(0, .ref 0), (1, .int (nI s)), (2, .int (nI 2)), (3, .ref (2 + 2 * s))]) rfl ?_
  refine Z.aload_n B dX11_says_6 (v := .ref (2 + 2 * s)) rfl rfl ?_
  refine Z.ifnull_r B dX11_says_7 ?_
  refine Z.iload_n B dX11_says_10 (x := nI 2) rfl ?_
  refine Z.if_ltN B dX11_says_11 (tgt := 20) rfl (by omega) ?_
  refine Z.iload_n B dX11_says_14 (x := nI 2) rfl ?_
  refine Z.bipush B dX11_says_15 (v := nI 6) rfl ?_
  refine Z.icmp_leN B dX11_says_17 (tgt := 26) rfl (by omega) (by omega) (fun h17 => ?_) (fun h17 => by exfalso; first | omega | contradiction | simp_all)
  refine Z.aload_n B dX11_says_26 (v := .ref (2 + 2 * s)) rfl rfl ?_
  refine Z.callVI (σ := σ) B (M' := mX6_holdsRow) (as := []) (st := []) (v := .int (nI 0)) dX11_says_27 wX6_holdsRow iX6_holdsRow sX6_holdsRow kX11_71 (Nat.lt_of_succ_lt hqs.1) hqs.2.1 (by decide) rfl rfl (t_X6_holdsRow_0 (σ := σ) hqs hh.1) rfl rfl (by decide) (by decide) (Nat.le_of_ble_eq_true rfl) (by decide) (by decide) ?_
  refine Z.if_eqN B dX11_says_30 (tgt := 39) rfl (by omega) (fun h30 => ?_) (fun h30 => by exfalso; first | omega | contradiction | simp_all)
  refine Z.aload_n B dX11_says_39 (v := .ref 0) rfl rfl ?_
  refine Z.getR (σ := σ) B fX11_28_11 dX11_says_40 (hl.n (k := 0) (by decide)) (hl.k (k := 0) (by decide)) (by decide) (j := 20) (hl.r (k := 0) (f := 2) (by decide) (by decide)) ?_
  refine Z.aload_n B dX11_says_43 (v := .ref (2 + 2 * s)) rfl rfl ?_
  refine Z.callVI (σ := σ) B (M' := mX6_wayHeld) (as := []) (st := [.ref 20]) (v := .int (zX σ (2 + 2 * s) 3)) dX11_says_44 wX6_wayHeld iX6_wayHeld sX6_wayHeld kX11_114 (Nat.lt_of_succ_lt hqs.1) hqs.2.1 (by decide) rfl rfl (t_X6_wayHeld (σ := σ) hqs) rfl rfl (by decide) (by decide) (Nat.le_of_ble_eq_true rfl) (by decide) (by decide) ?_
  rw [hh.2.2.1]
  refine Z.callVI (σ := σ) B (M' := mX1_wayAt) (as := [.int (nI i8)]) (st := []) (v := .ref q) dX11_says_47 wX1_wayAt iX1_wayAt sX1_wayAt kX11_102 (hl.n (k := 20) (by decide)) (hl.k (k := 20) (by decide)) (by decide) rfl rfl (t_X1_wayAt_in (σ := σ) H hi hq) rfl rfl (by decide) (by decide) (Nat.le_of_ble_eq_true rfl) (by decide) (by decide) ?_
  refine Z.astore B dX11_says_50 (by decide) rfl (L' := [(0, .ref 0), (1, .int (nI s)), (2, .int (nI 2)), (3, .ref (2 + 2 * s)), (4, .ref q)]) rfl ?_
  refine Z.aload B dX11_says_52 (v := .ref q) rfl rfl ?_
  refine Z.ifnonnull_r B dX11_says_54 (tgt := 65) rfl ?_
  refine Z.aload_n B dX11_says_65 (v := .ref 0) rfl rfl ?_
  refine Z.aload B dX11_says_66 (v := .ref q) rfl rfl ?_
  refine Z.iload_n B dX11_says_68 (x := nI 2) rfl ?_
  refine Z.callVI (σ := σ) B (M' := mX11_saysAs) (as := [.ref q, .int (nI 2)]) (st := []) (v := .int (-nI 2)) dX11_says_69 wX11_saysAs iX11_saysAs sX11_saysAs kX11_117 (hl.n (k := 0) (by decide)) (hl.k (k := 0) (by decide)) (by decide) rfl rfl (t_K_saysAs_0_2 (σ := σ) hl H ho hw) rfl rfl (by decide) (by decide) (Nat.le_of_ble_eq_true rfl) (by decide) (by decide) ?_
  refine Z.eqσ (τ := (zuX σ 43 (upd (zX σ 43) 2 (zX σ 43 2 + nI 1)))) rfl ?_
  refine Z.iret B Rt dX11_says_72 (ty := .int) rfl rfl (by decide) (by decide) ?_
  exact ⟨rfl, rfl⟩

theorem t_K_says_0_0_3 {σ : zSt} (hl : Lay σ) {n a y : Nat} (H : zHd σ n a y) {od : Nat → Nat} (ho : zOd σ a od) {s : Nat} (hs : s < 8) {i8 : Nat} (hh : zWa σ (2 + 2 * s) i8) {q pa num : Nat} (hi : i8 < y) (hq : zR σ 24 i8 = some q) (hw : zWo σ q 0 pa num) : Dt mX11_says [.ref 0, .int (nI s), .int (nI 3)] σ (some (.int (-nI 2))) (zuX σ 43 (upd (zX σ 43) 2 (zX σ 43 2 + nI 1))) := by
  have hqs := (hl.shelf hs).2
  obtain ⟨-, hn, hn8, ha, ha4, hy, hy8⟩ := id H
  refine Dt.of (by decide) (Nat.le_of_ble_eq_true rfl) fun κ B Rt => ?_
  show Z κ 0 0 σ 0 [(0, .ref 0), (1, .int (nI s)), (2, .int (nI 3))] []
  refine Z.aload_n B dX11_says_0 (v := .ref 0) rfl rfl ?_
  refine Z.iload_n B dX11_says_1 (x := nI s) rfl ?_
  refine Z.callVI (σ := σ) B (M' := mX11_shelfAt) (as := [.int (nI s)]) (st := []) (v := .ref (2 + 2 * s)) dX11_says_2 wX11_shelfAt iX11_shelfAt sX11_shelfAt kX11_59 (hl.n (k := 0) (by decide)) (hl.k (k := 0) (by decide)) (by decide) rfl rfl (t_X11_shelfAt_in (σ := σ) hl hs) rfl rfl (by decide) (by decide) (Nat.le_of_ble_eq_true rfl) (by decide) (by decide) ?_
  refine Z.astore_n B dX11_says_5 (by decide) rfl (L' := [(0, .ref 0), (1, .int (nI s)), (2, .int (nI 3)), (3, .ref (2 + 2 * s))]) rfl ?_
  refine Z.aload_n B dX11_says_6 (v := .ref (2 + 2 * s)) rfl rfl ?_
  refine Z.ifnull_r B dX11_says_7 ?_
  refine Z.iload_n B dX11_says_10 (x := nI 3) rfl ?_
  refine Z.if_ltN B dX11_says_11 (tgt := 20) rfl (by omega) ?_
  refine Z.iload_n B dX11_says_14 (x := nI 3) rfl ?_
  refine Z.bipush B dX11_says_15 (v := nI 6) rfl ?_
  refine Z.icmp_leN B dX11_says_17 (tgt := 26) rfl (by omega) (by omega) (fun h17 => ?_) (fun h17 => by exfalso; first | omega | contradiction | simp_all)
  refine Z.aload_n B dX11_says_26 (v := .ref (2 + 2 * s)) rfl rfl ?_
  refine Z.callVI (σ := σ) B (M' := mX6_holdsRow) (as := []) (st := []) (v := .int (nI 0)) dX11_says_27 wX6_holdsRow iX6_holdsRow sX6_holdsRow kX11_71 (Nat.lt_of_succ_lt hqs.1) hqs.2.1 (by decide) rfl rfl (t_X6_holdsRow_0 (σ := σ) hqs hh.1) rfl rfl (by decide) (by decide) (Nat.le_of_ble_eq_true rfl) (by decide) (by decide) ?_
  refine Z.if_eqN B dX11_says_30 (tgt := 39) rfl (by omega) (fun h30 => ?_) (fun h30 => by exfalso; first | omega | contradiction | simp_all)
  refine Z.aload_n B dX11_says_39 (v := .ref 0) rfl rfl ?_
  refine Z.getR (σ := σ) B fX11_28_11 dX11_says_40 (hl.n (k := 0) (by decide)) (hl.k (k := 0) (by decide)) (by decide) (j := 20) (hl.r (k := 0) (f := 2) (by decide) (by decide)) ?_
  refine Z.aload_n B dX11_says_43 (v := .ref (2 + 2 * s)) rfl rfl ?_
  refine Z.callVI (σ := σ) B (M' := mX6_wayHeld) (as := []) (st := [.ref 20]) (v := .int (zX σ (2 + 2 * s) 3)) dX11_says_44 wX6_wayHeld iX6_wayHeld sX6_wayHeld kX11_114 (Nat.lt_of_succ_lt hqs.1) hqs.2.1 (by decide) rfl rfl (t_X6_wayHeld (σ := σ) hqs) rfl rfl (by decide) (by decide) (Nat.le_of_ble_eq_true rfl) (by decide) (by decide) ?_
  rw [hh.2.2.1]
  refine Z.callVI (σ := σ) B (M' := mX1_wayAt) (as := [.int (nI i8)]) (st := []) (v := .ref q) dX11_says_47 wX1_wayAt iX1_wayAt sX1_wayAt kX11_102 (hl.n (k := 20) (by decide)) (hl.k (k := 20) (by decide)) (by decide) rfl rfl (t_X1_wayAt_in (σ := σ) H hi hq) rfl rfl (by decide) (by decide) (Nat.le_of_ble_eq_true rfl) (by decide) (by decide) ?_
  refine Z.astore B dX11_says_50 (by decide) rfl (L' := [(0, .ref 0), (1, .int (nI s)), (2, .int (nI 3)), (3, .ref (2 + 2 * s)), (4, .ref q)]) rfl ?_
  refine Z.aload B dX11_says_52 (v := .ref q) rfl rfl ?_
  refine Z.ifnonnull_r B dX11_says_54 (tgt := 65) rfl ?_
  refine Z.aload_n B dX11_says_65 (v := .ref 0) rfl rfl ?_
  refine Z.aload B dX11_says_66 (v := .ref q) rfl rfl ?_
  refine Z.iload_n B dX11_says_68 (x := nI 3) rfl ?_
  refine Z.callVI (σ := σ) B (M' := mX11_saysAs) (as := [.ref q, .int (nI 3)]) (st := []) (v := .int (-nI 2)) dX11_says_69 wX11_saysAs iX11_saysAs sX11_saysAs kX11_117 (hl.n (k := 0) (by decide)) (hl.k (k := 0) (by decide)) (by decide) rfl rfl (t_K_saysAs_0_3 (σ := σ) hl H ho hw) rfl rfl (by decide) (by decide) (Nat.le_of_ble_eq_true rfl) (by decide) (by decide) ?_
  refine Z.eqσ (τ := (zuX σ 43 (upd (zX σ 43) 2 (zX σ 43 2 + nI 1)))) rfl ?_
  refine Z.iret B Rt dX11_says_72 (ty := .int) rfl rfl (by decide) (by decide) ?_
  exact ⟨rfl, rfl⟩

theorem t_K_says_0_0_4 {σ : zSt} (hl : Lay σ) {n a y : Nat} (H : zHd σ n a y) {od : Nat → Nat} (ho : zOd σ a od) {s : Nat} (hs : s < 8) {i8 : Nat} (hh : zWa σ (2 + 2 * s) i8) {q pa num : Nat} (hi : i8 < y) (hq : zR σ 24 i8 = some q) (hw : zWo σ q 0 pa num) : Dt mX11_says [.ref 0, .int (nI s), .int (nI 4)] σ (some (.int (-nI 2))) (zuX σ 43 (upd (zX σ 43) 2 (zX σ 43 2 + nI 1))) := by
  have hqs := (hl.shelf hs).2
  obtain ⟨-, hn, hn8, ha, ha4, hy, hy8⟩ := id H
  refine Dt.of (by decide) (Nat.le_of_ble_eq_true rfl) fun κ B Rt => ?_
  show Z κ 0 0 σ 0 [(0, .ref 0), (1, .int (nI s)), (2, .int (nI 4))] []
  refine Z.aload_n B dX11_says_0 (v := .ref 0) rfl rfl ?_
  refine Z.iload_n B dX11_says_1 (x := nI s) rfl ?_
  refine Z.callVI (σ := σ) B (M' := mX11_shelfAt) (as := [.int (nI s)]) (st := []) (v := .ref (2 + 2 * s)) dX11_says_2 wX11_shelfAt iX11_shelfAt sX11_shelfAt kX11_59 (hl.n (k := 0) (by decide)) (hl.k (k := 0) (by decide)) (by decide) rfl rfl (t_X11_shelfAt_in (σ := σ) hl hs) rfl rfl (by decide) (by decide) (Nat.le_of_ble_eq_true rfl) (by decide) (by decide) ?_
  refine Z.astore_n B dX11_says_5 (by decide) rfl (L' := [(0, .ref 0), (1, .int (nI s)), (2, .int (nI 4)), (3, .ref (2 + 2 * s))]) rfl ?_
  refine Z.aload_n B dX11_says_6 (v := .ref (2 + 2 * s)) rfl rfl ?_
  refine Z.ifnull_r B dX11_says_7 ?_
  refine Z.iload_n B dX11_says_10 (x := nI 4) rfl ?_
  refine Z.if_ltN B dX11_says_11 (tgt := 20) rfl (by omega) ?_
  refine Z.iload_n B dX11_says_14 (x := nI 4) rfl ?_
  refine Z.bipush B dX11_says_15 (v := nI 6) rfl ?_
  refine Z.icmp_leN B dX11_says_17 (tgt := 26) rfl (by omega) (by omega) (fun h17 => ?_) (fun h17 => by exfalso; first | omega | contradiction | simp_all)
  refine Z.aload_n B dX11_says_26 (v := .ref (2 + 2 * s)) rfl rfl ?_
  refine Z.callVI (σ := σ) B (M' := mX6_holdsRow) (as := []) (st := []) (v := .int (nI 0)) dX11_says_27 wX6_holdsRow iX6_holdsRow sX6_holdsRow kX11_71 (Nat.lt_of_succ_lt hqs.1) hqs.2.1 (by decide) rfl rfl (t_X6_holdsRow_0 (σ := σ) hqs hh.1) rfl rfl (by decide) (by decide) (Nat.le_of_ble_eq_true rfl) (by decide) (by decide) ?_
  refine Z.if_eqN B dX11_says_30 (tgt := 39) rfl (by omega) (fun h30 => ?_) (fun h30 => by exfalso; first | omega | contradiction | simp_all)
  refine Z.aload_n B dX11_says_39 (v := .ref 0) rfl rfl ?_
  refine Z.getR (σ := σ) B fX11_28_11 dX11_says_40 (hl.n (k := 0) (by decide)) (hl.k (k := 0) (by decide)) (by decide) (j := 20) (hl.r (k := 0) (f := 2) (by decide) (by decide)) ?_
  refine Z.aload_n B dX11_says_43 (v := .ref (2 + 2 * s)) rfl rfl ?_
  refine Z.callVI (σ := σ) B (M' := mX6_wayHeld) (as := []) (st := [.ref 20]) (v := .int (zX σ (2 + 2 * s) 3)) dX11_says_44 wX6_wayHeld iX6_wayHeld sX6_wayHeld kX11_114 (Nat.lt_of_succ_lt hqs.1) hqs.2.1 (by decide) rfl rfl (t_X6_wayHeld (σ := σ) hqs) rfl rfl (by decide) (by decide) (Nat.le_of_ble_eq_true rfl) (by decide) (by decide) ?_
  rw [hh.2.2.1]
  refine Z.callVI (σ := σ) B (M' := mX1_wayAt) (as := [.int (nI i8)]) (st := []) (v := .ref q) dX11_says_47 wX1_wayAt iX1_wayAt sX1_wayAt kX11_102 (hl.n (k := 20) (by decide)) (hl.k (k := 20) (by decide)) (by decide) rfl rfl (t_X1_wayAt_in (σ := σ) H hi hq) rfl rfl (by decide) (by decide) (Nat.le_of_ble_eq_true rfl) (by decide) (by decide) ?_
  refine Z.astore B dX11_says_50 (by decide) rfl (L' := [(0, .ref 0), (1, .int (nI s)), (2, .int (nI 4)), (3, .ref (2 + 2 * s)), (4, .ref q)]) rfl ?_
  refine Z.aload B dX11_says_52 (v := .ref q) rfl rfl ?_
  refine Z.ifnonnull_r B dX11_says_54 (tgt := 65) rfl ?_
  refine Z.aload_n B dX11_says_65 (v := .ref 0) rfl rfl ?_
  refine Z.aload B dX11_says_66 (v := .ref q) rfl rfl ?_
  refine Z.iload_n B dX11_says_68 (x := nI 4) rfl ?_
  refine Z.callVI (σ := σ) B (M' := mX11_saysAs) (as := [.ref q, .int (nI 4)]) (st := []) (v := .int (-nI 2)) dX11_says_69 wX11_saysAs iX11_saysAs sX11_saysAs kX11_117 (hl.n (k := 0) (by decide)) (hl.k (k := 0) (by decide)) (by decide) rfl rfl (t_K_saysAs_0_4 (σ := σ) hl H ho hw) rfl rfl (by decide) (by decide) (Nat.le_of_ble_eq_true rfl) (by decide) (by decide) ?_
  refine Z.eqσ (τ := (zuX σ 43 (upd (zX σ 43) 2 (zX σ 43 2 + nI 1)))) rfl ?_
  refine Z.iret B Rt dX11_says_72 (ty := .int) rfl rfl (by decide) (by decide) ?_
  exact ⟨rfl, rfl⟩

theorem t_K_says_0_0_5 {σ : zSt} (hl : Lay σ) {n a y : Nat} (H : zHd σ n a y) {od : Nat → Nat} (ho : zOd σ a od) {s : Nat} (hs : s < 8) {i8 : Nat} (hh : zWa σ (2 + 2 * s) i8) {q pa num : Nat} (hi : i8 < y) (hq : zR σ 24 i8 = some q) (hw : zWo σ q 0 pa num) : Dt mX11_says [.ref 0, .int (nI s), .int (nI 5)] σ (some (.int (-nI 2))) (zuX σ 43 (upd (zX σ 43) 2 (zX σ 43 2 + nI 1))) := by
  have hqs := (hl.shelf hs).2
  obtain ⟨-, hn, hn8, ha, ha4, hy, hy8⟩ := id H
  refine Dt.of (by decide) (Nat.le_of_ble_eq_true rfl) fun κ B Rt => ?_
  show Z κ 0 0 σ 0 [(0, .ref 0), (1, .int (nI s)), (2, .int (nI 5))] []
  refine Z.aload_n B dX11_says_0 (v := .ref 0) rfl rfl ?_
  refine Z.iload_n B dX11_says_1 (x := nI s) rfl ?_
  refine Z.callVI (σ := σ) B (M' := mX11_shelfAt) (as := [.int (nI s)]) (st := []) (v := .ref (2 + 2 * s)) dX11_says_2 wX11_shelfAt iX11_shelfAt sX11_shelfAt kX11_59 (hl.n (k := 0) (by decide)) (hl.k (k := 0) (by decide)) (by decide) rfl rfl (t_X11_shelfAt_in (σ := σ) hl hs) rfl rfl (by decide) (by decide) (Nat.le_of_ble_eq_true rfl) (by decide) (by decide) ?_
  refine Z.astore_n B dX11_says_5 (by decide) rfl (L' := [(0, .ref 0), (1, .int (nI s)), (2, .int (nI 5)), (3, .ref (2 + 2 * s))]) rfl ?_
  refine Z.aload_n B dX11_says_6 (v := .ref (2 + 2 * s)) rfl rfl ?_
  refine Z.ifnull_r B dX11_says_7 ?_
  refine Z.iload_n B dX11_says_10 (x := nI 5) rfl ?_
  refine Z.if_ltN B dX11_says_11 (tgt := 20) rfl (by omega) ?_
  refine Z.iload_n B dX11_says_14 (x := nI 5) rfl ?_
  refine Z.bipush B dX11_says_15 (v := nI 6) rfl ?_
  refine Z.icmp_leN B dX11_says_17 (tgt := 26) rfl (by omega) (by omega) (fun h17 => ?_) (fun h17 => by exfalso; first | omega | contradiction | simp_all)
  refine Z.aload_n B dX11_says_26 (v := .ref (2 + 2 * s)) rfl rfl ?_
  refine Z.callVI (σ := σ) B (M' := mX6_holdsRow) (as := []) (st := []) (v := .int (nI 0)) dX11_says_27 wX6_holdsRow iX6_holdsRow sX6_holdsRow kX11_71 (Nat.lt_of_succ_lt hqs.1) hqs.2.1 (by decide) rfl rfl (t_X6_holdsRow_0 (σ := σ) hqs hh.1) rfl rfl (by decide) (by decide) (Nat.le_of_ble_eq_true rfl) (by decide) (by decide) ?_
  refine Z.if_eqN B dX11_says_30 (tgt := 39) rfl (by omega) (fun h30 => ?_) (fun h30 => by exfalso; first | omega | contradiction | simp_all)
  refine Z.aload_n B dX11_says_39 (v := .ref 0) rfl rfl ?_
  refine Z.getR (σ := σ) B fX11_28_11 dX11_says_40 (hl.n (k := 0) (by decide)) (hl.k (k := 0) (by decide)) (by decide) (j := 20) (hl.r (k := 0) (f := 2) (by decide) (by decide)) ?_
  refine Z.aload_n B dX11_says_43 (v := .ref (2 + 2 * s)) rfl rfl ?_
  refine Z.callVI (σ := σ) B (M' := mX6_wayHeld) (as := []) (st := [.ref 20]) (v := .int (zX σ (2 + 2 * s) 3)) dX11_says_44 wX6_wayHeld iX6_wayHeld sX6_wayHeld kX11_114 (Nat.lt_of_succ_lt hqs.1) hqs.2.1 (by decide) rfl rfl (t_X6_wayHeld (σ := σ) hqs) rfl rfl (by decide) (by decide) (Nat.le_of_ble_eq_true rfl) (by decide) (by decide) ?_
  rw [hh.2.2.1]
  refine Z.callVI (σ := σ) B (M' := mX1_wayAt) (as := [.int (nI i8)]) (st := []) (v := .ref q) dX11_says_47 wX1_wayAt iX1_wayAt sX1_wayAt kX11_102 (hl.n (k := 20) (by decide)) (hl.k (k := 20) (by decide)) (by decide) rfl rfl (t_X1_wayAt_in (σ := σ) H hi hq) rfl rfl (by decide) (by decide) (Nat.le_of_ble_eq_true rfl) (by decide) (by decide) ?_
  refine Z.astore B dX11_says_50 (by decide) rfl (L' := [(0, .ref 0), (1, .int (nI s)), (2, .int (nI 5)), (3, .ref (2 + 2 * s)), (4, .ref q)]) rfl ?_
  refine Z.aload B dX11_says_52 (v := .ref q) rfl rfl ?_
  refine Z.ifnonnull_r B dX11_says_54 (tgt := 65) rfl ?_
  refine Z.aload_n B dX11_says_65 (v := .ref 0) rfl rfl ?_
  refine Z.aload B dX11_says_66 (v := .ref q) rfl rfl ?_
  refine Z.iload_n B dX11_says_68 (x := nI 5) rfl ?_
  refine Z.callVI (σ := σ) B (M' := mX11_saysAs) (as := [.ref q, .int (nI 5)]) (st := []) (v := .int (-nI 2)) dX11_says_69 wX11_saysAs iX11_saysAs sX11_saysAs kX11_117 (hl.n (k := 0) (by decide)) (hl.k (k := 0) (by decide)) (by decide) rfl rfl (t_K_saysAs_0_5 (σ := σ) hl H ho hw) rfl rfl (by decide) (by decide) (Nat.le_of_ble_eq_true rfl) (by decide) (by decide) ?_
  refine Z.eqσ (τ := (zuX σ 43 (upd (zX σ 43) 2 (zX σ 43 2 + nI 1)))) rfl ?_
  refine Z.iret B Rt dX11_says_72 (ty := .int) rfl rfl (by decide) (by decide) ?_
  exact ⟨rfl, rfl⟩

theorem t_K_says_0_0_6 {σ : zSt} (hl : Lay σ) {n a y : Nat} (H : zHd σ n a y) {od : Nat → Nat} (ho : zOd σ a od) {s : Nat} (hs : s < 8) {i8 : Nat} (hh : zWa σ (2 + 2 * s) i8) {q pa num : Nat} (hi : i8 < y) (hq : zR σ 24 i8 = some q) (hw : zWo σ q 0 pa num) : Dt mX11_says [.ref 0, .int (nI s), .int (nI 6)] σ (some (.int (-nI 2))) (zuX σ 43 (upd (zX σ 43) 2 (zX σ 43 2 + nI 1))) := by
  have hqs := (hl.shelf hs).2
  obtain ⟨-, hn, hn8, ha, ha4, hy, hy8⟩ := id H
  refine Dt.of (by decide) (Nat.le_of_ble_eq_true rfl) fun κ B Rt => ?_
  show Z κ 0 0 σ 0 [(0, .ref 0), (1, .int (nI s)), (2, .int (nI 6))] []
  refine Z.aload_n B dX11_says_0 (v := .ref 0) rfl rfl ?_
  refine Z.iload_n B dX11_says_1 (x := nI s) rfl ?_
  refine Z.callVI (σ := σ) B (M' := mX11_shelfAt) (as := [.int (nI s)]) (st := []) (v := .ref (2 + 2 * s)) dX11_says_2 wX11_shelfAt iX11_shelfAt sX11_shelfAt kX11_59 (hl.n (k := 0) (by decide)) (hl.k (k := 0) (by decide)) (by decide) rfl rfl (t_X11_shelfAt_in (σ := σ) hl hs) rfl rfl (by decide) (by decide) (Nat.le_of_ble_eq_true rfl) (by decide) (by decide) ?_
  refine Z.astore_n B dX11_says_5 (by decide) rfl (L' := [(0, .ref 0), (1, .int (nI s)), (2, .int (nI 6)), (3, .ref (2 + 2 * s))]) rfl ?_
  refine Z.aload_n B dX11_says_6 (v := .ref (2 + 2 * s)) rfl rfl ?_
  refine Z.ifnull_r B dX11_says_7 ?_
  refine Z.iload_n B dX11_says_10 (x := nI 6) rfl ?_
  refine Z.if_ltN B dX11_says_11 (tgt := 20) rfl (by omega) ?_
  refine Z.iload_n B dX11_says_14 (x := nI 6) rfl ?_
  refine Z.bipush B dX11_says_15 (v := nI 6) rfl ?_
  refine Z.icmp_leN B dX11_says_17 (tgt := 26) rfl (by omega) (by omega) (fun h17 => ?_) (fun h17 => by exfalso; first | omega | contradiction | simp_all)
  refine Z.aload_n B dX11_says_26 (v := .ref (2 + 2 * s)) rfl rfl ?_
  refine Z.callVI (σ := σ) B (M' := mX6_holdsRow) (as := []) (st := []) (v := .int (nI 0)) dX11_says_27 wX6_holdsRow iX6_holdsRow sX6_holdsRow kX11_71 (Nat.lt_of_succ_lt hqs.1) hqs.2.1 (by decide) rfl rfl (t_X6_holdsRow_0 (σ := σ) hqs hh.1) rfl rfl (by decide) (by decide) (Nat.le_of_ble_eq_true rfl) (by decide) (by decide) ?_
  refine Z.if_eqN B dX11_says_30 (tgt := 39) rfl (by omega) (fun h30 => ?_) (fun h30 => by exfalso; first | omega | contradiction | simp_all)
  refine Z.aload_n B dX11_says_39 (v := .ref 0) rfl rfl ?_
  refine Z.getR (σ := σ) B fX11_28_11 dX11_says_40 (hl.n (k := 0) (by decide)) (hl.k (k := 0) (by decide)) (by decide) (j := 20) (hl.r (k := 0) (f := 2) (by decide) (by decide)) ?_
  refine Z.aload_n B dX11_says_43 (v := .ref (2 + 2 * s)) rfl rfl ?_
  refine Z.callVI (σ := σ) B (M' := mX6_wayHeld) (as := []) (st := [.ref 20]) (v := .int (zX σ (2 + 2 * s) 3)) dX11_says_44 wX6_wayHeld iX6_wayHeld sX6_wayHeld kX11_114 (Nat.lt_of_succ_lt hqs.1) hqs.2.1 (by decide) rfl rfl (t_X6_wayHeld (σ := σ) hqs) rfl rfl (by decide) (by decide) (Nat.le_of_ble_eq_true rfl) (by decide) (by decide) ?_
  rw [hh.2.2.1]
  refine Z.callVI (σ := σ) B (M' := mX1_wayAt) (as := [.int (nI i8)]) (st := []) (v := .ref q) dX11_says_47 wX1_wayAt iX1_wayAt sX1_wayAt kX11_102 (hl.n (k := 20) (by decide)) (hl.k (k := 20) (by decide)) (by decide) rfl rfl (t_X1_wayAt_in (σ := σ) H hi hq) rfl rfl (by decide) (by decide) (Nat.le_of_ble_eq_true rfl) (by decide) (by decide) ?_
  refine Z.astore B dX11_says_50 (by decide) rfl (L' := [(0, .ref 0), (1, .int (nI s)), (2, .int (nI 6)), (3, .ref (2 + 2 * s)), (4, .ref q)]) rfl ?_
  refine Z.aload B dX11_says_52 (v := .ref q) rfl rfl ?_
  refine Z.ifnonnull_r B dX11_says_54 (tgt := 65) rfl ?_
  refine Z.aload_n B dX11_says_65 (v := .ref 0) rfl rfl ?_
  refine Z.aload B dX11_says_66 (v := .ref q) rfl rfl ?_
  refine Z.iload_n B dX11_says_68 (x := nI 6) rfl ?_
  refine Z.callVI (σ := σ) B (M' := mX11_saysAs) (as := [.ref q, .int (nI 6)]) (st := []) (v := .int (-nI 2)) dX11_says_69 wX11_saysAs iX11_saysAs sX11_saysAs kX11_117 (hl.n (k := 0) (by decide)) (hl.k (k := 0) (by decide)) (by decide) rfl rfl (t_K_saysAs_0_6 (σ := σ) hl H ho hw) rfl rfl (by decide) (by decide) (Nat.le_of_ble_eq_true rfl) (by decide) (by decide) ?_
  refine Z.eqσ (τ := (zuX σ 43 (upd (zX σ 43) 2 (zX σ 43 2 + nI 1)))) rfl ?_
  refine Z.iret B Rt dX11_says_72 (ty := .int) rfl rfl (by decide) (by decide) ?_
  exact ⟨rfl, rfl⟩

theorem t_K_says_0_1_0 {σ : zSt} (hl : Lay σ) {n a y : Nat} (H : zHd σ n a y) {od : Nat → Nat} (ho : zOd σ a od) {s : Nat} (hs : s < 8) {i8 : Nat} (hh : zWa σ (2 + 2 * s) i8) {q pa num : Nat} (hi : i8 < y) (hq : zR σ 24 i8 = some q) (hw : zWo σ q 1 pa num) : Dt mX11_says [.ref 0, .int (nI s), .int (nI 0)] σ (some (.int (nI pa))) σ := by
  have hqs := (hl.shelf hs).2
  obtain ⟨-, hn, hn8, ha, ha4, hy, hy8⟩ := id H
  refine Dt.of (by decide) (Nat.le_of_ble_eq_true rfl) fun κ B Rt => ?_
  show Z κ 0 0 σ 0 [(0, .ref 0), (1, .int (nI s)), (2, .int (nI 0))] []
  refine Z.aload_n B dX11_says_0 (v := .ref 0) rfl rfl ?_
  refine Z.iload_n B dX11_says_1 (x := nI s) rfl ?_
  refine Z.callVI (σ := σ) B (M' := mX11_shelfAt) (as := [.int (nI s)]) (st := []) (v := .ref (2 + 2 * s)) dX11_says_2 wX11_shelfAt iX11_shelfAt sX11_shelfAt kX11_59 (hl.n (k := 0) (by decide)) (hl.k (k := 0) (by decide)) (by decide) rfl rfl (t_X11_shelfAt_in (σ := σ) hl hs) rfl rfl (by decide) (by decide) (Nat.le_of_ble_eq_true rfl) (by decide) (by decide) ?_
  refine Z.astore_n B dX11_says_5 (by decide) rfl (L' := [(0, .ref 0), (1, .int (nI s)), (2, .int (nI 0)), (3, .ref (2 + 2 * s))]) rfl ?_
  refine Z.aload_n B dX11_says_6 (v := .ref (2 + 2 * s)) rfl rfl ?_
  refine Z.ifnull_r B dX11_says_7 ?_
  refine Z.iload_n B dX11_says_10 (x := nI 0) rfl ?_
  refine Z.if_ltN B dX11_says_11 (tgt := 20) rfl (by omega) ?_
  refine Z.iload_n B dX11_says_14 (x := nI 0) rfl ?_
  refine Z.bipush B dX11_says_15 (v := nI 6) rfl ?_
  refine Z.icmp_leN B dX11_says_17 (tgt := 26) rfl (by omega) (by omega) (fun h17 => ?_) (fun h17 => by exfalso; first | omega | contradiction | simp_all)
  refine Z.aload_n B dX11_says_26 (v := .ref (2 + 2 * s)) rfl rfl ?_
  refine Z.callVI (σ := σ) B (M' := mX6_holdsRow) (as := []) (st := []) (v := .int (nI 0)) dX11_says_27 wX6_holdsRow iX6_holdsRow sX6_holdsRow kX11_71 (Nat.lt_of_succ_lt hqs.1) hqs.2.1 (by decide) rfl rfl (t_X6_holdsRow_0 (σ := σ) hqs hh.1) rfl rfl (by decide) (by decide) (Nat.le_of_ble_eq_true rfl) (by decide) (by decide) ?_
  refine Z.if_eqN B dX11_says_30 (tgt := 39) rfl (by omega) (fun h30 => ?_) (fun h30 => by exfalso; first | omega | contradiction | simp_all)
  refine Z.aload_n B dX11_says_39 (v := .ref 0) rfl rfl ?_
  refine Z.getR (σ := σ) B fX11_28_11 dX11_says_40 (hl.n (k := 0) (by decide)) (hl.k (k := 0) (by decide)) (by decide) (j := 20) (hl.r (k := 0) (f := 2) (by decide) (by decide)) ?_
  refine Z.aload_n B dX11_says_43 (v := .ref (2 + 2 * s)) rfl rfl ?_
  refine Z.callVI (σ := σ) B (M' := mX6_wayHeld) (as := []) (st := [.ref 20]) (v := .int (zX σ (2 + 2 * s) 3)) dX11_says_44 wX6_wayHeld iX6_wayHeld sX6_wayHeld kX11_114 (Nat.lt_of_succ_lt hqs.1) hqs.2.1 (by decide) rfl rfl (t_X6_wayHeld (σ := σ) hqs) rfl rfl (by decide) (by decide) (Nat.le_of_ble_eq_true rfl) (by decide) (by decide) ?_
  rw [hh.2.2.1]
  refine Z.callVI (σ := σ) B (M' := mX1_wayAt) (as := [.int (nI i8)]) (st := []) (v := .ref q) dX11_says_47 wX1_wayAt iX1_wayAt sX1_wayAt kX11_102 (hl.n (k := 20) (by decide)) (hl.k (k := 20) (by decide)) (by decide) rfl rfl (t_X1_wayAt_in (σ := σ) H hi hq) rfl rfl (by decide) (by decide) (Nat.le_of_ble_eq_true rfl) (by decide) (by decide) ?_
  refine Z.astore B dX11_says_50 (by decide) rfl (L' := [(0, .ref 0), (1, .int (nI s)), (2, .int (nI 0)), (3, .ref (2 + 2 * s)), (4, .ref q)]) rfl ?_
  refine Z.aload B dX11_says_52 (v := .ref q) rfl rfl ?_
  refine Z.ifnonnull_r B dX11_says_54 (tgt := 65) rfl ?_
  refine Z.aload_n B dX11_says_65 (v := .ref 0) rfl rfl ?_
  refine Z.aload B dX11_says_66 (v := .ref q) rfl rfl ?_
  refine Z.iload_n B dX11_says_68 (x := nI 0) rfl ?_
  refine Z.callVI (σ := σ) B (M' := mX11_saysAs) (as := [.ref q, .int (nI 0)]) (st := []) (v := .int (nI pa)) dX11_says_69 wX11_saysAs iX11_saysAs sX11_saysAs kX11_117 (hl.n (k := 0) (by decide)) (hl.k (k := 0) (by decide)) (by decide) rfl rfl (t_K_saysAs_1_0 (σ := σ) hl H ho hw) rfl rfl (by decide) (by decide) (Nat.le_of_ble_eq_true rfl) (by decide) (by decide) ?_
  refine Z.iret B Rt dX11_says_72 (ty := .int) rfl rfl (by decide) (by decide) ?_
  exact ⟨rfl, rfl⟩

theorem t_K_says_0_1_1 {σ : zSt} (hl : Lay σ) {n a y : Nat} (H : zHd σ n a y) {od : Nat → Nat} (ho : zOd σ a od) {s : Nat} (hs : s < 8) {i8 : Nat} (hh : zWa σ (2 + 2 * s) i8) {q pa num : Nat} (hi : i8 < y) (hq : zR σ 24 i8 = some q) (hw : zWo σ q 1 pa num) : Dt mX11_says [.ref 0, .int (nI s), .int (nI 1)] σ (some (.int (nI (pa % 11)))) σ := by
  have hqs := (hl.shelf hs).2
  obtain ⟨-, hn, hn8, ha, ha4, hy, hy8⟩ := id H
  refine Dt.of (by decide) (Nat.le_of_ble_eq_true rfl) fun κ B Rt => ?_
  show Z κ 0 0 σ 0 [(0, .ref 0), (1, .int (nI s)), (2, .int (nI 1))] []
  refine Z.aload_n B dX11_says_0 (v := .ref 0) rfl rfl ?_
  refine Z.iload_n B dX11_says_1 (x := nI s) rfl ?_
  refine Z.callVI (σ := σ) B (M' := mX11_shelfAt) (as := [.int (nI s)]) (st := []) (v := .ref (2 + 2 * s)) dX11_says_2 wX11_shelfAt iX11_shelfAt sX11_shelfAt kX11_59 (hl.n (k := 0) (by decide)) (hl.k (k := 0) (by decide)) (by decide) rfl rfl (t_X11_shelfAt_in (σ := σ) hl hs) rfl rfl (by decide) (by decide) (Nat.le_of_ble_eq_true rfl) (by decide) (by decide) ?_
  refine Z.astore_n B dX11_says_5 (by decide) rfl (L' := [(0, .ref 0), (1, .int (nI s)), (2, .int (nI 1)), (3, .ref (2 + 2 * s))]) rfl ?_
  refine Z.aload_n B dX11_says_6 (v := .ref (2 + 2 * s)) rfl rfl ?_
  refine Z.ifnull_r B dX11_says_7 ?_
  refine Z.iload_n B dX11_says_10 (x := nI 1) rfl ?_
  refine Z.if_ltN B dX11_says_11 (tgt := 20) rfl (by omega) ?_
  refine Z.iload_n B dX11_says_14 (x := nI 1) rfl ?_
  refine Z.bipush B dX11_says_15 (v := nI 6) rfl ?_
  refine Z.icmp_leN B dX11_says_17 (tgt := 26) rfl (by omega) (by omega) (fun h17 => ?_) (fun h17 => by exfalso; first | omega | contradiction | simp_all)
  refine Z.aload_n B dX11_says_26 (v := .ref (2 + 2 * s)) rfl rfl ?_
  refine Z.callVI (σ := σ) B (M' := mX6_holdsRow) (as := []) (st := []) (v := .int (nI 0)) dX11_says_27 wX6_holdsRow iX6_holdsRow sX6_holdsRow kX11_71 (Nat.lt_of_succ_lt hqs.1) hqs.2.1 (by decide) rfl rfl (t_X6_holdsRow_0 (σ := σ) hqs hh.1) rfl rfl (by decide) (by decide) (Nat.le_of_ble_eq_true rfl) (by decide) (by decide) ?_
  refine Z.if_eqN B dX11_says_30 (tgt := 39) rfl (by omega) (fun h30 => ?_) (fun h30 => by exfalso; first | omega | contradiction | simp_all)
  refine Z.aload_n B dX11_says_39 (v := .ref 0) rfl rfl ?_
  refine Z.getR (σ := σ) B fX11_28_11 dX11_says_40 (hl.n (k := 0) (by decide)) (hl.k (k := 0) (by decide)) (by decide) (j := 20) (hl.r (k := 0) (f := 2) (by decide) (by decide)) ?_
  refine Z.aload_n B dX11_says_43 (v := .ref (2 + 2 * s)) rfl rfl ?_
  refine Z.callVI (σ := σ) B (M' := mX6_wayHeld) (as := []) (st := [.ref 20]) (v := .int (zX σ (2 + 2 * s) 3)) dX11_says_44 wX6_wayHeld iX6_wayHeld sX6_wayHeld kX11_114 (Nat.lt_of_succ_lt hqs.1) hqs.2.1 (by decide) rfl rfl (t_X6_wayHeld (σ := σ) hqs) rfl rfl (by decide) (by decide) (Nat.le_of_ble_eq_true rfl) (by decide) (by decide) ?_
  rw [hh.2.2.1]
  refine Z.callVI (σ := σ) B (M' := mX1_wayAt) (as := [.int (nI i8)]) (st := []) (v := .ref q) dX11_says_47 wX1_wayAt iX1_wayAt sX1_wayAt kX11_102 (hl.n (k := 20) (by decide)) (hl.k (k := 20) (by decide)) (by decide) rfl rfl (t_X1_wayAt_in (σ := σ) H hi hq) rfl rfl (by decide) (by decide) (Nat.le_of_ble_eq_true rfl) (by decide) (by decide) ?_
  refine Z.astore B dX11_says_50 (by decide) rfl (L' := [(0, .ref 0), (1, .int (nI s)), (2, .int (nI 1)), (3, .ref (2 + 2 * s)), (4, .ref q)]) rfl ?_
  refine Z.aload B dX11_says_52 (v := .ref q) rfl rfl ?_
  refine Z.ifnonnull_r B dX11_says_54 (tgt := 65) rfl ?_
  refine Z.aload_n B dX11_says_65 (v := .ref 0) rfl rfl ?_
  refine Z.aload B dX11_says_66 (v := .ref q) rfl rfl ?_
  refine Z.iload_n B dX11_says_68 (x := nI 1) rfl ?_
  refine Z.callVI (σ := σ) B (M' := mX11_saysAs) (as := [.ref q, .int (nI 1)]) (st := []) (v := .int (nI (pa % 11))) dX11_says_69 wX11_saysAs iX11_saysAs sX11_saysAs kX11_117 (hl.n (k := 0) (by decide)) (hl.k (k := 0) (by decide)) (by decide) rfl rfl (t_K_saysAs_1_1 (σ := σ) hl H ho hw) rfl rfl (by decide) (by decide) (Nat.le_of_ble_eq_true rfl) (by decide) (by decide) ?_
  refine Z.iret B Rt dX11_says_72 (ty := .int) rfl rfl (by decide) (by decide) ?_
  exact ⟨rfl, rfl⟩

theorem t_K_says_0_1_2 {σ : zSt} (hl : Lay σ) {n a y : Nat} (H : zHd σ n a y) {od : Nat → Nat} (ho : zOd σ a od) {s : Nat} (hs : s < 8) {i8 : Nat} (hh : zWa σ (2 + 2 * s) i8) {q pa num : Nat} (hi : i8 < y) (hq : zR σ 24 i8 = some q) (hw : zWo σ q 1 pa num) : Dt mX11_says [.ref 0, .int (nI s), .int (nI 2)] σ (some (.int (-nI 2))) (zuX σ 43 (upd (zX σ 43) 2 (zX σ 43 2 + nI 1))) := by
  have hqs := (hl.shelf hs).2
  obtain ⟨-, hn, hn8, ha, ha4, hy, hy8⟩ := id H
  refine Dt.of (by decide) (Nat.le_of_ble_eq_true rfl) fun κ B Rt => ?_
  show Z κ 0 0 σ 0 [(0, .ref 0), (1, .int (nI s)), (2, .int (nI 2))] []
  refine Z.aload_n B dX11_says_0 (v := .ref 0) rfl rfl ?_
  refine Z.iload_n B dX11_says_1 (x := nI s) rfl ?_
  refine Z.callVI (σ := σ) B (M' := mX11_shelfAt) (as := [.int (nI s)]) (st := []) (v := .ref (2 + 2 * s)) dX11_says_2 wX11_shelfAt iX11_shelfAt sX11_shelfAt kX11_59 (hl.n (k := 0) (by decide)) (hl.k (k := 0) (by decide)) (by decide) rfl rfl (t_X11_shelfAt_in (σ := σ) hl hs) rfl rfl (by decide) (by decide) (Nat.le_of_ble_eq_true rfl) (by decide) (by decide) ?_
  refine Z.astore_n B dX11_says_5 (by decide) rfl (L' := [(0, .ref 0), (1, .int (nI s)), (2, .int (nI 2)), (3, .ref (2 + 2 * s))]) rfl ?_
  refine Z.aload_n B dX11_says_6 (v := .ref (2 + 2 * s)) rfl rfl ?_
  refine Z.ifnull_r B dX11_says_7 ?_
  refine Z.iload_n B dX11_says_10 (x := nI 2) rfl ?_
  refine Z.if_ltN B dX11_says_11 (tgt := 20) rfl (by omega) ?_
  refine Z.iload_n B dX11_says_14 (x := nI 2) rfl ?_
  refine Z.bipush B dX11_says_15 (v := nI 6) rfl ?_
  refine Z.icmp_leN B dX11_says_17 (tgt := 26) rfl (by omega) (by omega) (fun h17 => ?_) (fun h17 => by exfalso; first | omega | contradiction | simp_all)
  refine Z.aload_n B dX11_says_26 (v := .ref (2 + 2 * s)) rfl rfl ?_
  refine Z.callVI (σ := σ) B (M' := mX6_holdsRow) (as := []) (st := []) (v := .int (nI 0)) dX11_says_27 wX6_holdsRow iX6_holdsRow sX6_holdsRow kX11_71 (Nat.lt_of_succ_lt hqs.1) hqs.2.1 (by decide) rfl rfl (t_X6_holdsRow_0 (σ := σ) hqs hh.1) rfl rfl (by decide) (by decide) (Nat.le_of_ble_eq_true rfl) (by decide) (by decide) ?_
  refine Z.if_eqN B dX11_says_30 (tgt := 39) rfl (by omega) (fun h30 => ?_) (fun h30 => by exfalso; first | omega | contradiction | simp_all)
  refine Z.aload_n B dX11_says_39 (v := .ref 0) rfl rfl ?_
  refine Z.getR (σ := σ) B fX11_28_11 dX11_says_40 (hl.n (k := 0) (by decide)) (hl.k (k := 0) (by decide)) (by decide) (j := 20) (hl.r (k := 0) (f := 2) (by decide) (by decide)) ?_
  refine Z.aload_n B dX11_says_43 (v := .ref (2 + 2 * s)) rfl rfl ?_
  refine Z.callVI (σ := σ) B (M' := mX6_wayHeld) (as := []) (st := [.ref 20]) (v := .int (zX σ (2 + 2 * s) 3)) dX11_says_44 wX6_wayHeld iX6_wayHeld sX6_wayHeld kX11_114 (Nat.lt_of_succ_lt hqs.1) hqs.2.1 (by decide) rfl rfl (t_X6_wayHeld (σ := σ) hqs) rfl rfl (by decide) (by decide) (Nat.le_of_ble_eq_true rfl) (by decide) (by decide) ?_
  rw [hh.2.2.1]
  refine Z.callVI (σ := σ) B (M' := mX1_wayAt) (as := [.int (nI i8)]) (st := []) (v := .ref q) dX11_says_47 wX1_wayAt iX1_wayAt sX1_wayAt kX11_102 (hl.n (k := 20) (by decide)) (hl.k (k := 20) (by decide)) (by decide) rfl rfl (t_X1_wayAt_in (σ := σ) H hi hq) rfl rfl (by decide) (by decide) (Nat.le_of_ble_eq_true rfl) (by decide) (by decide) ?_
  refine Z.astore B dX11_says_50 (by decide) rfl (L' := [(0, .ref 0), (1, .int (nI s)), (2, .int (nI 2)), (3, .ref (2 + 2 * s)), (4, .ref q)]) rfl ?_
  refine Z.aload B dX11_says_52 (v := .ref q) rfl rfl ?_
  refine Z.ifnonnull_r B dX11_says_54 (tgt := 65) rfl ?_
  refine Z.aload_n B dX11_says_65 (v := .ref 0) rfl rfl ?_
  refine Z.aload B dX11_says_66 (v := .ref q) rfl rfl ?_
  refine Z.iload_n B dX11_says_68 (x := nI 2) rfl ?_
  refine Z.callVI (σ := σ) B (M' := mX11_saysAs) (as := [.ref q, .int (nI 2)]) (st := []) (v := .int (-nI 2)) dX11_says_69 wX11_saysAs iX11_saysAs sX11_saysAs kX11_117 (hl.n (k := 0) (by decide)) (hl.k (k := 0) (by decide)) (by decide) rfl rfl (t_K_saysAs_1_2 (σ := σ) hl H ho hw) rfl rfl (by decide) (by decide) (Nat.le_of_ble_eq_true rfl) (by decide) (by decide) ?_
  refine Z.eqσ (τ := (zuX σ 43 (upd (zX σ 43) 2 (zX σ 43 2 + nI 1)))) rfl ?_
  refine Z.iret B Rt dX11_says_72 (ty := .int) rfl rfl (by decide) (by decide) ?_
  exact ⟨rfl, rfl⟩

theorem t_K_says_0_1_3 {σ : zSt} (hl : Lay σ) {n a y : Nat} (H : zHd σ n a y) {od : Nat → Nat} (ho : zOd σ a od) {s : Nat} (hs : s < 8) {i8 : Nat} (hh : zWa σ (2 + 2 * s) i8) {q pa num : Nat} (hi : i8 < y) (hq : zR σ 24 i8 = some q) (hw : zWo σ q 1 pa num) : Dt mX11_says [.ref 0, .int (nI s), .int (nI 3)] σ (some (.int (-nI 2))) (zuX σ 43 (upd (zX σ 43) 2 (zX σ 43 2 + nI 1))) := by
  have hqs := (hl.shelf hs).2
  obtain ⟨-, hn, hn8, ha, ha4, hy, hy8⟩ := id H
  refine Dt.of (by decide) (Nat.le_of_ble_eq_true rfl) fun κ B Rt => ?_
  show Z κ 0 0 σ 0 [(0, .ref 0), (1, .int (nI s)), (2, .int (nI 3))] []
  refine Z.aload_n B dX11_says_0 (v := .ref 0) rfl rfl ?_
  refine Z.iload_n B dX11_says_1 (x := nI s) rfl ?_
  refine Z.callVI (σ := σ) B (M' := mX11_shelfAt) (as := [.int (nI s)]) (st := []) (v := .ref (2 + 2 * s)) dX11_says_2 wX11_shelfAt iX11_shelfAt sX11_shelfAt kX11_59 (hl.n (k := 0) (by decide)) (hl.k (k := 0) (by decide)) (by decide) rfl rfl (t_X11_shelfAt_in (σ := σ) hl hs) rfl rfl (by decide) (by decide) (Nat.le_of_ble_eq_true rfl) (by decide) (by decide) ?_
  refine Z.astore_n B dX11_says_5 (by decide) rfl (L' := [(0, .ref 0), (1, .int (nI s)), (2, .int (nI 3)), (3, .ref (2 + 2 * s))]) rfl ?_
  refine Z.aload_n B dX11_says_6 (v := .ref (2 + 2 * s)) rfl rfl ?_
  refine Z.ifnull_r B dX11_says_7 ?_
  refine Z.iload_n B dX11_says_10 (x := nI 3) rfl ?_
  refine Z.if_ltN B dX11_says_11 (tgt := 20) rfl (by omega) ?_
  refine Z.iload_n B dX11_says_14 (x := nI 3) rfl ?_
  refine Z.bipush B dX11_says_15 (v := nI 6) rfl ?_
  refine Z.icmp_leN B dX11_says_17 (tgt := 26) rfl (by omega) (by omega) (fun h17 => ?_) (fun h17 => by exfalso; first | omega | contradiction | simp_all)
  refine Z.aload_n B dX11_says_26 (v := .ref (2 + 2 * s)) rfl rfl ?_
  refine Z.callVI (σ := σ) B (M' := mX6_holdsRow) (as := []) (st := []) (v := .int (nI 0)) dX11_says_27 wX6_holdsRow iX6_holdsRow sX6_holdsRow kX11_71 (Nat.lt_of_succ_lt hqs.1) hqs.2.1 (by decide) rfl rfl (t_X6_holdsRow_0 (σ := σ) hqs hh.1) rfl rfl (by decide) (by decide) (Nat.le_of_ble_eq_true rfl) (by decide) (by decide) ?_
  refine Z.if_eqN B dX11_says_30 (tgt := 39) rfl (by omega) (fun h30 => ?_) (fun h30 => by exfalso; first | omega | contradiction | simp_all)
  refine Z.aload_n B dX11_says_39 (v := .ref 0) rfl rfl ?_
  refine Z.getR (σ := σ) B fX11_28_11 dX11_says_40 (hl.n (k := 0) (by decide)) (hl.k (k := 0) (by decide)) (by decide) (j := 20) (hl.r (k := 0) (f := 2) (by decide) (by decide)) ?_
  refine Z.aload_n B dX11_says_43 (v := .ref (2 + 2 * s)) rfl rfl ?_
  refine Z.callVI (σ := σ) B (M' := mX6_wayHeld) (as := []) (st := [.ref 20]) (v := .int (zX σ (2 + 2 * s) 3)) dX11_says_44 wX6_wayHeld iX6_wayHeld sX6_wayHeld kX11_114 (Nat.lt_of_succ_lt hqs.1) hqs.2.1 (by decide) rfl rfl (t_X6_wayHeld (σ := σ) hqs) rfl rfl (by decide) (by decide) (Nat.le_of_ble_eq_true rfl) (by decide) (by decide) ?_
  rw [hh.2.2.1]
  refine Z.callVI (σ := σ) B (M' := mX1_wayAt) (as := [.int (nI i8)]) (st := []) (v := .ref q) dX11_says_47 wX1_wayAt iX1_wayAt sX1_wayAt kX11_102 (hl.n (k := 20) (by decide)) (hl.k (k := 20) (by decide)) (by decide) rfl rfl (t_X1_wayAt_in (σ := σ) H hi hq) rfl rfl (by decide) (by decide) (Nat.le_of_ble_eq_true rfl) (by decide) (by decide) ?_
  refine Z.astore B dX11_says_50 (by decide) rfl (L' := [(0, .ref 0), (1, .int (nI s)), (2, .int (nI 3)), (3, .ref (2 + 2 * s)), (4, .ref q)]) rfl ?_
  refine Z.aload B dX11_says_52 (v := .ref q) rfl rfl ?_
  refine Z.ifnonnull_r B dX11_says_54 (tgt := 65) rfl ?_
  refine Z.aload_n B dX11_says_65 (v := .ref 0) rfl rfl ?_
  refine Z.aload B dX11_says_66 (v := .ref q) rfl rfl ?_
  refine Z.iload_n B dX11_says_68 (x := nI 3) rfl ?_
  refine Z.callVI (σ := σ) B (M' := mX11_saysAs) (as := [.ref q, .int (nI 3)]) (st := []) (v := .int (-nI 2)) dX11_says_69 wX11_saysAs iX11_saysAs sX11_saysAs kX11_117 (hl.n (k := 0) (by decide)) (hl.k (k := 0) (by decide)) (by decide) rfl rfl (t_K_saysAs_1_3 (σ := σ) hl H ho hw) rfl rfl (by decide) (by decide) (Nat.le_of_ble_eq_true rfl) (by decide) (by decide) ?_
  refine Z.eqσ (τ := (zuX σ 43 (upd (zX σ 43) 2 (zX σ 43 2 + nI 1)))) rfl ?_
  refine Z.iret B Rt dX11_says_72 (ty := .int) rfl rfl (by decide) (by decide) ?_
  exact ⟨rfl, rfl⟩

theorem t_K_says_0_1_4 {σ : zSt} (hl : Lay σ) {n a y : Nat} (H : zHd σ n a y) {od : Nat → Nat} (ho : zOd σ a od) {s : Nat} (hs : s < 8) {i8 : Nat} (hh : zWa σ (2 + 2 * s) i8) {q pa num : Nat} (hi : i8 < y) (hq : zR σ 24 i8 = some q) (hw : zWo σ q 1 pa num) : Dt mX11_says [.ref 0, .int (nI s), .int (nI 4)] σ (some (.int (-nI 2))) (zuX σ 43 (upd (zX σ 43) 2 (zX σ 43 2 + nI 1))) := by
  have hqs := (hl.shelf hs).2
  obtain ⟨-, hn, hn8, ha, ha4, hy, hy8⟩ := id H
  refine Dt.of (by decide) (Nat.le_of_ble_eq_true rfl) fun κ B Rt => ?_
  show Z κ 0 0 σ 0 [(0, .ref 0), (1, .int (nI s)), (2, .int (nI 4))] []
  refine Z.aload_n B dX11_says_0 (v := .ref 0) rfl rfl ?_
  refine Z.iload_n B dX11_says_1 (x := nI s) rfl ?_
  refine Z.callVI (σ := σ) B (M' := mX11_shelfAt) (as := [.int (nI s)]) (st := []) (v := .ref (2 + 2 * s)) dX11_says_2 wX11_shelfAt iX11_shelfAt sX11_shelfAt kX11_59 (hl.n (k := 0) (by decide)) (hl.k (k := 0) (by decide)) (by decide) rfl rfl (t_X11_shelfAt_in (σ := σ) hl hs) rfl rfl (by decide) (by decide) (Nat.le_of_ble_eq_true rfl) (by decide) (by decide) ?_
  refine Z.astore_n B dX11_says_5 (by decide) rfl (L' := [(0, .ref 0), (1, .int (nI s)), (2, .int (nI 4)), (3, .ref (2 + 2 * s))]) rfl ?_
  refine Z.aload_n B dX11_says_6 (v := .ref (2 + 2 * s)) rfl rfl ?_
  refine Z.ifnull_r B dX11_says_7 ?_
  refine Z.iload_n B dX11_says_10 (x := nI 4) rfl ?_
  refine Z.if_ltN B dX11_says_11 (tgt := 20) rfl (by omega) ?_
  refine Z.iload_n B dX11_says_14 (x := nI 4) rfl ?_
  refine Z.bipush B dX11_says_15 (v := nI 6) rfl ?_
  refine Z.icmp_leN B dX11_says_17 (tgt := 26) rfl (by omega) (by omega) (fun h17 => ?_) (fun h17 => by exfalso; first | omega | contradiction | simp_all)
  refine Z.aload_n B dX11_says_26 (v := .ref (2 + 2 * s)) rfl rfl ?_
  refine Z.callVI (σ := σ) B (M' := mX6_holdsRow) (as := []) (st := []) (v := .int (nI 0)) dX11_says_27 wX6_holdsRow iX6_holdsRow sX6_holdsRow kX11_71 (Nat.lt_of_succ_lt hqs.1) hqs.2.1 (by decide) rfl rfl (t_X6_holdsRow_0 (σ := σ) hqs hh.1) rfl rfl (by decide) (by decide) (Nat.le_of_ble_eq_true rfl) (by decide) (by decide) ?_
  refine Z.if_eqN B dX11_says_30 (tgt := 39) rfl (by omega) (fun h30 => ?_) (fun h30 => by exfalso; first | omega | contradiction | simp_all)
  refine Z.aload_n B dX11_says_39 (v := .ref 0) rfl rfl ?_
  refine Z.getR (σ := σ) B fX11_28_11 dX11_says_40 (hl.n (k := 0) (by decide)) (hl.k (k := 0) (by decide)) (by decide) (j := 20) (hl.r (k := 0) (f := 2) (by decide) (by decide)) ?_
  refine Z.aload_n B dX11_says_43 (v := .ref (2 + 2 * s)) rfl rfl ?_
  refine Z.callVI (σ := σ) B (M' := mX6_wayHeld) (as := []) (st := [.ref 20]) (v := .int (zX σ (2 + 2 * s) 3)) dX11_says_44 wX6_wayHeld iX6_wayHeld sX6_wayHeld kX11_114 (Nat.lt_of_succ_lt hqs.1) hqs.2.1 (by decide) rfl rfl (t_X6_wayHeld (σ := σ) hqs) rfl rfl (by decide) (by decide) (Nat.le_of_ble_eq_true rfl) (by decide) (by decide) ?_
  rw [hh.2.2.1]
  refine Z.callVI (σ := σ) B (M' := mX1_wayAt) (as := [.int (nI i8)]) (st := []) (v := .ref q) dX11_says_47 wX1_wayAt iX1_wayAt sX1_wayAt kX11_102 (hl.n (k := 20) (by decide)) (hl.k (k := 20) (by decide)) (by decide) rfl rfl (t_X1_wayAt_in (σ := σ) H hi hq) rfl rfl (by decide) (by decide) (Nat.le_of_ble_eq_true rfl) (by decide) (by decide) ?_
  refine Z.astore B dX11_says_50 (by decide) rfl (L' := [(0, .ref 0), (1, .int (nI s)), (2, .int (nI 4)), (3, .ref (2 + 2 * s)), (4, .ref q)]) rfl ?_
  refine Z.aload B dX11_says_52 (v := .ref q) rfl rfl ?_
  refine Z.ifnonnull_r B dX11_says_54 (tgt := 65) rfl ?_
  refine Z.aload_n B dX11_says_65 (v := .ref 0) rfl rfl ?_
  refine Z.aload B dX11_says_66 (v := .ref q) rfl rfl ?_
  refine Z.iload_n B dX11_says_68 (x := nI 4) rfl ?_
  refine Z.callVI (σ := σ) B (M' := mX11_saysAs) (as := [.ref q, .int (nI 4)]) (st := []) (v := .int (-nI 2)) dX11_says_69 wX11_saysAs iX11_saysAs sX11_saysAs kX11_117 (hl.n (k := 0) (by decide)) (hl.k (k := 0) (by decide)) (by decide) rfl rfl (t_K_saysAs_1_4 (σ := σ) hl H ho hw) rfl rfl (by decide) (by decide) (Nat.le_of_ble_eq_true rfl) (by decide) (by decide) ?_
  refine Z.eqσ (τ := (zuX σ 43 (upd (zX σ 43) 2 (zX σ 43 2 + nI 1)))) rfl ?_
  refine Z.iret B Rt dX11_says_72 (ty := .int) rfl rfl (by decide) (by decide) ?_
  exact ⟨rfl, rfl⟩

theorem t_K_says_0_1_5 {σ : zSt} (hl : Lay σ) {n a y : Nat} (H : zHd σ n a y) {od : Nat → Nat} (ho : zOd σ a od) {s : Nat} (hs : s < 8) {i8 : Nat} (hh : zWa σ (2 + 2 * s) i8) {q pa num : Nat} (hi : i8 < y) (hq : zR σ 24 i8 = some q) (hw : zWo σ q 1 pa num) : Dt mX11_says [.ref 0, .int (nI s), .int (nI 5)] σ (some (.int (-nI 2))) (zuX σ 43 (upd (zX σ 43) 2 (zX σ 43 2 + nI 1))) := by
  have hqs := (hl.shelf hs).2
  obtain ⟨-, hn, hn8, ha, ha4, hy, hy8⟩ := id H
  refine Dt.of (by decide) (Nat.le_of_ble_eq_true rfl) fun κ B Rt => ?_
  show Z κ 0 0 σ 0 [(0, .ref 0), (1, .int (nI s)), (2, .int (nI 5))] []
  refine Z.aload_n B dX11_says_0 (v := .ref 0) rfl rfl ?_
  refine Z.iload_n B dX11_says_1 (x := nI s) rfl ?_
  refine Z.callVI (σ := σ) B (M' := mX11_shelfAt) (as := [.int (nI s)]) (st := []) (v := .ref (2 + 2 * s)) dX11_says_2 wX11_shelfAt iX11_shelfAt sX11_shelfAt kX11_59 (hl.n (k := 0) (by decide)) (hl.k (k := 0) (by decide)) (by decide) rfl rfl (t_X11_shelfAt_in (σ := σ) hl hs) rfl rfl (by decide) (by decide) (Nat.le_of_ble_eq_true rfl) (by decide) (by decide) ?_
  refine Z.astore_n B dX11_says_5 (by decide) rfl (L' := [(0, .ref 0), (1, .int (nI s)), (2, .int (nI 5)), (3, .ref (2 + 2 * s))]) rfl ?_
  refine Z.aload_n B dX11_says_6 (v := .ref (2 + 2 * s)) rfl rfl ?_
  refine Z.ifnull_r B dX11_says_7 ?_
  refine Z.iload_n B dX11_says_10 (x := nI 5) rfl ?_
  refine Z.if_ltN B dX11_says_11 (tgt := 20) rfl (by omega) ?_
  refine Z.iload_n B dX11_says_14 (x := nI 5) rfl ?_
  refine Z.bipush B dX11_says_15 (v := nI 6) rfl ?_
  refine Z.icmp_leN B dX11_says_17 (tgt := 26) rfl (by omega) (by omega) (fun h17 => ?_) (fun h17 => by exfalso; first | omega | contradiction | simp_all)
  refine Z.aload_n B dX11_says_26 (v := .ref (2 + 2 * s)) rfl rfl ?_
  refine Z.callVI (σ := σ) B (M' := mX6_holdsRow) (as := []) (st := []) (v := .int (nI 0)) dX11_says_27 wX6_holdsRow iX6_holdsRow sX6_holdsRow kX11_71 (Nat.lt_of_succ_lt hqs.1) hqs.2.1 (by decide) rfl rfl (t_X6_holdsRow_0 (σ := σ) hqs hh.1) rfl rfl (by decide) (by decide) (Nat.le_of_ble_eq_true rfl) (by decide) (by decide) ?_
  refine Z.if_eqN B dX11_says_30 (tgt := 39) rfl (by omega) (fun h30 => ?_) (fun h30 => by exfalso; first | omega | contradiction | simp_all)
  refine Z.aload_n B dX11_says_39 (v := .ref 0) rfl rfl ?_
  refine Z.getR (σ := σ) B fX11_28_11 dX11_says_40 (hl.n (k := 0) (by decide)) (hl.k (k := 0) (by decide)) (by decide) (j := 20) (hl.r (k := 0) (f := 2) (by decide) (by decide)) ?_
  refine Z.aload_n B dX11_says_43 (v := .ref (2 + 2 * s)) rfl rfl ?_
  refine Z.callVI (σ := σ) B (M' := mX6_wayHeld) (as := []) (st := [.ref 20]) (v := .int (zX σ (2 + 2 * s) 3)) dX11_says_44 wX6_wayHeld iX6_wayHeld sX6_wayHeld kX11_114 (Nat.lt_of_succ_lt hqs.1) hqs.2.1 (by decide) rfl rfl (t_X6_wayHeld (σ := σ) hqs) rfl rfl (by decide) (by decide) (Nat.le_of_ble_eq_true rfl) (by decide) (by decide) ?_
  rw [hh.2.2.1]
  refine Z.callVI (σ := σ) B (M' := mX1_wayAt) (as := [.int (nI i8)]) (st := []) (v := .ref q) dX11_says_47 wX1_wayAt iX1_wayAt sX1_wayAt kX11_102 (hl.n (k := 20) (by decide)) (hl.k (k := 20) (by decide)) (by decide) rfl rfl (t_X1_wayAt_in (σ := σ) H hi hq) rfl rfl (by decide) (by decide) (Nat.le_of_ble_eq_true rfl) (by decide) (by decide) ?_
  refine Z.astore B dX11_says_50 (by decide) rfl (L' := [(0, .ref 0), (1, .int (nI s)), (2, .int (nI 5)), (3, .ref (2 + 2 * s)), (4, .ref q)]) rfl ?_
  refine Z.aload B dX11_says_52 (v := .ref q) rfl rfl ?_
  refine Z.ifnonnull_r B dX11_says_54 (tgt := 65) rfl ?_
  refine Z.aload_n B dX11_says_65 (v := .ref 0) rfl rfl ?_
  refine Z.aload B dX11_says_66 (v := .ref q) rfl rfl ?_
  refine Z.iload_n B dX11_says_68 (x := nI 5) rfl ?_
  refine Z.callVI (σ := σ) B (M' := mX11_saysAs) (as := [.ref q, .int (nI 5)]) (st := []) (v := .int (-nI 2)) dX11_says_69 wX11_saysAs iX11_saysAs sX11_saysAs kX11_117 (hl.n (k := 0) (by decide)) (hl.k (k := 0) (by decide)) (by decide) rfl rfl (t_K_saysAs_1_5 (σ := σ) hl H ho hw) rfl rfl (by decide) (by decide) (Nat.le_of_ble_eq_true rfl) (by decide) (by decide) ?_
  refine Z.eqσ (τ := (zuX σ 43 (upd (zX σ 43) 2 (zX σ 43 2 + nI 1)))) rfl ?_
  refine Z.iret B Rt dX11_says_72 (ty := .int) rfl rfl (by decide) (by decide) ?_
  exact ⟨rfl, rfl⟩

theorem t_K_says_0_1_6 {σ : zSt} (hl : Lay σ) {n a y : Nat} (H : zHd σ n a y) {od : Nat → Nat} (ho : zOd σ a od) {s : Nat} (hs : s < 8) {i8 : Nat} (hh : zWa σ (2 + 2 * s) i8) {q pa num : Nat} (hi : i8 < y) (hq : zR σ 24 i8 = some q) (hw : zWo σ q 1 pa num) : Dt mX11_says [.ref 0, .int (nI s), .int (nI 6)] σ (some (.int (-nI 2))) (zuX σ 43 (upd (zX σ 43) 2 (zX σ 43 2 + nI 1))) := by
  have hqs := (hl.shelf hs).2
  obtain ⟨-, hn, hn8, ha, ha4, hy, hy8⟩ := id H
  refine Dt.of (by decide) (Nat.le_of_ble_eq_true rfl) fun κ B Rt => ?_
  show Z κ 0 0 σ 0 [(0, .ref 0), (1, .int (nI s)), (2, .int (nI 6))] []
  refine Z.aload_n B dX11_says_0 (v := .ref 0) rfl rfl ?_
  refine Z.iload_n B dX11_says_1 (x := nI s) rfl ?_
  refine Z.callVI (σ := σ) B (M' := mX11_shelfAt) (as := [.int (nI s)]) (st := []) (v := .ref (2 + 2 * s)) dX11_says_2 wX11_shelfAt iX11_shelfAt sX11_shelfAt kX11_59 (hl.n (k := 0) (by decide)) (hl.k (k := 0) (by decide)) (by decide) rfl rfl (t_X11_shelfAt_in (σ := σ) hl hs) rfl rfl (by decide) (by decide) (Nat.le_of_ble_eq_true rfl) (by decide) (by decide) ?_
  refine Z.astore_n B dX11_says_5 (by decide) rfl (L' := [(0, .ref 0), (1, .int (nI s)), (2, .int (nI 6)), (3, .ref (2 + 2 * s))]) rfl ?_
  refine Z.aload_n B dX11_says_6 (v := .ref (2 + 2 * s)) rfl rfl ?_
  refine Z.ifnull_r B dX11_says_7 ?_
  refine Z.iload_n B dX11_says_10 (x := nI 6) rfl ?_
  refine Z.if_ltN B dX11_says_11 (tgt := 20) rfl (by omega) ?_
  refine Z.iload_n B dX11_says_14 (x := nI 6) rfl ?_
  refine Z.bipush B dX11_says_15 (v := nI 6) rfl ?_
  refine Z.icmp_leN B dX11_says_17 (tgt := 26) rfl (by omega) (by omega) (fun h17 => ?_) (fun h17 => by exfalso; first | omega | contradiction | simp_all)
  refine Z.aload_n B dX11_says_26 (v := .ref (2 + 2 * s)) rfl rfl ?_
  refine Z.callVI (σ := σ) B (M' := mX6_holdsRow) (as := []) (st := []) (v := .int (nI 0)) dX11_says_27 wX6_holdsRow iX6_holdsRow sX6_holdsRow kX11_71 (Nat.lt_of_succ_lt hqs.1) hqs.2.1 (by decide) rfl rfl (t_X6_holdsRow_0 (σ := σ) hqs hh.1) rfl rfl (by decide) (by decide) (Nat.le_of_ble_eq_true rfl) (by decide) (by decide) ?_
  refine Z.if_eqN B dX11_says_30 (tgt := 39) rfl (by omega) (fun h30 => ?_) (fun h30 => by exfalso; first | omega | contradiction | simp_all)
  refine Z.aload_n B dX11_says_39 (v := .ref 0) rfl rfl ?_
  refine Z.getR (σ := σ) B fX11_28_11 dX11_says_40 (hl.n (k := 0) (by decide)) (hl.k (k := 0) (by decide)) (by decide) (j := 20) (hl.r (k := 0) (f := 2) (by decide) (by decide)) ?_
  refine Z.aload_n B dX11_says_43 (v := .ref (2 + 2 * s)) rfl rfl ?_
  refine Z.callVI (σ := σ) B (M' := mX6_wayHeld) (as := []) (st := [.ref 20]) (v := .int (zX σ (2 + 2 * s) 3)) dX11_says_44 wX6_wayHeld iX6_wayHeld sX6_wayHeld kX11_114 (Nat.lt_of_succ_lt hqs.1) hqs.2.1 (by decide) rfl rfl (t_X6_wayHeld (σ := σ) hqs) rfl rfl (by decide) (by decide) (Nat.le_of_ble_eq_true rfl) (by decide) (by decide) ?_
  rw [hh.2.2.1]
  refine Z.callVI (σ := σ) B (M' := mX1_wayAt) (as := [.int (nI i8)]) (st := []) (v := .ref q) dX11_says_47 wX1_wayAt iX1_wayAt sX1_wayAt kX11_102 (hl.n (k := 20) (by decide)) (hl.k (k := 20) (by decide)) (by decide) rfl rfl (t_X1_wayAt_in (σ := σ) H hi hq) rfl rfl (by decide) (by decide) (Nat.le_of_ble_eq_true rfl) (by decide) (by decide) ?_
  refine Z.astore B dX11_says_50 (by decide) rfl (L' := [(0, .ref 0), (1, .int (nI s)), (2, .int (nI 6)), (3, .ref (2 + 2 * s)), (4, .ref q)]) rfl ?_
  refine Z.aload B dX11_says_52 (v := .ref q) rfl rfl ?_
  refine Z.ifnonnull_r B dX11_says_54 (tgt := 65) rfl ?_
  refine Z.aload_n B dX11_says_65 (v := .ref 0) rfl rfl ?_
  refine Z.aload B dX11_says_66 (v := .ref q) rfl rfl ?_
  refine Z.iload_n B dX11_says_68 (x := nI 6) rfl ?_
  refine Z.callVI (σ := σ) B (M' := mX11_saysAs) (as := [.ref q, .int (nI 6)]) (st := []) (v := .int (-nI 2)) dX11_says_69 wX11_saysAs iX11_saysAs sX11_saysAs kX11_117 (hl.n (k := 0) (by decide)) (hl.k (k := 0) (by decide)) (by decide) rfl rfl (t_K_saysAs_1_6 (σ := σ) hl H ho hw) rfl rfl (by decide) (by decide) (Nat.le_of_ble_eq_true rfl) (by decide) (by decide) ?_
  refine Z.eqσ (τ := (zuX σ 43 (upd (zX σ 43) 2 (zX σ 43 2 + nI 1)))) rfl ?_
  refine Z.iret B Rt dX11_says_72 (ty := .int) rfl rfl (by decide) (by decide) ?_
  exact ⟨rfl, rfl⟩

theorem t_K_says_0_2_0 {σ : zSt} (hl : Lay σ) {n a y : Nat} (H : zHd σ n a y) {od : Nat → Nat} (ho : zOd σ a od) {s : Nat} (hs : s < 8) {i8 : Nat} (hh : zWa σ (2 + 2 * s) i8) {q pa num : Nat} (hi : i8 < y) (hq : zR σ 24 i8 = some q) (hw : zWo σ q 2 pa num) : Dt mX11_says [.ref 0, .int (nI s), .int (nI 0)] σ (some (.int (nI pa))) σ := by
  have hqs := (hl.shelf hs).2
  obtain ⟨-, hn, hn8, ha, ha4, hy, hy8⟩ := id H
  refine Dt.of (by decide) (Nat.le_of_ble_eq_true rfl) fun κ B Rt => ?_
  show Z κ 0 0 σ 0 [(0, .ref 0), (1, .int (nI s)), (2, .int (nI 0))] []
  refine Z.aload_n B dX11_says_0 (v := .ref 0) rfl rfl ?_
  refine Z.iload_n B dX11_says_1 (x := nI s) rfl ?_
  refine Z.callVI (σ := σ) B (M' := mX11_shelfAt) (as := [.int (nI s)]) (st := []) (v := .ref (2 + 2 * s)) dX11_says_2 wX11_shelfAt iX11_shelfAt sX11_shelfAt kX11_59 (hl.n (k := 0) (by decide)) (hl.k (k := 0) (by decide)) (by decide) rfl rfl (t_X11_shelfAt_in (σ := σ) hl hs) rfl rfl (by decide) (by decide) (Nat.le_of_ble_eq_true rfl) (by decide) (by decide) ?_
  refine Z.astore_n B dX11_says_5 (by decide) rfl (L' := [(0, .ref 0), (1, .int (nI s)), (2, .int (nI 0)), (3, .ref (2 + 2 * s))]) rfl ?_
  refine Z.aload_n B dX11_says_6 (v := .ref (2 + 2 * s)) rfl rfl ?_
  refine Z.ifnull_r B dX11_says_7 ?_
  refine Z.iload_n B dX11_says_10 (x := nI 0) rfl ?_
  refine Z.if_ltN B dX11_says_11 (tgt := 20) rfl (by omega) ?_
  refine Z.iload_n B dX11_says_14 (x := nI 0) rfl ?_
  refine Z.bipush B dX11_says_15 (v := nI 6) rfl ?_
  refine Z.icmp_leN B dX11_says_17 (tgt := 26) rfl (by omega) (by omega) (fun h17 => ?_) (fun h17 => by exfalso; first | omega | contradiction | simp_all)
  refine Z.aload_n B dX11_says_26 (v := .ref (2 + 2 * s)) rfl rfl ?_
  refine Z.callVI (σ := σ) B (M' := mX6_holdsRow) (as := []) (st := []) (v := .int (nI 0)) dX11_says_27 wX6_holdsRow iX6_holdsRow sX6_holdsRow kX11_71 (Nat.lt_of_succ_lt hqs.1) hqs.2.1 (by decide) rfl rfl (t_X6_holdsRow_0 (σ := σ) hqs hh.1) rfl rfl (by decide) (by decide) (Nat.le_of_ble_eq_true rfl) (by decide) (by decide) ?_
  refine Z.if_eqN B dX11_says_30 (tgt := 39) rfl (by omega) (fun h30 => ?_) (fun h30 => by exfalso; first | omega | contradiction | simp_all)
  refine Z.aload_n B dX11_says_39 (v := .ref 0) rfl rfl ?_
  refine Z.getR (σ := σ) B fX11_28_11 dX11_says_40 (hl.n (k := 0) (by decide)) (hl.k (k := 0) (by decide)) (by decide) (j := 20) (hl.r (k := 0) (f := 2) (by decide) (by decide)) ?_
  refine Z.aload_n B dX11_says_43 (v := .ref (2 + 2 * s)) rfl rfl ?_
  refine Z.callVI (σ := σ) B (M' := mX6_wayHeld) (as := []) (st := [.ref 20]) (v := .int (zX σ (2 + 2 * s) 3)) dX11_says_44 wX6_wayHeld iX6_wayHeld sX6_wayHeld kX11_114 (Nat.lt_of_succ_lt hqs.1) hqs.2.1 (by decide) rfl rfl (t_X6_wayHeld (σ := σ) hqs) rfl rfl (by decide) (by decide) (Nat.le_of_ble_eq_true rfl) (by decide) (by decide) ?_
  rw [hh.2.2.1]
  refine Z.callVI (σ := σ) B (M' := mX1_wayAt) (as := [.int (nI i8)]) (st := []) (v := .ref q) dX11_says_47 wX1_wayAt iX1_wayAt sX1_wayAt kX11_102 (hl.n (k := 20) (by decide)) (hl.k (k := 20) (by decide)) (by decide) rfl rfl (t_X1_wayAt_in (σ := σ) H hi hq) rfl rfl (by decide) (by decide) (Nat.le_of_ble_eq_true rfl) (by decide) (by decide) ?_
  refine Z.astore B dX11_says_50 (by decide) rfl (L' := [(0, .ref 0), (1, .int (nI s)), (2, .int (nI 0)), (3, .ref (2 + 2 * s)), (4, .ref q)]) rfl ?_
  refine Z.aload B dX11_says_52 (v := .ref q) rfl rfl ?_
  refine Z.ifnonnull_r B dX11_says_54 (tgt := 65) rfl ?_
  refine Z.aload_n B dX11_says_65 (v := .ref 0) rfl rfl ?_
  refine Z.aload B dX11_says_66 (v := .ref q) rfl rfl ?_
  refine Z.iload_n B dX11_says_68 (x := nI 0) rfl ?_
  refine Z.callVI (σ := σ) B (M' := mX11_saysAs) (as := [.ref q, .int (nI 0)]) (st := []) (v := .int (nI pa)) dX11_says_69 wX11_saysAs iX11_saysAs sX11_saysAs kX11_117 (hl.n (k := 0) (by decide)) (hl.k (k := 0) (by decide)) (by decide) rfl rfl (t_K_saysAs_2_0 (σ := σ) hl H ho hw) rfl rfl (by decide) (by decide) (Nat.le_of_ble_eq_true rfl) (by decide) (by decide) ?_
  refine Z.iret B Rt dX11_says_72 (ty := .int) rfl rfl (by decide) (by decide) ?_
  exact ⟨rfl, rfl⟩

theorem t_K_says_0_2_1 {σ : zSt} (hl : Lay σ) {n a y : Nat} (H : zHd σ n a y) {od : Nat → Nat} (ho : zOd σ a od) {s : Nat} (hs : s < 8) {i8 : Nat} (hh : zWa σ (2 + 2 * s) i8) {q pa num : Nat} (hi : i8 < y) (hq : zR σ 24 i8 = some q) (hw : zWo σ q 2 pa num) : Dt mX11_says [.ref 0, .int (nI s), .int (nI 1)] σ (some (.int (nI (pa % 11 / 2)))) σ := by
  have hqs := (hl.shelf hs).2
  obtain ⟨-, hn, hn8, ha, ha4, hy, hy8⟩ := id H
  refine Dt.of (by decide) (Nat.le_of_ble_eq_true rfl) fun κ B Rt => ?_
  show Z κ 0 0 σ 0 [(0, .ref 0), (1, .int (nI s)), (2, .int (nI 1))] []
  refine Z.aload_n B dX11_says_0 (v := .ref 0) rfl rfl ?_
  refine Z.iload_n B dX11_says_1 (x := nI s) rfl ?_
  refine Z.callVI (σ := σ) B (M' := mX11_shelfAt) (as := [.int (nI s)]) (st := []) (v := .ref (2 + 2 * s)) dX11_says_2 wX11_shelfAt iX11_shelfAt sX11_shelfAt kX11_59 (hl.n (k := 0) (by decide)) (hl.k (k := 0) (by decide)) (by decide) rfl rfl (t_X11_shelfAt_in (σ := σ) hl hs) rfl rfl (by decide) (by decide) (Nat.le_of_ble_eq_true rfl) (by decide) (by decide) ?_
  refine Z.astore_n B dX11_says_5 (by decide) rfl (L' := [(0, .ref 0), (1, .int (nI s)), (2, .int (nI 1)), (3, .ref (2 + 2 * s))]) rfl ?_
  refine Z.aload_n B dX11_says_6 (v := .ref (2 + 2 * s)) rfl rfl ?_
  refine Z.ifnull_r B dX11_says_7 ?_
  refine Z.iload_n B dX11_says_10 (x := nI 1) rfl ?_
  refine Z.if_ltN B dX11_says_11 (tgt := 20) rfl (by omega) ?_
  refine Z.iload_n B dX11_says_14 (x := nI 1) rfl ?_
  refine Z.bipush B dX11_says_15 (v := nI 6) rfl ?_
  refine Z.icmp_leN B dX11_says_17 (tgt := 26) rfl (by omega) (by omega) (fun h17 => ?_) (fun h17 => by exfalso; first | omega | contradiction | simp_all)
  refine Z.aload_n B dX11_says_26 (v := .ref (2 + 2 * s)) rfl rfl ?_
  refine Z.callVI (σ := σ) B (M' := mX6_holdsRow) (as := []) (st := []) (v := .int (nI 0)) dX11_says_27 wX6_holdsRow iX6_holdsRow sX6_holdsRow kX11_71 (Nat.lt_of_succ_lt hqs.1) hqs.2.1 (by decide) rfl rfl (t_X6_holdsRow_0 (σ := σ) hqs hh.1) rfl rfl (by decide) (by decide) (Nat.le_of_ble_eq_true rfl) (by decide) (by decide) ?_
  refine Z.if_eqN B dX11_says_30 (tgt := 39) rfl (by omega) (fun h30 => ?_) (fun h30 => by exfalso; first | omega | contradiction | simp_all)
  refine Z.aload_n B dX11_says_39 (v := .ref 0) rfl rfl ?_
  refine Z.getR (σ := σ) B fX11_28_11 dX11_says_40 (hl.n (k := 0) (by decide)) (hl.k (k := 0) (by decide)) (by decide) (j := 20) (hl.r (k := 0) (f := 2) (by decide) (by decide)) ?_
  refine Z.aload_n B dX11_says_43 (v := .ref (2 + 2 * s)) rfl rfl ?_
  refine Z.callVI (σ := σ) B (M' := mX6_wayHeld) (as := []) (st := [.ref 20]) (v := .int (zX σ (2 + 2 * s) 3)) dX11_says_44 wX6_wayHeld iX6_wayHeld sX6_wayHeld kX11_114 (Nat.lt_of_succ_lt hqs.1) hqs.2.1 (by decide) rfl rfl (t_X6_wayHeld (σ := σ) hqs) rfl rfl (by decide) (by decide) (Nat.le_of_ble_eq_true rfl) (by decide) (by decide) ?_
  rw [hh.2.2.1]
  refine Z.callVI (σ := σ) B (M' := mX1_wayAt) (as := [.int (nI i8)]) (st := []) (v := .ref q) dX11_says_47 wX1_wayAt iX1_wayAt sX1_wayAt kX11_102 (hl.n (k := 20) (by decide)) (hl.k (k := 20) (by decide)) (by decide) rfl rfl (t_X1_wayAt_in (σ := σ) H hi hq) rfl rfl (by decide) (by decide) (Nat.le_of_ble_eq_true rfl) (by decide) (by decide) ?_
  refine Z.astore B dX11_says_50 (by decide) rfl (L' := [(0, .ref 0), (1, .int (nI s)), (2, .int (nI 1)), (3, .ref (2 + 2 * s)), (4, .ref q)]) rfl ?_
  refine Z.aload B dX11_says_52 (v := .ref q) rfl rfl ?_
  refine Z.ifnonnull_r B dX11_says_54 (tgt := 65) rfl ?_
  refine Z.aload_n B dX11_says_65 (v := .ref 0) rfl rfl ?_
  refine Z.aload B dX11_says_66 (v := .ref q) rfl rfl ?_
  refine Z.iload_n B dX11_says_68 (x := nI 1) rfl ?_
  refine Z.callVI (σ := σ) B (M' := mX11_saysAs) (as := [.ref q, .int (nI 1)]) (st := []) (v := .int (nI (pa % 11 / 2))) dX11_says_69 wX11_saysAs iX11_saysAs sX11_saysAs kX11_117 (hl.n (k := 0) (by decide)) (hl.k (k := 0) (by decide)) (by decide) rfl rfl (t_K_saysAs_2_1 (σ := σ) hl H ho hw) rfl rfl (by decide) (by decide) (Nat.le_of_ble_eq_true rfl) (by decide) (by decide) ?_
  refine Z.iret B Rt dX11_says_72 (ty := .int) rfl rfl (by decide) (by decide) ?_
  exact ⟨rfl, rfl⟩

theorem t_K_says_0_2_2 {σ : zSt} (hl : Lay σ) {n a y : Nat} (H : zHd σ n a y) {od : Nat → Nat} (ho : zOd σ a od) {s : Nat} (hs : s < 8) {i8 : Nat} (hh : zWa σ (2 + 2 * s) i8) {q pa num : Nat} (hi : i8 < y) (hq : zR σ 24 i8 = some q) (hw : zWo σ q 2 pa num) : Dt mX11_says [.ref 0, .int (nI s), .int (nI 2)] σ (some (.int (nI (pa % 11 / 2)))) σ := by
  have hqs := (hl.shelf hs).2
  obtain ⟨-, hn, hn8, ha, ha4, hy, hy8⟩ := id H
  refine Dt.of (by decide) (Nat.le_of_ble_eq_true rfl) fun κ B Rt => ?_
  show Z κ 0 0 σ 0 [(0, .ref 0), (1, .int (nI s)), (2, .int (nI 2))] []
  refine Z.aload_n B dX11_says_0 (v := .ref 0) rfl rfl ?_
  refine Z.iload_n B dX11_says_1 (x := nI s) rfl ?_
  refine Z.callVI (σ := σ) B (M' := mX11_shelfAt) (as := [.int (nI s)]) (st := []) (v := .ref (2 + 2 * s)) dX11_says_2 wX11_shelfAt iX11_shelfAt sX11_shelfAt kX11_59 (hl.n (k := 0) (by decide)) (hl.k (k := 0) (by decide)) (by decide) rfl rfl (t_X11_shelfAt_in (σ := σ) hl hs) rfl rfl (by decide) (by decide) (Nat.le_of_ble_eq_true rfl) (by decide) (by decide) ?_
  refine Z.astore_n B dX11_says_5 (by decide) rfl (L' := [(0, .ref 0), (1, .int (nI s)), (2, .int (nI 2)), (3, .ref (2 + 2 * s))]) rfl ?_
  refine Z.aload_n B dX11_says_6 (v := .ref (2 + 2 * s)) rfl rfl ?_
  refine Z.ifnull_r B dX11_says_7 ?_
  refine Z.iload_n B dX11_says_10 (x := nI 2) rfl ?_
  refine Z.if_ltN B dX11_says_11 (tgt := 20) rfl (by omega) ?_
  refine Z.iload_n B dX11_says_14 (x := nI 2) rfl ?_
  refine Z.bipush B dX11_says_15 (v := nI 6) rfl ?_
  refine Z.icmp_leN B dX11_says_17 (tgt := 26) rfl (by omega) (by omega) (fun h17 => ?_) (fun h17 => by exfalso; first | omega | contradiction | simp_all)
  refine Z.aload_n B dX11_says_26 (v := .ref (2 + 2 * s)) rfl rfl ?_
  refine Z.callVI (σ := σ) B (M' := mX6_holdsRow) (as := []) (st := []) (v := .int (nI 0)) dX11_says_27 wX6_holdsRow iX6_holdsRow sX6_holdsRow kX11_71 (Nat.lt_of_succ_lt hqs.1) hqs.2.1 (by decide) rfl rfl (t_X6_holdsRow_0 (σ := σ) hqs hh.1) rfl rfl (by decide) (by decide) (Nat.le_of_ble_eq_true rfl) (by decide) (by decide) ?_
  refine Z.if_eqN B dX11_says_30 (tgt := 39) rfl (by omega) (fun h30 => ?_) (fun h30 => by exfalso; first | omega | contradiction | simp_all)
  refine Z.aload_n B dX11_says_39 (v := .ref 0) rfl rfl ?_
  refine Z.getR (σ := σ) B fX11_28_11 dX11_says_40 (hl.n (k := 0) (by decide)) (hl.k (k := 0) (by decide)) (by decide) (j := 20) (hl.r (k := 0) (f := 2) (by decide) (by decide)) ?_
  refine Z.aload_n B dX11_says_43 (v := .ref (2 + 2 * s)) rfl rfl ?_
  refine Z.callVI (σ := σ) B (M' := mX6_wayHeld) (as := []) (st := [.ref 20]) (v := .int (zX σ (2 + 2 * s) 3)) dX11_says_44 wX6_wayHeld iX6_wayHeld sX6_wayHeld kX11_114 (Nat.lt_of_succ_lt hqs.1) hqs.2.1 (by decide) rfl rfl (t_X6_wayHeld (σ := σ) hqs) rfl rfl (by decide) (by decide) (Nat.le_of_ble_eq_true rfl) (by decide) (by decide) ?_
  rw [hh.2.2.1]
  refine Z.callVI (σ := σ) B (M' := mX1_wayAt) (as := [.int (nI i8)]) (st := []) (v := .ref q) dX11_says_47 wX1_wayAt iX1_wayAt sX1_wayAt kX11_102 (hl.n (k := 20) (by decide)) (hl.k (k := 20) (by decide)) (by decide) rfl rfl (t_X1_wayAt_in (σ := σ) H hi hq) rfl rfl (by decide) (by decide) (Nat.le_of_ble_eq_true rfl) (by decide) (by decide) ?_
  refine Z.astore B dX11_says_50 (by decide) rfl (L' := [(0, .ref 0), (1, .int (nI s)), (2, .int (nI 2)), (3, .ref (2 + 2 * s)), (4, .ref q)]) rfl ?_
  refine Z.aload B dX11_says_52 (v := .ref q) rfl rfl ?_
  refine Z.ifnonnull_r B dX11_says_54 (tgt := 65) rfl ?_
  refine Z.aload_n B dX11_says_65 (v := .ref 0) rfl rfl ?_
  refine Z.aload B dX11_says_66 (v := .ref q) rfl rfl ?_
  refine Z.iload_n B dX11_says_68 (x := nI 2) rfl ?_
  refine Z.callVI (σ := σ) B (M' := mX11_saysAs) (as := [.ref q, .int (nI 2)]) (st := []) (v := .int (nI (pa % 11 / 2))) dX11_says_69 wX11_saysAs iX11_saysAs sX11_saysAs kX11_117 (hl.n (k := 0) (by decide)) (hl.k (k := 0) (by decide)) (by decide) rfl rfl (t_K_saysAs_2_2 (σ := σ) hl H ho hw) rfl rfl (by decide) (by decide) (Nat.le_of_ble_eq_true rfl) (by decide) (by decide) ?_
  refine Z.iret B Rt dX11_says_72 (ty := .int) rfl rfl (by decide) (by decide) ?_
  exact ⟨rfl, rfl⟩

theorem t_K_says_0_2_3 {σ : zSt} (hl : Lay σ) {n a y : Nat} (H : zHd σ n a y) {od : Nat → Nat} (ho : zOd σ a od) {s : Nat} (hs : s < 8) {i8 : Nat} (hh : zWa σ (2 + 2 * s) i8) {q pa num : Nat} (hi : i8 < y) (hq : zR σ 24 i8 = some q) (hw : zWo σ q 2 pa num) : Dt mX11_says [.ref 0, .int (nI s), .int (nI 3)] σ (some (.int (-nI 2))) (zuX σ 43 (upd (zX σ 43) 2 (zX σ 43 2 + nI 1))) := by
  have hqs := (hl.shelf hs).2
  obtain ⟨-, hn, hn8, ha, ha4, hy, hy8⟩ := id H
  refine Dt.of (by decide) (Nat.le_of_ble_eq_true rfl) fun κ B Rt => ?_
  show Z κ 0 0 σ 0 [(0, .ref 0), (1, .int (nI s)), (2, .int (nI 3))] []
  refine Z.aload_n B dX11_says_0 (v := .ref 0) rfl rfl ?_
  refine Z.iload_n B dX11_says_1 (x := nI s) rfl ?_
  refine Z.callVI (σ := σ) B (M' := mX11_shelfAt) (as := [.int (nI s)]) (st := []) (v := .ref (2 + 2 * s)) dX11_says_2 wX11_shelfAt iX11_shelfAt sX11_shelfAt kX11_59 (hl.n (k := 0) (by decide)) (hl.k (k := 0) (by decide)) (by decide) rfl rfl (t_X11_shelfAt_in (σ := σ) hl hs) rfl rfl (by decide) (by decide) (Nat.le_of_ble_eq_true rfl) (by decide) (by decide) ?_
  refine Z.astore_n B dX11_says_5 (by decide) rfl (L' := [(0, .ref 0), (1, .int (nI s)), (2, .int (nI 3)), (3, .ref (2 + 2 * s))]) rfl ?_
  refine Z.aload_n B dX11_says_6 (v := .ref (2 + 2 * s)) rfl rfl ?_
  refine Z.ifnull_r B dX11_says_7 ?_
  refine Z.iload_n B dX11_says_10 (x := nI 3) rfl ?_
  refine Z.if_ltN B dX11_says_11 (tgt := 20) rfl (by omega) ?_
  refine Z.iload_n B dX11_says_14 (x := nI 3) rfl ?_
  refine Z.bipush B dX11_says_15 (v := nI 6) rfl ?_
  refine Z.icmp_leN B dX11_says_17 (tgt := 26) rfl (by omega) (by omega) (fun h17 => ?_) (fun h17 => by exfalso; first | omega | contradiction | simp_all)
  refine Z.aload_n B dX11_says_26 (v := .ref (2 + 2 * s)) rfl rfl ?_
  refine Z.callVI (σ := σ) B (M' := mX6_holdsRow) (as := []) (st := []) (v := .int (nI 0)) dX11_says_27 wX6_holdsRow iX6_holdsRow sX6_holdsRow kX11_71 (Nat.lt_of_succ_lt hqs.1) hqs.2.1 (by decide) rfl rfl (t_X6_holdsRow_0 (σ := σ) hqs hh.1) rfl rfl (by decide) (by decide) (Nat.le_of_ble_eq_true rfl) (by decide) (by decide) ?_
  refine Z.if_eqN B dX11_says_30 (tgt := 39) rfl (by omega) (fun h30 => ?_) (fun h30 => by exfalso; first | omega | contradiction | simp_all)
  refine Z.aload_n B dX11_says_39 (v := .ref 0) rfl rfl ?_
  refine Z.getR (σ := σ) B fX11_28_11 dX11_says_40 (hl.n (k := 0) (by decide)) (hl.k (k := 0) (by decide)) (by decide) (j := 20) (hl.r (k := 0) (f := 2) (by decide) (by decide)) ?_
  refine Z.aload_n B dX11_says_43 (v := .ref (2 + 2 * s)) rfl rfl ?_
  refine Z.callVI (σ := σ) B (M' := mX6_wayHeld) (as := []) (st := [.ref 20]) (v := .int (zX σ (2 + 2 * s) 3)) dX11_says_44 wX6_wayHeld iX6_wayHeld sX6_wayHeld kX11_114 (Nat.lt_of_succ_lt hqs.1) hqs.2.1 (by decide) rfl rfl (t_X6_wayHeld (σ := σ) hqs) rfl rfl (by decide) (by decide) (Nat.le_of_ble_eq_true rfl) (by decide) (by decide) ?_
  rw [hh.2.2.1]
  refine Z.callVI (σ := σ) B (M' := mX1_wayAt) (as := [.int (nI i8)]) (st := []) (v := .ref q) dX11_says_47 wX1_wayAt iX1_wayAt sX1_wayAt kX11_102 (hl.n (k := 20) (by decide)) (hl.k (k := 20) (by decide)) (by decide) rfl rfl (t_X1_wayAt_in (σ := σ) H hi hq) rfl rfl (by decide) (by decide) (Nat.le_of_ble_eq_true rfl) (by decide) (by decide) ?_
  refine Z.astore B dX11_says_50 (by decide) rfl (L' := [(0, .ref 0), (1, .int (nI s)), (2, .int (nI 3)), (3, .ref (2 + 2 * s)), (4, .ref q)]) rfl ?_
  refine Z.aload B dX11_says_52 (v := .ref q) rfl rfl ?_
  refine Z.ifnonnull_r B dX11_says_54 (tgt := 65) rfl ?_
  refine Z.aload_n B dX11_says_65 (v := .ref 0) rfl rfl ?_
  refine Z.aload B dX11_says_66 (v := .ref q) rfl rfl ?_
  refine Z.iload_n B dX11_says_68 (x := nI 3) rfl ?_
  refine Z.callVI (σ := σ) B (M' := mX11_saysAs) (as := [.ref q, .int (nI 3)]) (st := []) (v := .int (-nI 2)) dX11_says_69 wX11_saysAs iX11_saysAs sX11_saysAs kX11_117 (hl.n (k := 0) (by decide)) (hl.k (k := 0) (by decide)) (by decide) rfl rfl (t_K_saysAs_2_3 (σ := σ) hl H ho hw) rfl rfl (by decide) (by decide) (Nat.le_of_ble_eq_true rfl) (by decide) (by decide) ?_
  refine Z.eqσ (τ := (zuX σ 43 (upd (zX σ 43) 2 (zX σ 43 2 + nI 1)))) rfl ?_
  refine Z.iret B Rt dX11_says_72 (ty := .int) rfl rfl (by decide) (by decide) ?_
  exact ⟨rfl, rfl⟩

theorem t_K_says_0_2_4 {σ : zSt} (hl : Lay σ) {n a y : Nat} (H : zHd σ n a y) {od : Nat → Nat} (ho : zOd σ a od) {s : Nat} (hs : s < 8) {i8 : Nat} (hh : zWa σ (2 + 2 * s) i8) {q pa num : Nat} (hi : i8 < y) (hq : zR σ 24 i8 = some q) (hw : zWo σ q 2 pa num) : Dt mX11_says [.ref 0, .int (nI s), .int (nI 4)] σ (some (.int (-nI 2))) (zuX σ 43 (upd (zX σ 43) 2 (zX σ 43 2 + nI 1))) := by
  have hqs := (hl.shelf hs).2
  obtain ⟨-, hn, hn8, ha, ha4, hy, hy8⟩ := id H
  refine Dt.of (by decide) (Nat.le_of_ble_eq_true rfl) fun κ B Rt => ?_
  show Z κ 0 0 σ 0 [(0, .ref 0), (1, .int (nI s)), (2, .int (nI 4))] []
  refine Z.aload_n B dX11_says_0 (v := .ref 0) rfl rfl ?_
  refine Z.iload_n B dX11_says_1 (x := nI s) rfl ?_
  refine Z.callVI (σ := σ) B (M' := mX11_shelfAt) (as := [.int (nI s)]) (st := []) (v := .ref (2 + 2 * s)) dX11_says_2 wX11_shelfAt iX11_shelfAt sX11_shelfAt kX11_59 (hl.n (k := 0) (by decide)) (hl.k (k := 0) (by decide)) (by decide) rfl rfl (t_X11_shelfAt_in (σ := σ) hl hs) rfl rfl (by decide) (by decide) (Nat.le_of_ble_eq_true rfl) (by decide) (by decide) ?_
  refine Z.astore_n B dX11_says_5 (by decide) rfl (L' := [(0, .ref 0), (1, .int (nI s)), (2, .int (nI 4)), (3, .ref (2 + 2 * s))]) rfl ?_
  refine Z.aload_n B dX11_says_6 (v := .ref (2 + 2 * s)) rfl rfl ?_
  refine Z.ifnull_r B dX11_says_7 ?_
  refine Z.iload_n B dX11_says_10 (x := nI 4) rfl ?_
  refine Z.if_ltN B dX11_says_11 (tgt := 20) rfl (by omega) ?_
  refine Z.iload_n B dX11_says_14 (x := nI 4) rfl ?_
  refine Z.bipush B dX11_says_15 (v := nI 6) rfl ?_
  refine Z.icmp_leN B dX11_says_17 (tgt := 26) rfl (by omega) (by omega) (fun h17 => ?_) (fun h17 => by exfalso; first | omega | contradiction | simp_all)
  refine Z.aload_n B dX11_says_26 (v := .ref (2 + 2 * s)) rfl rfl ?_
  refine Z.callVI (σ := σ) B (M' := mX6_holdsRow) (as := []) (st := []) (v := .int (nI 0)) dX11_says_27 wX6_holdsRow iX6_holdsRow sX6_holdsRow kX11_71 (Nat.lt_of_succ_lt hqs.1) hqs.2.1 (by decide) rfl rfl (t_X6_holdsRow_0 (σ := σ) hqs hh.1) rfl rfl (by decide) (by decide) (Nat.le_of_ble_eq_true rfl) (by decide) (by decide) ?_
  refine Z.if_eqN B dX11_says_30 (tgt := 39) rfl (by omega) (fun h30 => ?_) (fun h30 => by exfalso; first | omega | contradiction | simp_all)
  refine Z.aload_n B dX11_says_39 (v := .ref 0) rfl rfl ?_
  refine Z.getR (σ := σ) B fX11_28_11 dX11_says_40 (hl.n (k := 0) (by decide)) (hl.k (k := 0) (by decide)) (by decide) (j := 20) (hl.r (k := 0) (f := 2) (by decide) (by decide)) ?_
  refine Z.aload_n B dX11_says_43 (v := .ref (2 + 2 * s)) rfl rfl ?_
  refine Z.callVI (σ := σ) B (M' := mX6_wayHeld) (as := []) (st := [.ref 20]) (v := .int (zX σ (2 + 2 * s) 3)) dX11_says_44 wX6_wayHeld iX6_wayHeld sX6_wayHeld kX11_114 (Nat.lt_of_succ_lt hqs.1) hqs.2.1 (by decide) rfl rfl (t_X6_wayHeld (σ := σ) hqs) rfl rfl (by decide) (by decide) (Nat.le_of_ble_eq_true rfl) (by decide) (by decide) ?_
  rw [hh.2.2.1]
  refine Z.callVI (σ := σ) B (M' := mX1_wayAt) (as := [.int (nI i8)]) (st := []) (v := .ref q) dX11_says_47 wX1_wayAt iX1_wayAt sX1_wayAt kX11_102 (hl.n (k := 20) (by decide)) (hl.k (k := 20) (by decide)) (by decide) rfl rfl (t_X1_wayAt_in (σ := σ) H hi hq) rfl rfl (by decide) (by decide) (Nat.le_of_ble_eq_true rfl) (by decide) (by decide) ?_
  refine Z.astore B dX11_says_50 (by decide) rfl (L' := [(0, .ref 0), (1, .int (nI s)), (2, .int (nI 4)), (3, .ref (2 + 2 * s)), (4, .ref q)]) rfl ?_
  refine Z.aload B dX11_says_52 (v := .ref q) rfl rfl ?_
  refine Z.ifnonnull_r B dX11_says_54 (tgt := 65) rfl ?_
  refine Z.aload_n B dX11_says_65 (v := .ref 0) rfl rfl ?_
  refine Z.aload B dX11_says_66 (v := .ref q) rfl rfl ?_
  refine Z.iload_n B dX11_says_68 (x := nI 4) rfl ?_
  refine Z.callVI (σ := σ) B (M' := mX11_saysAs) (as := [.ref q, .int (nI 4)]) (st := []) (v := .int (-nI 2)) dX11_says_69 wX11_saysAs iX11_saysAs sX11_saysAs kX11_117 (hl.n (k := 0) (by decide)) (hl.k (k := 0) (by decide)) (by decide) rfl rfl (t_K_saysAs_2_4 (σ := σ) hl H ho hw) rfl rfl (by decide) (by decide) (Nat.le_of_ble_eq_true rfl) (by decide) (by decide) ?_
  refine Z.eqσ (τ := (zuX σ 43 (upd (zX σ 43) 2 (zX σ 43 2 + nI 1)))) rfl ?_
  refine Z.iret B Rt dX11_says_72 (ty := .int) rfl rfl (by decide) (by decide) ?_
  exact ⟨rfl, rfl⟩

theorem t_K_says_0_2_5 {σ : zSt} (hl : Lay σ) {n a y : Nat} (H : zHd σ n a y) {od : Nat → Nat} (ho : zOd σ a od) {s : Nat} (hs : s < 8) {i8 : Nat} (hh : zWa σ (2 + 2 * s) i8) {q pa num : Nat} (hi : i8 < y) (hq : zR σ 24 i8 = some q) (hw : zWo σ q 2 pa num) : Dt mX11_says [.ref 0, .int (nI s), .int (nI 5)] σ (some (.int (-nI 2))) (zuX σ 43 (upd (zX σ 43) 2 (zX σ 43 2 + nI 1))) := by
  have hqs := (hl.shelf hs).2
  obtain ⟨-, hn, hn8, ha, ha4, hy, hy8⟩ := id H
  refine Dt.of (by decide) (Nat.le_of_ble_eq_true rfl) fun κ B Rt => ?_
  show Z κ 0 0 σ 0 [(0, .ref 0), (1, .int (nI s)), (2, .int (nI 5))] []
  refine Z.aload_n B dX11_says_0 (v := .ref 0) rfl rfl ?_
  refine Z.iload_n B dX11_says_1 (x := nI s) rfl ?_
  refine Z.callVI (σ := σ) B (M' := mX11_shelfAt) (as := [.int (nI s)]) (st := []) (v := .ref (2 + 2 * s)) dX11_says_2 wX11_shelfAt iX11_shelfAt sX11_shelfAt kX11_59 (hl.n (k := 0) (by decide)) (hl.k (k := 0) (by decide)) (by decide) rfl rfl (t_X11_shelfAt_in (σ := σ) hl hs) rfl rfl (by decide) (by decide) (Nat.le_of_ble_eq_true rfl) (by decide) (by decide) ?_
  refine Z.astore_n B dX11_says_5 (by decide) rfl (L' := [(0, .ref 0), (1, .int (nI s)), (2, .int (nI 5)), (3, .ref (2 + 2 * s))]) rfl ?_
  refine Z.aload_n B dX11_says_6 (v := .ref (2 + 2 * s)) rfl rfl ?_
  refine Z.ifnull_r B dX11_says_7 ?_
  refine Z.iload_n B dX11_says_10 (x := nI 5) rfl ?_
  refine Z.if_ltN B dX11_says_11 (tgt := 20) rfl (by omega) ?_
  refine Z.iload_n B dX11_says_14 (x := nI 5) rfl ?_
  refine Z.bipush B dX11_says_15 (v := nI 6) rfl ?_
  refine Z.icmp_leN B dX11_says_17 (tgt := 26) rfl (by omega) (by omega) (fun h17 => ?_) (fun h17 => by exfalso; first | omega | contradiction | simp_all)
  refine Z.aload_n B dX11_says_26 (v := .ref (2 + 2 * s)) rfl rfl ?_
  refine Z.callVI (σ := σ) B (M' := mX6_holdsRow) (as := []) (st := []) (v := .int (nI 0)) dX11_says_27 wX6_holdsRow iX6_holdsRow sX6_holdsRow kX11_71 (Nat.lt_of_succ_lt hqs.1) hqs.2.1 (by decide) rfl rfl (t_X6_holdsRow_0 (σ := σ) hqs hh.1) rfl rfl (by decide) (by decide) (Nat.le_of_ble_eq_true rfl) (by decide) (by decide) ?_
  refine Z.if_eqN B dX11_says_30 (tgt := 39) rfl (by omega) (fun h30 => ?_) (fun h30 => by exfalso; first | omega | contradiction | simp_all)
  refine Z.aload_n B dX11_says_39 (v := .ref 0) rfl rfl ?_
  refine Z.getR (σ := σ) B fX11_28_11 dX11_says_40 (hl.n (k := 0) (by decide)) (hl.k (k := 0) (by decide)) (by decide) (j := 20) (hl.r (k := 0) (f := 2) (by decide) (by decide)) ?_
  refine Z.aload_n B dX11_says_43 (v := .ref (2 + 2 * s)) rfl rfl ?_
  refine Z.callVI (σ := σ) B (M' := mX6_wayHeld) (as := []) (st := [.ref 20]) (v := .int (zX σ (2 + 2 * s) 3)) dX11_says_44 wX6_wayHeld iX6_wayHeld sX6_wayHeld kX11_114 (Nat.lt_of_succ_lt hqs.1) hqs.2.1 (by decide) rfl rfl (t_X6_wayHeld (σ := σ) hqs) rfl rfl (by decide) (by decide) (Nat.le_of_ble_eq_true rfl) (by decide) (by decide) ?_
  rw [hh.2.2.1]
  refine Z.callVI (σ := σ) B (M' := mX1_wayAt) (as := [.int (nI i8)]) (st := []) (v := .ref q) dX11_says_47 wX1_wayAt iX1_wayAt sX1_wayAt kX11_102 (hl.n (k := 20) (by decide)) (hl.k (k := 20) (by decide)) (by decide) rfl rfl (t_X1_wayAt_in (σ := σ) H hi hq) rfl rfl (by decide) (by decide) (Nat.le_of_ble_eq_true rfl) (by decide) (by decide) ?_
  refine Z.astore B dX11_says_50 (by decide) rfl (L' := [(0, .ref 0), (1, .int (nI s)), (2, .int (nI 5)), (3, .ref (2 + 2 * s)), (4, .ref q)]) rfl ?_
  refine Z.aload B dX11_says_52 (v := .ref q) rfl rfl ?_
  refine Z.ifnonnull_r B dX11_says_54 (tgt := 65) rfl ?_
  refine Z.aload_n B dX11_says_65 (v := .ref 0) rfl rfl ?_
  refine Z.aload B dX11_says_66 (v := .ref q) rfl rfl ?_
  refine Z.iload_n B dX11_says_68 (x := nI 5) rfl ?_
  refine Z.callVI (σ := σ) B (M' := mX11_saysAs) (as := [.ref q, .int (nI 5)]) (st := []) (v := .int (-nI 2)) dX11_says_69 wX11_saysAs iX11_saysAs sX11_saysAs kX11_117 (hl.n (k := 0) (by decide)) (hl.k (k := 0) (by decide)) (by decide) rfl rfl (t_K_saysAs_2_5 (σ := σ) hl H ho hw) rfl rfl (by decide) (by decide) (Nat.le_of_ble_eq_true rfl) (by decide) (by decide) ?_
  refine Z.eqσ (τ := (zuX σ 43 (upd (zX σ 43) 2 (zX σ 43 2 + nI 1)))) rfl ?_
  refine Z.iret B Rt dX11_says_72 (ty := .int) rfl rfl (by decide) (by decide) ?_
  exact ⟨rfl, rfl⟩

theorem t_K_says_0_2_6 {σ : zSt} (hl : Lay σ) {n a y : Nat} (H : zHd σ n a y) {od : Nat → Nat} (ho : zOd σ a od) {s : Nat} (hs : s < 8) {i8 : Nat} (hh : zWa σ (2 + 2 * s) i8) {q pa num : Nat} (hi : i8 < y) (hq : zR σ 24 i8 = some q) (hw : zWo σ q 2 pa num) : Dt mX11_says [.ref 0, .int (nI s), .int (nI 6)] σ (some (.int (-nI 2))) (zuX σ 43 (upd (zX σ 43) 2 (zX σ 43 2 + nI 1))) := by
  have hqs := (hl.shelf hs).2
  obtain ⟨-, hn, hn8, ha, ha4, hy, hy8⟩ := id H
  refine Dt.of (by decide) (Nat.le_of_ble_eq_true rfl) fun κ B Rt => ?_
  show Z κ 0 0 σ 0 [(0, .ref 0), (1, .int (nI s)), (2, .int (nI 6))] []
  refine Z.aload_n B dX11_says_0 (v := .ref 0) rfl rfl ?_
  refine Z.iload_n B dX11_says_1 (x := nI s) rfl ?_
  refine Z.callVI (σ := σ) B (M' := mX11_shelfAt) (as := [.int (nI s)]) (st := []) (v := .ref (2 + 2 * s)) dX11_says_2 wX11_shelfAt iX11_shelfAt sX11_shelfAt kX11_59 (hl.n (k := 0) (by decide)) (hl.k (k := 0) (by decide)) (by decide) rfl rfl (t_X11_shelfAt_in (σ := σ) hl hs) rfl rfl (by decide) (by decide) (Nat.le_of_ble_eq_true rfl) (by decide) (by decide) ?_
  refine Z.astore_n B dX11_says_5 (by decide) rfl (L' := [(0, .ref 0), (1, .int (nI s)), (2, .int (nI 6)), (3, .ref (2 + 2 * s))]) rfl ?_
  refine Z.aload_n B dX11_says_6 (v := .ref (2 + 2 * s)) rfl rfl ?_
  refine Z.ifnull_r B dX11_says_7 ?_
  refine Z.iload_n B dX11_says_10 (x := nI 6) rfl ?_
  refine Z.if_ltN B dX11_says_11 (tgt := 20) rfl (by omega) ?_
  refine Z.iload_n B dX11_says_14 (x := nI 6) rfl ?_
  refine Z.bipush B dX11_says_15 (v := nI 6) rfl ?_
  refine Z.icmp_leN B dX11_says_17 (tgt := 26) rfl (by omega) (by omega) (fun h17 => ?_) (fun h17 => by exfalso; first | omega | contradiction | simp_all)
  refine Z.aload_n B dX11_says_26 (v := .ref (2 + 2 * s)) rfl rfl ?_
  refine Z.callVI (σ := σ) B (M' := mX6_holdsRow) (as := []) (st := []) (v := .int (nI 0)) dX11_says_27 wX6_holdsRow iX6_holdsRow sX6_holdsRow kX11_71 (Nat.lt_of_succ_lt hqs.1) hqs.2.1 (by decide) rfl rfl (t_X6_holdsRow_0 (σ := σ) hqs hh.1) rfl rfl (by decide) (by decide) (Nat.le_of_ble_eq_true rfl) (by decide) (by decide) ?_
  refine Z.if_eqN B dX11_says_30 (tgt := 39) rfl (by omega) (fun h30 => ?_) (fun h30 => by exfalso; first | omega | contradiction | simp_all)
  refine Z.aload_n B dX11_says_39 (v := .ref 0) rfl rfl ?_
  refine Z.getR (σ := σ) B fX11_28_11 dX11_says_40 (hl.n (k := 0) (by decide)) (hl.k (k := 0) (by decide)) (by decide) (j := 20) (hl.r (k := 0) (f := 2) (by decide) (by decide)) ?_
  refine Z.aload_n B dX11_says_43 (v := .ref (2 + 2 * s)) rfl rfl ?_
  refine Z.callVI (σ := σ) B (M' := mX6_wayHeld) (as := []) (st := [.ref 20]) (v := .int (zX σ (2 + 2 * s) 3)) dX11_says_44 wX6_wayHeld iX6_wayHeld sX6_wayHeld kX11_114 (Nat.lt_of_succ_lt hqs.1) hqs.2.1 (by decide) rfl rfl (t_X6_wayHeld (σ := σ) hqs) rfl rfl (by decide) (by decide) (Nat.le_of_ble_eq_true rfl) (by decide) (by decide) ?_
  rw [hh.2.2.1]
  refine Z.callVI (σ := σ) B (M' := mX1_wayAt) (as := [.int (nI i8)]) (st := []) (v := .ref q) dX11_says_47 wX1_wayAt iX1_wayAt sX1_wayAt kX11_102 (hl.n (k := 20) (by decide)) (hl.k (k := 20) (by decide)) (by decide) rfl rfl (t_X1_wayAt_in (σ := σ) H hi hq) rfl rfl (by decide) (by decide) (Nat.le_of_ble_eq_true rfl) (by decide) (by decide) ?_
  refine Z.astore B dX11_says_50 (by decide) rfl (L' := [(0, .ref 0), (1, .int (nI s)), (2, .int (nI 6)), (3, .ref (2 + 2 * s)), (4, .ref q)]) rfl ?_
  refine Z.aload B dX11_says_52 (v := .ref q) rfl rfl ?_
  refine Z.ifnonnull_r B dX11_says_54 (tgt := 65) rfl ?_
  refine Z.aload_n B dX11_says_65 (v := .ref 0) rfl rfl ?_
  refine Z.aload B dX11_says_66 (v := .ref q) rfl rfl ?_
  refine Z.iload_n B dX11_says_68 (x := nI 6) rfl ?_
  refine Z.callVI (σ := σ) B (M' := mX11_saysAs) (as := [.ref q, .int (nI 6)]) (st := []) (v := .int (-nI 2)) dX11_says_69 wX11_saysAs iX11_saysAs sX11_saysAs kX11_117 (hl.n (k := 0) (by decide)) (hl.k (k := 0) (by decide)) (by decide) rfl rfl (t_K_saysAs_2_6 (σ := σ) hl H ho hw) rfl rfl (by decide) (by decide) (Nat.le_of_ble_eq_true rfl) (by decide) (by decide) ?_
  refine Z.eqσ (τ := (zuX σ 43 (upd (zX σ 43) 2 (zX σ 43 2 + nI 1)))) rfl ?_
  refine Z.iret B Rt dX11_says_72 (ty := .int) rfl rfl (by decide) (by decide) ?_
  exact ⟨rfl, rfl⟩

theorem t_K_says_0_3_0 {σ : zSt} (hl : Lay σ) {n a y : Nat} (H : zHd σ n a y) {od : Nat → Nat} (ho : zOd σ a od) {s : Nat} (hs : s < 8) {i8 : Nat} (hh : zWa σ (2 + 2 * s) i8) {q pa num : Nat} (hi : i8 < y) (hq : zR σ 24 i8 = some q) (hw : zWo σ q 3 pa num) : Dt mX11_says [.ref 0, .int (nI s), .int (nI 0)] σ (some (.int (nI pa))) σ := by
  have hqs := (hl.shelf hs).2
  obtain ⟨-, hn, hn8, ha, ha4, hy, hy8⟩ := id H
  refine Dt.of (by decide) (Nat.le_of_ble_eq_true rfl) fun κ B Rt => ?_
  show Z κ 0 0 σ 0 [(0, .ref 0), (1, .int (nI s)), (2, .int (nI 0))] []
  refine Z.aload_n B dX11_says_0 (v := .ref 0) rfl rfl ?_
  refine Z.iload_n B dX11_says_1 (x := nI s) rfl ?_
  refine Z.callVI (σ := σ) B (M' := mX11_shelfAt) (as := [.int (nI s)]) (st := []) (v := .ref (2 + 2 * s)) dX11_says_2 wX11_shelfAt iX11_shelfAt sX11_shelfAt kX11_59 (hl.n (k := 0) (by decide)) (hl.k (k := 0) (by decide)) (by decide) rfl rfl (t_X11_shelfAt_in (σ := σ) hl hs) rfl rfl (by decide) (by decide) (Nat.le_of_ble_eq_true rfl) (by decide) (by decide) ?_
  refine Z.astore_n B dX11_says_5 (by decide) rfl (L' := [(0, .ref 0), (1, .int (nI s)), (2, .int (nI 0)), (3, .ref (2 + 2 * s))]) rfl ?_
  refine Z.aload_n B dX11_says_6 (v := .ref (2 + 2 * s)) rfl rfl ?_
  refine Z.ifnull_r B dX11_says_7 ?_
  refine Z.iload_n B dX11_says_10 (x := nI 0) rfl ?_
  refine Z.if_ltN B dX11_says_11 (tgt := 20) rfl (by omega) ?_
  refine Z.iload_n B dX11_says_14 (x := nI 0) rfl ?_
  refine Z.bipush B dX11_says_15 (v := nI 6) rfl ?_
  refine Z.icmp_leN B dX11_says_17 (tgt := 26) rfl (by omega) (by omega) (fun h17 => ?_) (fun h17 => by exfalso; first | omega | contradiction | simp_all)
  refine Z.aload_n B dX11_says_26 (v := .ref (2 + 2 * s)) rfl rfl ?_
  refine Z.callVI (σ := σ) B (M' := mX6_holdsRow) (as := []) (st := []) (v := .int (nI 0)) dX11_says_27 wX6_holdsRow iX6_holdsRow sX6_holdsRow kX11_71 (Nat.lt_of_succ_lt hqs.1) hqs.2.1 (by decide) rfl rfl (t_X6_holdsRow_0 (σ := σ) hqs hh.1) rfl rfl (by decide) (by decide) (Nat.le_of_ble_eq_true rfl) (by decide) (by decide) ?_
  refine Z.if_eqN B dX11_says_30 (tgt := 39) rfl (by omega) (fun h30 => ?_) (fun h30 => by exfalso; first | omega | contradiction | simp_all)
  refine Z.aload_n B dX11_says_39 (v := .ref 0) rfl rfl ?_
  refine Z.getR (σ := σ) B fX11_28_11 dX11_says_40 (hl.n (k := 0) (by decide)) (hl.k (k := 0) (by decide)) (by decide) (j := 20) (hl.r (k := 0) (f := 2) (by decide) (by decide)) ?_
  refine Z.aload_n B dX11_says_43 (v := .ref (2 + 2 * s)) rfl rfl ?_
  refine Z.callVI (σ := σ) B (M' := mX6_wayHeld) (as := []) (st := [.ref 20]) (v := .int (zX σ (2 + 2 * s) 3)) dX11_says_44 wX6_wayHeld iX6_wayHeld sX6_wayHeld kX11_114 (Nat.lt_of_succ_lt hqs.1) hqs.2.1 (by decide) rfl rfl (t_X6_wayHeld (σ := σ) hqs) rfl rfl (by decide) (by decide) (Nat.le_of_ble_eq_true rfl) (by decide) (by decide) ?_
  rw [hh.2.2.1]
  refine Z.callVI (σ := σ) B (M' := mX1_wayAt) (as := [.int (nI i8)]) (st := []) (v := .ref q) dX11_says_47 wX1_wayAt iX1_wayAt sX1_wayAt kX11_102 (hl.n (k := 20) (by decide)) (hl.k (k := 20) (by decide)) (by decide) rfl rfl (t_X1_wayAt_in (σ := σ) H hi hq) rfl rfl (by decide) (by decide) (Nat.le_of_ble_eq_true rfl) (by decide) (by decide) ?_
  refine Z.astore B dX11_says_50 (by decide) rfl (L' := [(0, .ref 0), (1, .int (nI s)), (2, .int (nI 0)), (3, .ref (2 + 2 * s)), (4, .ref q)]) rfl ?_
  refine Z.aload B dX11_says_52 (v := .ref q) rfl rfl ?_
  refine Z.ifnonnull_r B dX11_says_54 (tgt := 65) rfl ?_
  refine Z.aload_n B dX11_says_65 (v := .ref 0) rfl rfl ?_
  refine Z.aload B dX11_says_66 (v := .ref q) rfl rfl ?_
  refine Z.iload_n B dX11_says_68 (x := nI 0) rfl ?_
  refine Z.callVI (σ := σ) B (M' := mX11_saysAs) (as := [.ref q, .int (nI 0)]) (st := []) (v := .int (nI pa)) dX11_says_69 wX11_saysAs iX11_saysAs sX11_saysAs kX11_117 (hl.n (k := 0) (by decide)) (hl.k (k := 0) (by decide)) (by decide) rfl rfl (t_K_saysAs_3_0 (σ := σ) hl H ho hw) rfl rfl (by decide) (by decide) (Nat.le_of_ble_eq_true rfl) (by decide) (by decide) ?_
  refine Z.iret B Rt dX11_says_72 (ty := .int) rfl rfl (by decide) (by decide) ?_
  exact ⟨rfl, rfl⟩

theorem t_K_says_0_3_1 {σ : zSt} (hl : Lay σ) {n a y : Nat} (H : zHd σ n a y) {od : Nat → Nat} (ho : zOd σ a od) {s : Nat} (hs : s < 8) {i8 : Nat} (hh : zWa σ (2 + 2 * s) i8) {q pa num : Nat} (hi : i8 < y) (hq : zR σ 24 i8 = some q) (hw : zWo σ q 3 pa num) : Dt mX11_says [.ref 0, .int (nI s), .int (nI 1)] σ (some (.int (-nI 2))) (zuX σ 43 (upd (zX σ 43) 2 (zX σ 43 2 + nI 1))) := by
  have hqs := (hl.shelf hs).2
  obtain ⟨-, hn, hn8, ha, ha4, hy, hy8⟩ := id H
  refine Dt.of (by decide) (Nat.le_of_ble_eq_true rfl) fun κ B Rt => ?_
  show Z κ 0 0 σ 0 [(0, .ref 0), (1, .int (nI s)), (2, .int (nI 1))] []
  refine Z.aload_n B dX11_says_0 (v := .ref 0) rfl rfl ?_
  refine Z.iload_n B dX11_says_1 (x := nI s) rfl ?_
  refine Z.callVI (σ := σ) B (M' := mX11_shelfAt) (as := [.int (nI s)]) (st := []) (v := .ref (2 + 2 * s)) dX11_says_2 wX11_shelfAt iX11_shelfAt sX11_shelfAt kX11_59 (hl.n (k := 0) (by decide)) (hl.k (k := 0) (by decide)) (by decide) rfl rfl (t_X11_shelfAt_in (σ := σ) hl hs) rfl rfl (by decide) (by decide) (Nat.le_of_ble_eq_true rfl) (by decide) (by decide) ?_
  refine Z.astore_n B dX11_says_5 (by decide) rfl (L' := [(0, .ref 0), (1, .int (nI s)), (2, .int (nI 1)), (3, .ref (2 + 2 * s))]) rfl ?_
  refine Z.aload_n B dX11_says_6 (v := .ref (2 + 2 * s)) rfl rfl ?_
  refine Z.ifnull_r B dX11_says_7 ?_
  refine Z.iload_n B dX11_says_10 (x := nI 1) rfl ?_
  refine Z.if_ltN B dX11_says_11 (tgt := 20) rfl (by omega) ?_
  refine Z.iload_n B dX11_says_14 (x := nI 1) rfl ?_
  refine Z.bipush B dX11_says_15 (v := nI 6) rfl ?_
  refine Z.icmp_leN B dX11_says_17 (tgt := 26) rfl (by omega) (by omega) (fun h17 => ?_) (fun h17 => by exfalso; first | omega | contradiction | simp_all)
  refine Z.aload_n B dX11_says_26 (v := .ref (2 + 2 * s)) rfl rfl ?_
  refine Z.callVI (σ := σ) B (M' := mX6_holdsRow) (as := []) (st := []) (v := .int (nI 0)) dX11_says_27 wX6_holdsRow iX6_holdsRow sX6_holdsRow kX11_71 (Nat.lt_of_succ_lt hqs.1) hqs.2.1 (by decide) rfl rfl (t_X6_holdsRow_0 (σ := σ) hqs hh.1) rfl rfl (by decide) (by decide) (Nat.le_of_ble_eq_true rfl) (by decide) (by decide) ?_
  refine Z.if_eqN B dX11_says_30 (tgt := 39) rfl (by omega) (fun h30 => ?_) (fun h30 => by exfalso; first | omega | contradiction | simp_all)
  refine Z.aload_n B dX11_says_39 (v := .ref 0) rfl rfl ?_
  refine Z.getR (σ := σ) B fX11_28_11 dX11_says_40 (hl.n (k := 0) (by decide)) (hl.k (k := 0) (by decide)) (by decide) (j := 20) (hl.r (k := 0) (f := 2) (by decide) (by decide)) ?_
  refine Z.aload_n B dX11_says_43 (v := .ref (2 + 2 * s)) rfl rfl ?_
  refine Z.callVI (σ := σ) B (M' := mX6_wayHeld) (as := []) (st := [.ref 20]) (v := .int (zX σ (2 + 2 * s) 3)) dX11_says_44 wX6_wayHeld iX6_wayHeld sX6_wayHeld kX11_114 (Nat.lt_of_succ_lt hqs.1) hqs.2.1 (by decide) rfl rfl (t_X6_wayHeld (σ := σ) hqs) rfl rfl (by decide) (by decide) (Nat.le_of_ble_eq_true rfl) (by decide) (by decide) ?_
  rw [hh.2.2.1]
  refine Z.callVI (σ := σ) B (M' := mX1_wayAt) (as := [.int (nI i8)]) (st := []) (v := .ref q) dX11_says_47 wX1_wayAt iX1_wayAt sX1_wayAt kX11_102 (hl.n (k := 20) (by decide)) (hl.k (k := 20) (by decide)) (by decide) rfl rfl (t_X1_wayAt_in (σ := σ) H hi hq) rfl rfl (by decide) (by decide) (Nat.le_of_ble_eq_true rfl) (by decide) (by decide) ?_
  refine Z.astore B dX11_says_50 (by decide) rfl (L' := [(0, .ref 0), (1, .int (nI s)), (2, .int (nI 1)), (3, .ref (2 + 2 * s)), (4, .ref q)]) rfl ?_
  refine Z.aload B dX11_says_52 (v := .ref q) rfl rfl ?_
  refine Z.ifnonnull_r B dX11_says_54 (tgt := 65) rfl ?_
  refine Z.aload_n B dX11_says_65 (v := .ref 0) rfl rfl ?_
  refine Z.aload B dX11_says_66 (v := .ref q) rfl rfl ?_
  refine Z.iload_n B dX11_says_68 (x := nI 1) rfl ?_
  refine Z.callVI (σ := σ) B (M' := mX11_saysAs) (as := [.ref q, .int (nI 1)]) (st := []) (v := .int (-nI 2)) dX11_says_69 wX11_saysAs iX11_saysAs sX11_saysAs kX11_117 (hl.n (k := 0) (by decide)) (hl.k (k := 0) (by decide)) (by decide) rfl rfl (t_K_saysAs_3_1 (σ := σ) hl H ho hw) rfl rfl (by decide) (by decide) (Nat.le_of_ble_eq_true rfl) (by decide) (by decide) ?_
  refine Z.eqσ (τ := (zuX σ 43 (upd (zX σ 43) 2 (zX σ 43 2 + nI 1)))) rfl ?_
  refine Z.iret B Rt dX11_says_72 (ty := .int) rfl rfl (by decide) (by decide) ?_
  exact ⟨rfl, rfl⟩

theorem t_K_says_0_3_2 {σ : zSt} (hl : Lay σ) {n a y : Nat} (H : zHd σ n a y) {od : Nat → Nat} (ho : zOd σ a od) {s : Nat} (hs : s < 8) {i8 : Nat} (hh : zWa σ (2 + 2 * s) i8) {q pa num : Nat} (hi : i8 < y) (hq : zR σ 24 i8 = some q) (hw : zWo σ q 3 pa num) : Dt mX11_says [.ref 0, .int (nI s), .int (nI 2)] σ (some (.int (-nI 2))) (zuX σ 43 (upd (zX σ 43) 2 (zX σ 43 2 + nI 1))) := by
  have hqs := (hl.shelf hs).2
  obtain ⟨-, hn, hn8, ha, ha4, hy, hy8⟩ := id H
  refine Dt.of (by decide) (Nat.le_of_ble_eq_true rfl) fun κ B Rt => ?_
  show Z κ 0 0 σ 0 [(0, .ref 0), (1, .int (nI s)), (2, .int (nI 2))] []
  refine Z.aload_n B dX11_says_0 (v := .ref 0) rfl rfl ?_
  refine Z.iload_n B dX11_says_1 (x := nI s) rfl ?_
  refine Z.callVI (σ := σ) B (M' := mX11_shelfAt) (as := [.int (nI s)]) (st := []) (v := .ref (2 + 2 * s)) dX11_says_2 wX11_shelfAt iX11_shelfAt sX11_shelfAt kX11_59 (hl.n (k := 0) (by decide)) (hl.k (k := 0) (by decide)) (by decide) rfl rfl (t_X11_shelfAt_in (σ := σ) hl hs) rfl rfl (by decide) (by decide) (Nat.le_of_ble_eq_true rfl) (by decide) (by decide) ?_
  refine Z.astore_n B dX11_says_5 (by decide) rfl (L' := [(0, .ref 0), (1, .int (nI s)), (2, .int (nI 2)), (3, .ref (2 + 2 * s))]) rfl ?_
  refine Z.aload_n B dX11_says_6 (v := .ref (2 + 2 * s)) rfl rfl ?_
  refine Z.ifnull_r B dX11_says_7 ?_
  refine Z.iload_n B dX11_says_10 (x := nI 2) rfl ?_
  refine Z.if_ltN B dX11_says_11 (tgt := 20) rfl (by omega) ?_
  refine Z.iload_n B dX11_says_14 (x := nI 2) rfl ?_
  refine Z.bipush B dX11_says_15 (v := nI 6) rfl ?_
  refine Z.icmp_leN B dX11_says_17 (tgt := 26) rfl (by omega) (by omega) (fun h17 => ?_) (fun h17 => by exfalso; first | omega | contradiction | simp_all)
  refine Z.aload_n B dX11_says_26 (v := .ref (2 + 2 * s)) rfl rfl ?_
  refine Z.callVI (σ := σ) B (M' := mX6_holdsRow) (as := []) (st := []) (v := .int (nI 0)) dX11_says_27 wX6_holdsRow iX6_holdsRow sX6_holdsRow kX11_71 (Nat.lt_of_succ_lt hqs.1) hqs.2.1 (by decide) rfl rfl (t_X6_holdsRow_0 (σ := σ) hqs hh.1) rfl rfl (by decide) (by decide) (Nat.le_of_ble_eq_true rfl) (by decide) (by decide) ?_
  refine Z.if_eqN B dX11_says_30 (tgt := 39) rfl (by omega) (fun h30 => ?_) (fun h30 => by exfalso; first | omega | contradiction | simp_all)
  refine Z.aload_n B dX11_says_39 (v := .ref 0) rfl rfl ?_
  refine Z.getR (σ := σ) B fX11_28_11 dX11_says_40 (hl.n (k := 0) (by decide)) (hl.k (k := 0) (by decide)) (by decide) (j := 20) (hl.r (k := 0) (f := 2) (by decide) (by decide)) ?_
  refine Z.aload_n B dX11_says_43 (v := .ref (2 + 2 * s)) rfl rfl ?_
  refine Z.callVI (σ := σ) B (M' := mX6_wayHeld) (as := []) (st := [.ref 20]) (v := .int (zX σ (2 + 2 * s) 3)) dX11_says_44 wX6_wayHeld iX6_wayHeld sX6_wayHeld kX11_114 (Nat.lt_of_succ_lt hqs.1) hqs.2.1 (by decide) rfl rfl (t_X6_wayHeld (σ := σ) hqs) rfl rfl (by decide) (by decide) (Nat.le_of_ble_eq_true rfl) (by decide) (by decide) ?_
  rw [hh.2.2.1]
  refine Z.callVI (σ := σ) B (M' := mX1_wayAt) (as := [.int (nI i8)]) (st := []) (v := .ref q) dX11_says_47 wX1_wayAt iX1_wayAt sX1_wayAt kX11_102 (hl.n (k := 20) (by decide)) (hl.k (k := 20) (by decide)) (by decide) rfl rfl (t_X1_wayAt_in (σ := σ) H hi hq) rfl rfl (by decide) (by decide) (Nat.le_of_ble_eq_true rfl) (by decide) (by decide) ?_
  refine Z.astore B dX11_says_50 (by decide) rfl (L' := [(0, .ref 0), (1, .int (nI s)), (2, .int (nI 2)), (3, .ref (2 + 2 * s)), (4, .ref q)]) rfl ?_
  refine Z.aload B dX11_says_52 (v := .ref q) rfl rfl ?_
  refine Z.ifnonnull_r B dX11_says_54 (tgt := 65) rfl ?_
  refine Z.aload_n B dX11_says_65 (v := .ref 0) rfl rfl ?_
  refine Z.aload B dX11_says_66 (v := .ref q) rfl rfl ?_
  refine Z.iload_n B dX11_says_68 (x := nI 2) rfl ?_
  refine Z.callVI (σ := σ) B (M' := mX11_saysAs) (as := [.ref q, .int (nI 2)]) (st := []) (v := .int (-nI 2)) dX11_says_69 wX11_saysAs iX11_saysAs sX11_saysAs kX11_117 (hl.n (k := 0) (by decide)) (hl.k (k := 0) (by decide)) (by decide) rfl rfl (t_K_saysAs_3_2 (σ := σ) hl H ho hw) rfl rfl (by decide) (by decide) (Nat.le_of_ble_eq_true rfl) (by decide) (by decide) ?_
  refine Z.eqσ (τ := (zuX σ 43 (upd (zX σ 43) 2 (zX σ 43 2 + nI 1)))) rfl ?_
  refine Z.iret B Rt dX11_says_72 (ty := .int) rfl rfl (by decide) (by decide) ?_
  exact ⟨rfl, rfl⟩

theorem t_K_says_0_3_3 {σ : zSt} (hl : Lay σ) {n a y : Nat} (H : zHd σ n a y) {od : Nat → Nat} (ho : zOd σ a od) {s : Nat} (hs : s < 8) {i8 : Nat} (hh : zWa σ (2 + 2 * s) i8) {q pa num : Nat} (hi : i8 < y) (hq : zR σ 24 i8 = some q) (hw : zWo σ q 3 pa num) : Dt mX11_says [.ref 0, .int (nI s), .int (nI 3)] σ (some (.int (nI (pa % 3)))) σ := by
  have hqs := (hl.shelf hs).2
  obtain ⟨-, hn, hn8, ha, ha4, hy, hy8⟩ := id H
  refine Dt.of (by decide) (Nat.le_of_ble_eq_true rfl) fun κ B Rt => ?_
  show Z κ 0 0 σ 0 [(0, .ref 0), (1, .int (nI s)), (2, .int (nI 3))] []
  refine Z.aload_n B dX11_says_0 (v := .ref 0) rfl rfl ?_
  refine Z.iload_n B dX11_says_1 (x := nI s) rfl ?_
  refine Z.callVI (σ := σ) B (M' := mX11_shelfAt) (as := [.int (nI s)]) (st := []) (v := .ref (2 + 2 * s)) dX11_says_2 wX11_shelfAt iX11_shelfAt sX11_shelfAt kX11_59 (hl.n (k := 0) (by decide)) (hl.k (k := 0) (by decide)) (by decide) rfl rfl (t_X11_shelfAt_in (σ := σ) hl hs) rfl rfl (by decide) (by decide) (Nat.le_of_ble_eq_true rfl) (by decide) (by decide) ?_
  refine Z.astore_n B dX11_says_5 (by decide) rfl (L' := [(0, .ref 0), (1, .int (nI s)), (2, .int (nI 3)), (3, .ref (2 + 2 * s))]) rfl ?_
  refine Z.aload_n B dX11_says_6 (v := .ref (2 + 2 * s)) rfl rfl ?_
  refine Z.ifnull_r B dX11_says_7 ?_
  refine Z.iload_n B dX11_says_10 (x := nI 3) rfl ?_
  refine Z.if_ltN B dX11_says_11 (tgt := 20) rfl (by omega) ?_
  refine Z.iload_n B dX11_says_14 (x := nI 3) rfl ?_
  refine Z.bipush B dX11_says_15 (v := nI 6) rfl ?_
  refine Z.icmp_leN B dX11_says_17 (tgt := 26) rfl (by omega) (by omega) (fun h17 => ?_) (fun h17 => by exfalso; first | omega | contradiction | simp_all)
  refine Z.aload_n B dX11_says_26 (v := .ref (2 + 2 * s)) rfl rfl ?_
  refine Z.callVI (σ := σ) B (M' := mX6_holdsRow) (as := []) (st := []) (v := .int (nI 0)) dX11_says_27 wX6_holdsRow iX6_holdsRow sX6_holdsRow kX11_71 (Nat.lt_of_succ_lt hqs.1) hqs.2.1 (by decide) rfl rfl (t_X6_holdsRow_0 (σ := σ) hqs hh.1) rfl rfl (by decide) (by decide) (Nat.le_of_ble_eq_true rfl) (by decide) (by decide) ?_
  refine Z.if_eqN B dX11_says_30 (tgt := 39) rfl (by omega) (fun h30 => ?_) (fun h30 => by exfalso; first | omega | contradiction | simp_all)
  refine Z.aload_n B dX11_says_39 (v := .ref 0) rfl rfl ?_
  refine Z.getR (σ := σ) B fX11_28_11 dX11_says_40 (hl.n (k := 0) (by decide)) (hl.k (k := 0) (by decide)) (by decide) (j := 20) (hl.r (k := 0) (f := 2) (by decide) (by decide)) ?_
  refine Z.aload_n B dX11_says_43 (v := .ref (2 + 2 * s)) rfl rfl ?_
  refine Z.callVI (σ := σ) B (M' := mX6_wayHeld) (as := []) (st := [.ref 20]) (v := .int (zX σ (2 + 2 * s) 3)) dX11_says_44 wX6_wayHeld iX6_wayHeld sX6_wayHeld kX11_114 (Nat.lt_of_succ_lt hqs.1) hqs.2.1 (by decide) rfl rfl (t_X6_wayHeld (σ := σ) hqs) rfl rfl (by decide) (by decide) (Nat.le_of_ble_eq_true rfl) (by decide) (by decide) ?_
  rw [hh.2.2.1]
  refine Z.callVI (σ := σ) B (M' := mX1_wayAt) (as := [.int (nI i8)]) (st := []) (v := .ref q) dX11_says_47 wX1_wayAt iX1_wayAt sX1_wayAt kX11_102 (hl.n (k := 20) (by decide)) (hl.k (k := 20) (by decide)) (by decide) rfl rfl (t_X1_wayAt_in (σ := σ) H hi hq) rfl rfl (by decide) (by decide) (Nat.le_of_ble_eq_true rfl) (by decide) (by decide) ?_
  refine Z.astore B dX11_says_50 (by decide) rfl (L' := [(0, .ref 0), (1, .int (nI s)), (2, .int (nI 3)), (3, .ref (2 + 2 * s)), (4, .ref q)]) rfl ?_
  refine Z.aload B dX11_says_52 (v := .ref q) rfl rfl ?_
  refine Z.ifnonnull_r B dX11_says_54 (tgt := 65) rfl ?_
  refine Z.aload_n B dX11_says_65 (v := .ref 0) rfl rfl ?_
  refine Z.aload B dX11_says_66 (v := .ref q) rfl rfl ?_
  refine Z.iload_n B dX11_says_68 (x := nI 3) rfl ?_
  refine Z.callVI (σ := σ) B (M' := mX11_saysAs) (as := [.ref q, .int (nI 3)]) (st := []) (v := .int (nI (pa % 3))) dX11_says_69 wX11_saysAs iX11_saysAs sX11_saysAs kX11_117 (hl.n (k := 0) (by decide)) (hl.k (k := 0) (by decide)) (by decide) rfl rfl (t_K_saysAs_3_3 (σ := σ) hl H ho hw) rfl rfl (by decide) (by decide) (Nat.le_of_ble_eq_true rfl) (by decide) (by decide) ?_
  refine Z.iret B Rt dX11_says_72 (ty := .int) rfl rfl (by decide) (by decide) ?_
  exact ⟨rfl, rfl⟩

theorem t_K_says_0_3_4 {σ : zSt} (hl : Lay σ) {n a y : Nat} (H : zHd σ n a y) {od : Nat → Nat} (ho : zOd σ a od) {s : Nat} (hs : s < 8) {i8 : Nat} (hh : zWa σ (2 + 2 * s) i8) {q pa num : Nat} (hi : i8 < y) (hq : zR σ 24 i8 = some q) (hw : zWo σ q 3 pa num) : Dt mX11_says [.ref 0, .int (nI s), .int (nI 4)] σ (some (.int (-nI 2))) (zuX σ 43 (upd (zX σ 43) 2 (zX σ 43 2 + nI 1))) := by
  have hqs := (hl.shelf hs).2
  obtain ⟨-, hn, hn8, ha, ha4, hy, hy8⟩ := id H
  refine Dt.of (by decide) (Nat.le_of_ble_eq_true rfl) fun κ B Rt => ?_
  show Z κ 0 0 σ 0 [(0, .ref 0), (1, .int (nI s)), (2, .int (nI 4))] []
  refine Z.aload_n B dX11_says_0 (v := .ref 0) rfl rfl ?_
  refine Z.iload_n B dX11_says_1 (x := nI s) rfl ?_
  refine Z.callVI (σ := σ) B (M' := mX11_shelfAt) (as := [.int (nI s)]) (st := []) (v := .ref (2 + 2 * s)) dX11_says_2 wX11_shelfAt iX11_shelfAt sX11_shelfAt kX11_59 (hl.n (k := 0) (by decide)) (hl.k (k := 0) (by decide)) (by decide) rfl rfl (t_X11_shelfAt_in (σ := σ) hl hs) rfl rfl (by decide) (by decide) (Nat.le_of_ble_eq_true rfl) (by decide) (by decide) ?_
  refine Z.astore_n B dX11_says_5 (by decide) rfl (L' := [(0, .ref 0), (1, .int (nI s)), (2, .int (nI 4)), (3, .ref (2 + 2 * s))]) rfl ?_
  refine Z.aload_n B dX11_says_6 (v := .ref (2 + 2 * s)) rfl rfl ?_
  refine Z.ifnull_r B dX11_says_7 ?_
  refine Z.iload_n B dX11_says_10 (x := nI 4) rfl ?_
  refine Z.if_ltN B dX11_says_11 (tgt := 20) rfl (by omega) ?_
  refine Z.iload_n B dX11_says_14 (x := nI 4) rfl ?_
  refine Z.bipush B dX11_says_15 (v := nI 6) rfl ?_
  refine Z.icmp_leN B dX11_says_17 (tgt := 26) rfl (by omega) (by omega) (fun h17 => ?_) (fun h17 => by exfalso; first | omega | contradiction | simp_all)
  refine Z.aload_n B dX11_says_26 (v := .ref (2 + 2 * s)) rfl rfl ?_
  refine Z.callVI (σ := σ) B (M' := mX6_holdsRow) (as := []) (st := []) (v := .int (nI 0)) dX11_says_27 wX6_holdsRow iX6_holdsRow sX6_holdsRow kX11_71 (Nat.lt_of_succ_lt hqs.1) hqs.2.1 (by decide) rfl rfl (t_X6_holdsRow_0 (σ := σ) hqs hh.1) rfl rfl (by decide) (by decide) (Nat.le_of_ble_eq_true rfl) (by decide) (by decide) ?_
  refine Z.if_eqN B dX11_says_30 (tgt := 39) rfl (by omega) (fun h30 => ?_) (fun h30 => by exfalso; first | omega | contradiction | simp_all)
  refine Z.aload_n B dX11_says_39 (v := .ref 0) rfl rfl ?_
  refine Z.getR (σ := σ) B fX11_28_11 dX11_says_40 (hl.n (k := 0) (by decide)) (hl.k (k := 0) (by decide)) (by decide) (j := 20) (hl.r (k := 0) (f := 2) (by decide) (by decide)) ?_
  refine Z.aload_n B dX11_says_43 (v := .ref (2 + 2 * s)) rfl rfl ?_
  refine Z.callVI (σ := σ) B (M' := mX6_wayHeld) (as := []) (st := [.ref 20]) (v := .int (zX σ (2 + 2 * s) 3)) dX11_says_44 wX6_wayHeld iX6_wayHeld sX6_wayHeld kX11_114 (Nat.lt_of_succ_lt hqs.1) hqs.2.1 (by decide) rfl rfl (t_X6_wayHeld (σ := σ) hqs) rfl rfl (by decide) (by decide) (Nat.le_of_ble_eq_true rfl) (by decide) (by decide) ?_
  rw [hh.2.2.1]
  refine Z.callVI (σ := σ) B (M' := mX1_wayAt) (as := [.int (nI i8)]) (st := []) (v := .ref q) dX11_says_47 wX1_wayAt iX1_wayAt sX1_wayAt kX11_102 (hl.n (k := 20) (by decide)) (hl.k (k := 20) (by decide)) (by decide) rfl rfl (t_X1_wayAt_in (σ := σ) H hi hq) rfl rfl (by decide) (by decide) (Nat.le_of_ble_eq_true rfl) (by decide) (by decide) ?_
  refine Z.astore B dX11_says_50 (by decide) rfl (L' := [(0, .ref 0), (1, .int (nI s)), (2, .int (nI 4)), (3, .ref (2 + 2 * s)), (4, .ref q)]) rfl ?_
  refine Z.aload B dX11_says_52 (v := .ref q) rfl rfl ?_
  refine Z.ifnonnull_r B dX11_says_54 (tgt := 65) rfl ?_
  refine Z.aload_n B dX11_says_65 (v := .ref 0) rfl rfl ?_
  refine Z.aload B dX11_says_66 (v := .ref q) rfl rfl ?_
  refine Z.iload_n B dX11_says_68 (x := nI 4) rfl ?_
  refine Z.callVI (σ := σ) B (M' := mX11_saysAs) (as := [.ref q, .int (nI 4)]) (st := []) (v := .int (-nI 2)) dX11_says_69 wX11_saysAs iX11_saysAs sX11_saysAs kX11_117 (hl.n (k := 0) (by decide)) (hl.k (k := 0) (by decide)) (by decide) rfl rfl (t_K_saysAs_3_4 (σ := σ) hl H ho hw) rfl rfl (by decide) (by decide) (Nat.le_of_ble_eq_true rfl) (by decide) (by decide) ?_
  refine Z.eqσ (τ := (zuX σ 43 (upd (zX σ 43) 2 (zX σ 43 2 + nI 1)))) rfl ?_
  refine Z.iret B Rt dX11_says_72 (ty := .int) rfl rfl (by decide) (by decide) ?_
  exact ⟨rfl, rfl⟩

theorem t_K_says_0_3_5 {σ : zSt} (hl : Lay σ) {n a y : Nat} (H : zHd σ n a y) {od : Nat → Nat} (ho : zOd σ a od) {s : Nat} (hs : s < 8) {i8 : Nat} (hh : zWa σ (2 + 2 * s) i8) {q pa num : Nat} (hi : i8 < y) (hq : zR σ 24 i8 = some q) (hw : zWo σ q 3 pa num) : Dt mX11_says [.ref 0, .int (nI s), .int (nI 5)] σ (some (.int (-nI 2))) (zuX σ 43 (upd (zX σ 43) 2 (zX σ 43 2 + nI 1))) := by
  have hqs := (hl.shelf hs).2
  obtain ⟨-, hn, hn8, ha, ha4, hy, hy8⟩ := id H
  refine Dt.of (by decide) (Nat.le_of_ble_eq_true rfl) fun κ B Rt => ?_
  show Z κ 0 0 σ 0 [(0, .ref 0), (1, .int (nI s)), (2, .int (nI 5))] []
  refine Z.aload_n B dX11_says_0 (v := .ref 0) rfl rfl ?_
  refine Z.iload_n B dX11_says_1 (x := nI s) rfl ?_
  refine Z.callVI (σ := σ) B (M' := mX11_shelfAt) (as := [.int (nI s)]) (st := []) (v := .ref (2 + 2 * s)) dX11_says_2 wX11_shelfAt iX11_shelfAt sX11_shelfAt kX11_59 (hl.n (k := 0) (by decide)) (hl.k (k := 0) (by decide)) (by decide) rfl rfl (t_X11_shelfAt_in (σ := σ) hl hs) rfl rfl (by decide) (by decide) (Nat.le_of_ble_eq_true rfl) (by decide) (by decide) ?_
  refine Z.astore_n B dX11_says_5 (by decide) rfl (L' := [(0, .ref 0), (1, .int (nI s)), (2, .int (nI 5)), (3, .ref (2 + 2 * s))]) rfl ?_
  refine Z.aload_n B dX11_says_6 (v := .ref (2 + 2 * s)) rfl rfl ?_
  refine Z.ifnull_r B dX11_says_7 ?_
  refine Z.iload_n B dX11_says_10 (x := nI 5) rfl ?_
  refine Z.if_ltN B dX11_says_11 (tgt := 20) rfl (by omega) ?_
  refine Z.iload_n B dX11_says_14 (x := nI 5) rfl ?_
  refine Z.bipush B dX11_says_15 (v := nI 6) rfl ?_
  refine Z.icmp_leN B dX11_says_17 (tgt := 26) rfl (by omega) (by omega) (fun h17 => ?_) (fun h17 => by exfalso; first | omega | contradiction | simp_all)
  refine Z.aload_n B dX11_says_26 (v := .ref (2 + 2 * s)) rfl rfl ?_
  refine Z.callVI (σ := σ) B (M' := mX6_holdsRow) (as := []) (st := []) (v := .int (nI 0)) dX11_says_27 wX6_holdsRow iX6_holdsRow sX6_holdsRow kX11_71 (Nat.lt_of_succ_lt hqs.1) hqs.2.1 (by decide) rfl rfl (t_X6_holdsRow_0 (σ := σ) hqs hh.1) rfl rfl (by decide) (by decide) (Nat.le_of_ble_eq_true rfl) (by decide) (by decide) ?_
  refine Z.if_eqN B dX11_says_30 (tgt := 39) rfl (by omega) (fun h30 => ?_) (fun h30 => by exfalso; first | omega | contradiction | simp_all)
  refine Z.aload_n B dX11_says_39 (v := .ref 0) rfl rfl ?_
  refine Z.getR (σ := σ) B fX11_28_11 dX11_says_40 (hl.n (k := 0) (by decide)) (hl.k (k := 0) (by decide)) (by decide) (j := 20) (hl.r (k := 0) (f := 2) (by decide) (by decide)) ?_
  refine Z.aload_n B dX11_says_43 (v := .ref (2 + 2 * s)) rfl rfl ?_
  refine Z.callVI (σ := σ) B (M' := mX6_wayHeld) (as := []) (st := [.ref 20]) (v := .int (zX σ (2 + 2 * s) 3)) dX11_says_44 wX6_wayHeld iX6_wayHeld sX6_wayHeld kX11_114 (Nat.lt_of_succ_lt hqs.1) hqs.2.1 (by decide) rfl rfl (t_X6_wayHeld (σ := σ) hqs) rfl rfl (by decide) (by decide) (Nat.le_of_ble_eq_true rfl) (by decide) (by decide) ?_
  rw [hh.2.2.1]
  refine Z.callVI (σ := σ) B (M' := mX1_wayAt) (as := [.int (nI i8)]) (st := []) (v := .ref q) dX11_says_47 wX1_wayAt iX1_wayAt sX1_wayAt kX11_102 (hl.n (k := 20) (by decide)) (hl.k (k := 20) (by decide)) (by decide) rfl rfl (t_X1_wayAt_in (σ := σ) H hi hq) rfl rfl (by decide) (by decide) (Nat.le_of_ble_eq_true rfl) (by decide) (by decide) ?_
  refine Z.astore B dX11_says_50 (by decide) rfl (L' := [(0, .ref 0), (1, .int (nI s)), (2, .int (nI 5)), (3, .ref (2 + 2 * s)), (4, .ref q)]) rfl ?_
  refine Z.aload B dX11_says_52 (v := .ref q) rfl rfl ?_
  refine Z.ifnonnull_r B dX11_says_54 (tgt := 65) rfl ?_
  refine Z.aload_n B dX11_says_65 (v := .ref 0) rfl rfl ?_
  refine Z.aload B dX11_says_66 (v := .ref q) rfl rfl ?_
  refine Z.iload_n B dX11_says_68 (x := nI 5) rfl ?_
  refine Z.callVI (σ := σ) B (M' := mX11_saysAs) (as := [.ref q, .int (nI 5)]) (st := []) (v := .int (-nI 2)) dX11_says_69 wX11_saysAs iX11_saysAs sX11_saysAs kX11_117 (hl.n (k := 0) (by decide)) (hl.k (k := 0) (by decide)) (by decide) rfl rfl (t_K_saysAs_3_5 (σ := σ) hl H ho hw) rfl rfl (by decide) (by decide) (Nat.le_of_ble_eq_true rfl) (by decide) (by decide) ?_
  refine Z.eqσ (τ := (zuX σ 43 (upd (zX σ 43) 2 (zX σ 43 2 + nI 1)))) rfl ?_
  refine Z.iret B Rt dX11_says_72 (ty := .int) rfl rfl (by decide) (by decide) ?_
  exact ⟨rfl, rfl⟩

theorem t_K_says_0_3_6 {σ : zSt} (hl : Lay σ) {n a y : Nat} (H : zHd σ n a y) {od : Nat → Nat} (ho : zOd σ a od) {s : Nat} (hs : s < 8) {i8 : Nat} (hh : zWa σ (2 + 2 * s) i8) {q pa num : Nat} (hi : i8 < y) (hq : zR σ 24 i8 = some q) (hw : zWo σ q 3 pa num) : Dt mX11_says [.ref 0, .int (nI s), .int (nI 6)] σ (some (.int (-nI 2))) (zuX σ 43 (upd (zX σ 43) 2 (zX σ 43 2 + nI 1))) := by
  have hqs := (hl.shelf hs).2
  obtain ⟨-, hn, hn8, ha, ha4, hy, hy8⟩ := id H
  refine Dt.of (by decide) (Nat.le_of_ble_eq_true rfl) fun κ B Rt => ?_
  show Z κ 0 0 σ 0 [(0, .ref 0), (1, .int (nI s)), (2, .int (nI 6))] []
  refine Z.aload_n B dX11_says_0 (v := .ref 0) rfl rfl ?_
  refine Z.iload_n B dX11_says_1 (x := nI s) rfl ?_
  refine Z.callVI (σ := σ) B (M' := mX11_shelfAt) (as := [.int (nI s)]) (st := []) (v := .ref (2 + 2 * s)) dX11_says_2 wX11_shelfAt iX11_shelfAt sX11_shelfAt kX11_59 (hl.n (k := 0) (by decide)) (hl.k (k := 0) (by decide)) (by decide) rfl rfl (t_X11_shelfAt_in (σ := σ) hl hs) rfl rfl (by decide) (by decide) (Nat.le_of_ble_eq_true rfl) (by decide) (by decide) ?_
  refine Z.astore_n B dX11_says_5 (by decide) rfl (L' := [(0, .ref 0), (1, .int (nI s)), (2, .int (nI 6)), (3, .ref (2 + 2 * s))]) rfl ?_
  refine Z.aload_n B dX11_says_6 (v := .ref (2 + 2 * s)) rfl rfl ?_
  refine Z.ifnull_r B dX11_says_7 ?_
  refine Z.iload_n B dX11_says_10 (x := nI 6) rfl ?_
  refine Z.if_ltN B dX11_says_11 (tgt := 20) rfl (by omega) ?_
  refine Z.iload_n B dX11_says_14 (x := nI 6) rfl ?_
  refine Z.bipush B dX11_says_15 (v := nI 6) rfl ?_
  refine Z.icmp_leN B dX11_says_17 (tgt := 26) rfl (by omega) (by omega) (fun h17 => ?_) (fun h17 => by exfalso; first | omega | contradiction | simp_all)
  refine Z.aload_n B dX11_says_26 (v := .ref (2 + 2 * s)) rfl rfl ?_
  refine Z.callVI (σ := σ) B (M' := mX6_holdsRow) (as := []) (st := []) (v := .int (nI 0)) dX11_says_27 wX6_holdsRow iX6_holdsRow sX6_holdsRow kX11_71 (Nat.lt_of_succ_lt hqs.1) hqs.2.1 (by decide) rfl rfl (t_X6_holdsRow_0 (σ := σ) hqs hh.1) rfl rfl (by decide) (by decide) (Nat.le_of_ble_eq_true rfl) (by decide) (by decide) ?_
  refine Z.if_eqN B dX11_says_30 (tgt := 39) rfl (by omega) (fun h30 => ?_) (fun h30 => by exfalso; first | omega | contradiction | simp_all)
  refine Z.aload_n B dX11_says_39 (v := .ref 0) rfl rfl ?_
  refine Z.getR (σ := σ) B fX11_28_11 dX11_says_40 (hl.n (k := 0) (by decide)) (hl.k (k := 0) (by decide)) (by decide) (j := 20) (hl.r (k := 0) (f := 2) (by decide) (by decide)) ?_
  refine Z.aload_n B dX11_says_43 (v := .ref (2 + 2 * s)) rfl rfl ?_
  refine Z.callVI (σ := σ) B (M' := mX6_wayHeld) (as := []) (st := [.ref 20]) (v := .int (zX σ (2 + 2 * s) 3)) dX11_says_44 wX6_wayHeld iX6_wayHeld sX6_wayHeld kX11_114 (Nat.lt_of_succ_lt hqs.1) hqs.2.1 (by decide) rfl rfl (t_X6_wayHeld (σ := σ) hqs) rfl rfl (by decide) (by decide) (Nat.le_of_ble_eq_true rfl) (by decide) (by decide) ?_
  rw [hh.2.2.1]
  refine Z.callVI (σ := σ) B (M' := mX1_wayAt) (as := [.int (nI i8)]) (st := []) (v := .ref q) dX11_says_47 wX1_wayAt iX1_wayAt sX1_wayAt kX11_102 (hl.n (k := 20) (by decide)) (hl.k (k := 20) (by decide)) (by decide) rfl rfl (t_X1_wayAt_in (σ := σ) H hi hq) rfl rfl (by decide) (by decide) (Nat.le_of_ble_eq_true rfl) (by decide) (by decide) ?_
  refine Z.astore B dX11_says_50 (by decide) rfl (L' := [(0, .ref 0), (1, .int (nI s)), (2, .int (nI 6)), (3, .ref (2 + 2 * s)), (4, .ref q)]) rfl ?_
  refine Z.aload B dX11_says_52 (v := .ref q) rfl rfl ?_
  refine Z.ifnonnull_r B dX11_says_54 (tgt := 65) rfl ?_
  refine Z.aload_n B dX11_says_65 (v := .ref 0) rfl rfl ?_
  refine Z.aload B dX11_says_66 (v := .ref q) rfl rfl ?_
  refine Z.iload_n B dX11_says_68 (x := nI 6) rfl ?_
  refine Z.callVI (σ := σ) B (M' := mX11_saysAs) (as := [.ref q, .int (nI 6)]) (st := []) (v := .int (-nI 2)) dX11_says_69 wX11_saysAs iX11_saysAs sX11_saysAs kX11_117 (hl.n (k := 0) (by decide)) (hl.k (k := 0) (by decide)) (by decide) rfl rfl (t_K_saysAs_3_6 (σ := σ) hl H ho hw) rfl rfl (by decide) (by decide) (Nat.le_of_ble_eq_true rfl) (by decide) (by decide) ?_
  refine Z.eqσ (τ := (zuX σ 43 (upd (zX σ 43) 2 (zX σ 43 2 + nI 1)))) rfl ?_
  refine Z.iret B Rt dX11_says_72 (ty := .int) rfl rfl (by decide) (by decide) ?_
  exact ⟨rfl, rfl⟩

theorem t_K_says_0_4_0 {σ : zSt} (hl : Lay σ) {n a y : Nat} (H : zHd σ n a y) {od : Nat → Nat} (ho : zOd σ a od) {s : Nat} (hs : s < 8) {i8 : Nat} (hh : zWa σ (2 + 2 * s) i8) {q pa num : Nat} (hi : i8 < y) (hq : zR σ 24 i8 = some q) (hw : zWo σ q 4 pa num) : Dt mX11_says [.ref 0, .int (nI s), .int (nI 0)] σ (some (.int (nI pa))) σ := by
  have hqs := (hl.shelf hs).2
  obtain ⟨-, hn, hn8, ha, ha4, hy, hy8⟩ := id H
  refine Dt.of (by decide) (Nat.le_of_ble_eq_true rfl) fun κ B Rt => ?_
  show Z κ 0 0 σ 0 [(0, .ref 0), (1, .int (nI s)), (2, .int (nI 0))] []
  refine Z.aload_n B dX11_says_0 (v := .ref 0) rfl rfl ?_
  refine Z.iload_n B dX11_says_1 (x := nI s) rfl ?_
  refine Z.callVI (σ := σ) B (M' := mX11_shelfAt) (as := [.int (nI s)]) (st := []) (v := .ref (2 + 2 * s)) dX11_says_2 wX11_shelfAt iX11_shelfAt sX11_shelfAt kX11_59 (hl.n (k := 0) (by decide)) (hl.k (k := 0) (by decide)) (by decide) rfl rfl (t_X11_shelfAt_in (σ := σ) hl hs) rfl rfl (by decide) (by decide) (Nat.le_of_ble_eq_true rfl) (by decide) (by decide) ?_
  refine Z.astore_n B dX11_says_5 (by decide) rfl (L' := [(0, .ref 0), (1, .int (nI s)), (2, .int (nI 0)), (3, .ref (2 + 2 * s))]) rfl ?_
  refine Z.aload_n B dX11_says_6 (v := .ref (2 + 2 * s)) rfl rfl ?_
  refine Z.ifnull_r B dX11_says_7 ?_
  refine Z.iload_n B dX11_says_10 (x := nI 0) rfl ?_
  refine Z.if_ltN B dX11_says_11 (tgt := 20) rfl (by omega) ?_
  refine Z.iload_n B dX11_says_14 (x := nI 0) rfl ?_
  refine Z.bipush B dX11_says_15 (v := nI 6) rfl ?_
  refine Z.icmp_leN B dX11_says_17 (tgt := 26) rfl (by omega) (by omega) (fun h17 => ?_) (fun h17 => by exfalso; first | omega | contradiction | simp_all)
  refine Z.aload_n B dX11_says_26 (v := .ref (2 + 2 * s)) rfl rfl ?_
  refine Z.callVI (σ := σ) B (M' := mX6_holdsRow) (as := []) (st := []) (v := .int (nI 0)) dX11_says_27 wX6_holdsRow iX6_holdsRow sX6_holdsRow kX11_71 (Nat.lt_of_succ_lt hqs.1) hqs.2.1 (by decide) rfl rfl (t_X6_holdsRow_0 (σ := σ) hqs hh.1) rfl rfl (by decide) (by decide) (Nat.le_of_ble_eq_true rfl) (by decide) (by decide) ?_
  refine Z.if_eqN B dX11_says_30 (tgt := 39) rfl (by omega) (fun h30 => ?_) (fun h30 => by exfalso; first | omega | contradiction | simp_all)
  refine Z.aload_n B dX11_says_39 (v := .ref 0) rfl rfl ?_
  refine Z.getR (σ := σ) B fX11_28_11 dX11_says_40 (hl.n (k := 0) (by decide)) (hl.k (k := 0) (by decide)) (by decide) (j := 20) (hl.r (k := 0) (f := 2) (by decide) (by decide)) ?_
  refine Z.aload_n B dX11_says_43 (v := .ref (2 + 2 * s)) rfl rfl ?_
  refine Z.callVI (σ := σ) B (M' := mX6_wayHeld) (as := []) (st := [.ref 20]) (v := .int (zX σ (2 + 2 * s) 3)) dX11_says_44 wX6_wayHeld iX6_wayHeld sX6_wayHeld kX11_114 (Nat.lt_of_succ_lt hqs.1) hqs.2.1 (by decide) rfl rfl (t_X6_wayHeld (σ := σ) hqs) rfl rfl (by decide) (by decide) (Nat.le_of_ble_eq_true rfl) (by decide) (by decide) ?_
  rw [hh.2.2.1]
  refine Z.callVI (σ := σ) B (M' := mX1_wayAt) (as := [.int (nI i8)]) (st := []) (v := .ref q) dX11_says_47 wX1_wayAt iX1_wayAt sX1_wayAt kX11_102 (hl.n (k := 20) (by decide)) (hl.k (k := 20) (by decide)) (by decide) rfl rfl (t_X1_wayAt_in (σ := σ) H hi hq) rfl rfl (by decide) (by decide) (Nat.le_of_ble_eq_true rfl) (by decide) (by decide) ?_
  refine Z.astore B dX11_says_50 (by decide) rfl (L' := [(0, .ref 0), (1, .int (nI s)), (2, .int (nI 0)), (3, .ref (2 + 2 * s)), (4, .ref q)]) rfl ?_
  refine Z.aload B dX11_says_52 (v := .ref q) rfl rfl ?_
  refine Z.ifnonnull_r B dX11_says_54 (tgt := 65) rfl ?_
  refine Z.aload_n B dX11_says_65 (v := .ref 0) rfl rfl ?_
  refine Z.aload B dX11_says_66 (v := .ref q) rfl rfl ?_
  refine Z.iload_n B dX11_says_68 (x := nI 0) rfl ?_
  refine Z.callVI (σ := σ) B (M' := mX11_saysAs) (as := [.ref q, .int (nI 0)]) (st := []) (v := .int (nI pa)) dX11_says_69 wX11_saysAs iX11_saysAs sX11_saysAs kX11_117 (hl.n (k := 0) (by decide)) (hl.k (k := 0) (by decide)) (by decide) rfl rfl (t_K_saysAs_4_0 (σ := σ) hl H ho hw) rfl rfl (by decide) (by decide) (Nat.le_of_ble_eq_true rfl) (by decide) (by decide) ?_
  refine Z.iret B Rt dX11_says_72 (ty := .int) rfl rfl (by decide) (by decide) ?_
  exact ⟨rfl, rfl⟩

theorem t_K_says_0_4_1 {σ : zSt} (hl : Lay σ) {n a y : Nat} (H : zHd σ n a y) {od : Nat → Nat} (ho : zOd σ a od) {s : Nat} (hs : s < 8) {i8 : Nat} (hh : zWa σ (2 + 2 * s) i8) {q pa num : Nat} (hi : i8 < y) (hq : zR σ 24 i8 = some q) (hw : zWo σ q 4 pa num) : Dt mX11_says [.ref 0, .int (nI s), .int (nI 1)] σ (some (.int (-nI 2))) (zuX σ 43 (upd (zX σ 43) 2 (zX σ 43 2 + nI 1))) := by
  have hqs := (hl.shelf hs).2
  obtain ⟨-, hn, hn8, ha, ha4, hy, hy8⟩ := id H
  refine Dt.of (by decide) (Nat.le_of_ble_eq_true rfl) fun κ B Rt => ?_
  show Z κ 0 0 σ 0 [(0, .ref 0), (1, .int (nI s)), (2, .int (nI 1))] []
  refine Z.aload_n B dX11_says_0 (v := .ref 0) rfl rfl ?_
  refine Z.iload_n B dX11_says_1 (x := nI s) rfl ?_
  refine Z.callVI (σ := σ) B (M' := mX11_shelfAt) (as := [.int (nI s)]) (st := []) (v := .ref (2 + 2 * s)) dX11_says_2 wX11_shelfAt iX11_shelfAt sX11_shelfAt kX11_59 (hl.n (k := 0) (by decide)) (hl.k (k := 0) (by decide)) (by decide) rfl rfl (t_X11_shelfAt_in (σ := σ) hl hs) rfl rfl (by decide) (by decide) (Nat.le_of_ble_eq_true rfl) (by decide) (by decide) ?_
  refine Z.astore_n B dX11_says_5 (by decide) rfl (L' := [(0, .ref 0), (1, .int (nI s)), (2, .int (nI 1)), (3, .ref (2 + 2 * s))]) rfl ?_
  refine Z.aload_n B dX11_says_6 (v := .ref (2 + 2 * s)) rfl rfl ?_
  refine Z.ifnull_r B dX11_says_7 ?_
  refine Z.iload_n B dX11_says_10 (x := nI 1) rfl ?_
  refine Z.if_ltN B dX11_says_11 (tgt := 20) rfl (by omega) ?_
  refine Z.iload_n B dX11_says_14 (x := nI 1) rfl ?_
  refine Z.bipush B dX11_says_15 (v := nI 6) rfl ?_
  refine Z.icmp_leN B dX11_says_17 (tgt := 26) rfl (by omega) (by omega) (fun h17 => ?_) (fun h17 => by exfalso; first | omega | contradiction | simp_all)
  refine Z.aload_n B dX11_says_26 (v := .ref (2 + 2 * s)) rfl rfl ?_
  refine Z.callVI (σ := σ) B (M' := mX6_holdsRow) (as := []) (st := []) (v := .int (nI 0)) dX11_says_27 wX6_holdsRow iX6_holdsRow sX6_holdsRow kX11_71 (Nat.lt_of_succ_lt hqs.1) hqs.2.1 (by decide) rfl rfl (t_X6_holdsRow_0 (σ := σ) hqs hh.1) rfl rfl (by decide) (by decide) (Nat.le_of_ble_eq_true rfl) (by decide) (by decide) ?_
  refine Z.if_eqN B dX11_says_30 (tgt := 39) rfl (by omega) (fun h30 => ?_) (fun h30 => by exfalso; first | omega | contradiction | simp_all)
  refine Z.aload_n B dX11_says_39 (v := .ref 0) rfl rfl ?_
  refine Z.getR (σ := σ) B fX11_28_11 dX11_says_40 (hl.n (k := 0) (by decide)) (hl.k (k := 0) (by decide)) (by decide) (j := 20) (hl.r (k := 0) (f := 2) (by decide) (by decide)) ?_
  refine Z.aload_n B dX11_says_43 (v := .ref (2 + 2 * s)) rfl rfl ?_
  refine Z.callVI (σ := σ) B (M' := mX6_wayHeld) (as := []) (st := [.ref 20]) (v := .int (zX σ (2 + 2 * s) 3)) dX11_says_44 wX6_wayHeld iX6_wayHeld sX6_wayHeld kX11_114 (Nat.lt_of_succ_lt hqs.1) hqs.2.1 (by decide) rfl rfl (t_X6_wayHeld (σ := σ) hqs) rfl rfl (by decide) (by decide) (Nat.le_of_ble_eq_true rfl) (by decide) (by decide) ?_
  rw [hh.2.2.1]
  refine Z.callVI (σ := σ) B (M' := mX1_wayAt) (as := [.int (nI i8)]) (st := []) (v := .ref q) dX11_says_47 wX1_wayAt iX1_wayAt sX1_wayAt kX11_102 (hl.n (k := 20) (by decide)) (hl.k (k := 20) (by decide)) (by decide) rfl rfl (t_X1_wayAt_in (σ := σ) H hi hq) rfl rfl (by decide) (by decide) (Nat.le_of_ble_eq_true rfl) (by decide) (by decide) ?_
  refine Z.astore B dX11_says_50 (by decide) rfl (L' := [(0, .ref 0), (1, .int (nI s)), (2, .int (nI 1)), (3, .ref (2 + 2 * s)), (4, .ref q)]) rfl ?_
  refine Z.aload B dX11_says_52 (v := .ref q) rfl rfl ?_
  refine Z.ifnonnull_r B dX11_says_54 (tgt := 65) rfl ?_
  refine Z.aload_n B dX11_says_65 (v := .ref 0) rfl rfl ?_
  refine Z.aload B dX11_says_66 (v := .ref q) rfl rfl ?_
  refine Z.iload_n B dX11_says_68 (x := nI 1) rfl ?_
  refine Z.callVI (σ := σ) B (M' := mX11_saysAs) (as := [.ref q, .int (nI 1)]) (st := []) (v := .int (-nI 2)) dX11_says_69 wX11_saysAs iX11_saysAs sX11_saysAs kX11_117 (hl.n (k := 0) (by decide)) (hl.k (k := 0) (by decide)) (by decide) rfl rfl (t_K_saysAs_4_1 (σ := σ) hl H ho hw) rfl rfl (by decide) (by decide) (Nat.le_of_ble_eq_true rfl) (by decide) (by decide) ?_
  refine Z.eqσ (τ := (zuX σ 43 (upd (zX σ 43) 2 (zX σ 43 2 + nI 1)))) rfl ?_
  refine Z.iret B Rt dX11_says_72 (ty := .int) rfl rfl (by decide) (by decide) ?_
  exact ⟨rfl, rfl⟩

theorem t_K_says_0_4_2 {σ : zSt} (hl : Lay σ) {n a y : Nat} (H : zHd σ n a y) {od : Nat → Nat} (ho : zOd σ a od) {s : Nat} (hs : s < 8) {i8 : Nat} (hh : zWa σ (2 + 2 * s) i8) {q pa num : Nat} (hi : i8 < y) (hq : zR σ 24 i8 = some q) (hw : zWo σ q 4 pa num) : Dt mX11_says [.ref 0, .int (nI s), .int (nI 2)] σ (some (.int (-nI 2))) (zuX σ 43 (upd (zX σ 43) 2 (zX σ 43 2 + nI 1))) := by
  have hqs := (hl.shelf hs).2
  obtain ⟨-, hn, hn8, ha, ha4, hy, hy8⟩ := id H
  refine Dt.of (by decide) (Nat.le_of_ble_eq_true rfl) fun κ B Rt => ?_
  show Z κ 0 0 σ 0 [(0, .ref 0), (1, .int (nI s)), (2, .int (nI 2))] []
  refine Z.aload_n B dX11_says_0 (v := .ref 0) rfl rfl ?_
  refine Z.iload_n B dX11_says_1 (x := nI s) rfl ?_
  refine Z.callVI (σ := σ) B (M' := mX11_shelfAt) (as := [.int (nI s)]) (st := []) (v := .ref (2 + 2 * s)) dX11_says_2 wX11_shelfAt iX11_shelfAt sX11_shelfAt kX11_59 (hl.n (k := 0) (by decide)) (hl.k (k := 0) (by decide)) (by decide) rfl rfl (t_X11_shelfAt_in (σ := σ) hl hs) rfl rfl (by decide) (by decide) (Nat.le_of_ble_eq_true rfl) (by decide) (by decide) ?_
  refine Z.astore_n B dX11_says_5 (by decide) rfl (L' := [(0, .ref 0), (1, .int (nI s)), (2, .int (nI 2)), (3, .ref (2 + 2 * s))]) rfl ?_
  refine Z.aload_n B dX11_says_6 (v := .ref (2 + 2 * s)) rfl rfl ?_
  refine Z.ifnull_r B dX11_says_7 ?_
  refine Z.iload_n B dX11_says_10 (x := nI 2) rfl ?_
  refine Z.if_ltN B dX11_says_11 (tgt := 20) rfl (by omega) ?_
  refine Z.iload_n B dX11_says_14 (x := nI 2) rfl ?_
  refine Z.bipush B dX11_says_15 (v := nI 6) rfl ?_
  refine Z.icmp_leN B dX11_says_17 (tgt := 26) rfl (by omega) (by omega) (fun h17 => ?_) (fun h17 => by exfalso; first | omega | contradiction | simp_all)
  refine Z.aload_n B dX11_says_26 (v := .ref (2 + 2 * s)) rfl rfl ?_
  refine Z.callVI (σ := σ) B (M' := mX6_holdsRow) (as := []) (st := []) (v := .int (nI 0)) dX11_says_27 wX6_holdsRow iX6_holdsRow sX6_holdsRow kX11_71 (Nat.lt_of_succ_lt hqs.1) hqs.2.1 (by decide) rfl rfl (t_X6_holdsRow_0 (σ := σ) hqs hh.1) rfl rfl (by decide) (by decide) (Nat.le_of_ble_eq_true rfl) (by decide) (by decide) ?_
  refine Z.if_eqN B dX11_says_30 (tgt := 39) rfl (by omega) (fun h30 => ?_) (fun h30 => by exfalso; first | omega | contradiction | simp_all)
  refine Z.aload_n B dX11_says_39 (v := .ref 0) rfl rfl ?_
  refine Z.getR (σ := σ) B fX11_28_11 dX11_says_40 (hl.n (k := 0) (by decide)) (hl.k (k := 0) (by decide)) (by decide) (j := 20) (hl.r (k := 0) (f := 2) (by decide) (by decide)) ?_
  refine Z.aload_n B dX11_says_43 (v := .ref (2 + 2 * s)) rfl rfl ?_
  refine Z.callVI (σ := σ) B (M' := mX6_wayHeld) (as := []) (st := [.ref 20]) (v := .int (zX σ (2 + 2 * s) 3)) dX11_says_44 wX6_wayHeld iX6_wayHeld sX6_wayHeld kX11_114 (Nat.lt_of_succ_lt hqs.1) hqs.2.1 (by decide) rfl rfl (t_X6_wayHeld (σ := σ) hqs) rfl rfl (by decide) (by decide) (Nat.le_of_ble_eq_true rfl) (by decide) (by decide) ?_
  rw [hh.2.2.1]
  refine Z.callVI (σ := σ) B (M' := mX1_wayAt) (as := [.int (nI i8)]) (st := []) (v := .ref q) dX11_says_47 wX1_wayAt iX1_wayAt sX1_wayAt kX11_102 (hl.n (k := 20) (by decide)) (hl.k (k := 20) (by decide)) (by decide) rfl rfl (t_X1_wayAt_in (σ := σ) H hi hq) rfl rfl (by decide) (by decide) (Nat.le_of_ble_eq_true rfl) (by decide) (by decide) ?_
  refine Z.astore B dX11_says_50 (by decide) rfl (L' := [(0, .ref 0), (1, .int (nI s)), (2, .int (nI 2)), (3, .ref (2 + 2 * s)), (4, .ref q)]) rfl ?_
  refine Z.aload B dX11_says_52 (v := .ref q) rfl rfl ?_
  refine Z.ifnonnull_r B dX11_says_54 (tgt := 65) rfl ?_
  refine Z.aload_n B dX11_says_65 (v := .ref 0) rfl rfl ?_
  refine Z.aload B dX11_says_66 (v := .ref q) rfl rfl ?_
  refine Z.iload_n B dX11_says_68 (x := nI 2) rfl ?_
  refine Z.callVI (σ := σ) B (M' := mX11_saysAs) (as := [.ref q, .int (nI 2)]) (st := []) (v := .int (-nI 2)) dX11_says_69 wX11_saysAs iX11_saysAs sX11_saysAs kX11_117 (hl.n (k := 0) (by decide)) (hl.k (k := 0) (by decide)) (by decide) rfl rfl (t_K_saysAs_4_2 (σ := σ) hl H ho hw) rfl rfl (by decide) (by decide) (Nat.le_of_ble_eq_true rfl) (by decide) (by decide) ?_
  refine Z.eqσ (τ := (zuX σ 43 (upd (zX σ 43) 2 (zX σ 43 2 + nI 1)))) rfl ?_
  refine Z.iret B Rt dX11_says_72 (ty := .int) rfl rfl (by decide) (by decide) ?_
  exact ⟨rfl, rfl⟩

theorem t_K_says_0_4_3 {σ : zSt} (hl : Lay σ) {n a y : Nat} (H : zHd σ n a y) {od : Nat → Nat} (ho : zOd σ a od) {s : Nat} (hs : s < 8) {i8 : Nat} (hh : zWa σ (2 + 2 * s) i8) {q pa num : Nat} (hi : i8 < y) (hq : zR σ 24 i8 = some q) (hw : zWo σ q 4 pa num) : Dt mX11_says [.ref 0, .int (nI s), .int (nI 3)] σ (some (.int (-nI 2))) (zuX σ 43 (upd (zX σ 43) 2 (zX σ 43 2 + nI 1))) := by
  have hqs := (hl.shelf hs).2
  obtain ⟨-, hn, hn8, ha, ha4, hy, hy8⟩ := id H
  refine Dt.of (by decide) (Nat.le_of_ble_eq_true rfl) fun κ B Rt => ?_
  show Z κ 0 0 σ 0 [(0, .ref 0), (1, .int (nI s)), (2, .int (nI 3))] []
  refine Z.aload_n B dX11_says_0 (v := .ref 0) rfl rfl ?_
  refine Z.iload_n B dX11_says_1 (x := nI s) rfl ?_
  refine Z.callVI (σ := σ) B (M' := mX11_shelfAt) (as := [.int (nI s)]) (st := []) (v := .ref (2 + 2 * s)) dX11_says_2 wX11_shelfAt iX11_shelfAt sX11_shelfAt kX11_59 (hl.n (k := 0) (by decide)) (hl.k (k := 0) (by decide)) (by decide) rfl rfl (t_X11_shelfAt_in (σ := σ) hl hs) rfl rfl (by decide) (by decide) (Nat.le_of_ble_eq_true rfl) (by decide) (by decide) ?_
  refine Z.astore_n B dX11_says_5 (by decide) rfl (L' := [(0, .ref 0), (1, .int (nI s)), (2, .int (nI 3)), (3, .ref (2 + 2 * s))]) rfl ?_
  refine Z.aload_n B dX11_says_6 (v := .ref (2 + 2 * s)) rfl rfl ?_
  refine Z.ifnull_r B dX11_says_7 ?_
  refine Z.iload_n B dX11_says_10 (x := nI 3) rfl ?_
  refine Z.if_ltN B dX11_says_11 (tgt := 20) rfl (by omega) ?_
  refine Z.iload_n B dX11_says_14 (x := nI 3) rfl ?_
  refine Z.bipush B dX11_says_15 (v := nI 6) rfl ?_
  refine Z.icmp_leN B dX11_says_17 (tgt := 26) rfl (by omega) (by omega) (fun h17 => ?_) (fun h17 => by exfalso; first | omega | contradiction | simp_all)
  refine Z.aload_n B dX11_says_26 (v := .ref (2 + 2 * s)) rfl rfl ?_
  refine Z.callVI (σ := σ) B (M' := mX6_holdsRow) (as := []) (st := []) (v := .int (nI 0)) dX11_says_27 wX6_holdsRow iX6_holdsRow sX6_holdsRow kX11_71 (Nat.lt_of_succ_lt hqs.1) hqs.2.1 (by decide) rfl rfl (t_X6_holdsRow_0 (σ := σ) hqs hh.1) rfl rfl (by decide) (by decide) (Nat.le_of_ble_eq_true rfl) (by decide) (by decide) ?_
  refine Z.if_eqN B dX11_says_30 (tgt := 39) rfl (by omega) (fun h30 => ?_) (fun h30 => by exfalso; first | omega | contradiction | simp_all)
  refine Z.aload_n B dX11_says_39 (v := .ref 0) rfl rfl ?_
  refine Z.getR (σ := σ) B fX11_28_11 dX11_says_40 (hl.n (k := 0) (by decide)) (hl.k (k := 0) (by decide)) (by decide) (j := 20) (hl.r (k := 0) (f := 2) (by decide) (by decide)) ?_
  refine Z.aload_n B dX11_says_43 (v := .ref (2 + 2 * s)) rfl rfl ?_
  refine Z.callVI (σ := σ) B (M' := mX6_wayHeld) (as := []) (st := [.ref 20]) (v := .int (zX σ (2 + 2 * s) 3)) dX11_says_44 wX6_wayHeld iX6_wayHeld sX6_wayHeld kX11_114 (Nat.lt_of_succ_lt hqs.1) hqs.2.1 (by decide) rfl rfl (t_X6_wayHeld (σ := σ) hqs) rfl rfl (by decide) (by decide) (Nat.le_of_ble_eq_true rfl) (by decide) (by decide) ?_
  rw [hh.2.2.1]
  refine Z.callVI (σ := σ) B (M' := mX1_wayAt) (as := [.int (nI i8)]) (st := []) (v := .ref q) dX11_says_47 wX1_wayAt iX1_wayAt sX1_wayAt kX11_102 (hl.n (k := 20) (by decide)) (hl.k (k := 20) (by decide)) (by decide) rfl rfl (t_X1_wayAt_in (σ := σ) H hi hq) rfl rfl (by decide) (by decide) (Nat.le_of_ble_eq_true rfl) (by decide) (by decide) ?_
  refine Z.astore B dX11_says_50 (by decide) rfl (L' := [(0, .ref 0), (1, .int (nI s)), (2, .int (nI 3)), (3, .ref (2 + 2 * s)), (4, .ref q)]) rfl ?_
  refine Z.aload B dX11_says_52 (v := .ref q) rfl rfl ?_
  refine Z.ifnonnull_r B dX11_says_54 (tgt := 65) rfl ?_
  refine Z.aload_n B dX11_says_65 (v := .ref 0) rfl rfl ?_
  refine Z.aload B dX11_says_66 (v := .ref q) rfl rfl ?_
  refine Z.iload_n B dX11_says_68 (x := nI 3) rfl ?_
  refine Z.callVI (σ := σ) B (M' := mX11_saysAs) (as := [.ref q, .int (nI 3)]) (st := []) (v := .int (-nI 2)) dX11_says_69 wX11_saysAs iX11_saysAs sX11_saysAs kX11_117 (hl.n (k := 0) (by decide)) (hl.k (k := 0) (by decide)) (by decide) rfl rfl (t_K_saysAs_4_3 (σ := σ) hl H ho hw) rfl rfl (by decide) (by decide) (Nat.le_of_ble_eq_true rfl) (by decide) (by decide) ?_
  refine Z.eqσ (τ := (zuX σ 43 (upd (zX σ 43) 2 (zX σ 43 2 + nI 1)))) rfl ?_
  refine Z.iret B Rt dX11_says_72 (ty := .int) rfl rfl (by decide) (by decide) ?_
  exact ⟨rfl, rfl⟩

theorem t_K_says_0_4_4 {σ : zSt} (hl : Lay σ) {n a y : Nat} (H : zHd σ n a y) {od : Nat → Nat} (ho : zOd σ a od) {s : Nat} (hs : s < 8) {i8 : Nat} (hh : zWa σ (2 + 2 * s) i8) {q pa num : Nat} (hi : i8 < y) (hq : zR σ 24 i8 = some q) (hw : zWo σ q 4 pa num) : Dt mX11_says [.ref 0, .int (nI s), .int (nI 4)] σ (some (.int (ct (fun c => decide (cn (zX σ 21) c 6 < nI pa)) n))) σ := by
  have hqs := (hl.shelf hs).2
  obtain ⟨-, hn, hn8, ha, ha4, hy, hy8⟩ := id H
  refine Dt.of (by decide) (Nat.le_of_ble_eq_true rfl) fun κ B Rt => ?_
  show Z κ 0 0 σ 0 [(0, .ref 0), (1, .int (nI s)), (2, .int (nI 4))] []
  refine Z.aload_n B dX11_says_0 (v := .ref 0) rfl rfl ?_
  refine Z.iload_n B dX11_says_1 (x := nI s) rfl ?_
  refine Z.callVI (σ := σ) B (M' := mX11_shelfAt) (as := [.int (nI s)]) (st := []) (v := .ref (2 + 2 * s)) dX11_says_2 wX11_shelfAt iX11_shelfAt sX11_shelfAt kX11_59 (hl.n (k := 0) (by decide)) (hl.k (k := 0) (by decide)) (by decide) rfl rfl (t_X11_shelfAt_in (σ := σ) hl hs) rfl rfl (by decide) (by decide) (Nat.le_of_ble_eq_true rfl) (by decide) (by decide) ?_
  refine Z.astore_n B dX11_says_5 (by decide) rfl (L' := [(0, .ref 0), (1, .int (nI s)), (2, .int (nI 4)), (3, .ref (2 + 2 * s))]) rfl ?_
  refine Z.aload_n B dX11_says_6 (v := .ref (2 + 2 * s)) rfl rfl ?_
  refine Z.ifnull_r B dX11_says_7 ?_
  refine Z.iload_n B dX11_says_10 (x := nI 4) rfl ?_
  refine Z.if_ltN B dX11_says_11 (tgt := 20) rfl (by omega) ?_
  refine Z.iload_n B dX11_says_14 (x := nI 4) rfl ?_
  refine Z.bipush B dX11_says_15 (v := nI 6) rfl ?_
  refine Z.icmp_leN B dX11_says_17 (tgt := 26) rfl (by omega) (by omega) (fun h17 => ?_) (fun h17 => by exfalso; first | omega | contradiction | simp_all)
  refine Z.aload_n B dX11_says_26 (v := .ref (2 + 2 * s)) rfl rfl ?_
  refine Z.callVI (σ := σ) B (M' := mX6_holdsRow) (as := []) (st := []) (v := .int (nI 0)) dX11_says_27 wX6_holdsRow iX6_holdsRow sX6_holdsRow kX11_71 (Nat.lt_of_succ_lt hqs.1) hqs.2.1 (by decide) rfl rfl (t_X6_holdsRow_0 (σ := σ) hqs hh.1) rfl rfl (by decide) (by decide) (Nat.le_of_ble_eq_true rfl) (by decide) (by decide) ?_
  refine Z.if_eqN B dX11_says_30 (tgt := 39) rfl (by omega) (fun h30 => ?_) (fun h30 => by exfalso; first | omega | contradiction | simp_all)
  refine Z.aload_n B dX11_says_39 (v := .ref 0) rfl rfl ?_
  refine Z.getR (σ := σ) B fX11_28_11 dX11_says_40 (hl.n (k := 0) (by decide)) (hl.k (k := 0) (by decide)) (by decide) (j := 20) (hl.r (k := 0) (f := 2) (by decide) (by decide)) ?_
  refine Z.aload_n B dX11_says_43 (v := .ref (2 + 2 * s)) rfl rfl ?_
  refine Z.callVI (σ := σ) B (M' := mX6_wayHeld) (as := []) (st := [.ref 20]) (v := .int (zX σ (2 + 2 * s) 3)) dX11_says_44 wX6_wayHeld iX6_wayHeld sX6_wayHeld kX11_114 (Nat.lt_of_succ_lt hqs.1) hqs.2.1 (by decide) rfl rfl (t_X6_wayHeld (σ := σ) hqs) rfl rfl (by decide) (by decide) (Nat.le_of_ble_eq_true rfl) (by decide) (by decide) ?_
  rw [hh.2.2.1]
  refine Z.callVI (σ := σ) B (M' := mX1_wayAt) (as := [.int (nI i8)]) (st := []) (v := .ref q) dX11_says_47 wX1_wayAt iX1_wayAt sX1_wayAt kX11_102 (hl.n (k := 20) (by decide)) (hl.k (k := 20) (by decide)) (by decide) rfl rfl (t_X1_wayAt_in (σ := σ) H hi hq) rfl rfl (by decide) (by decide) (Nat.le_of_ble_eq_true rfl) (by decide) (by decide) ?_
  refine Z.astore B dX11_says_50 (by decide) rfl (L' := [(0, .ref 0), (1, .int (nI s)), (2, .int (nI 4)), (3, .ref (2 + 2 * s)), (4, .ref q)]) rfl ?_
  refine Z.aload B dX11_says_52 (v := .ref q) rfl rfl ?_
  refine Z.ifnonnull_r B dX11_says_54 (tgt := 65) rfl ?_
  refine Z.aload_n B dX11_says_65 (v := .ref 0) rfl rfl ?_
  refine Z.aload B dX11_says_66 (v := .ref q) rfl rfl ?_
  refine Z.iload_n B dX11_says_68 (x := nI 4) rfl ?_
  refine Z.callVI (σ := σ) B (M' := mX11_saysAs) (as := [.ref q, .int (nI 4)]) (st := []) (v := .int (ct (fun c => decide (cn (zX σ 21) c 6 < nI pa)) n)) dX11_says_69 wX11_saysAs iX11_saysAs sX11_saysAs kX11_117 (hl.n (k := 0) (by decide)) (hl.k (k := 0) (by decide)) (by decide) rfl rfl (t_K_saysAs_4_4 (σ := σ) hl H ho hw) rfl rfl (by decide) (by decide) (Nat.le_of_ble_eq_true rfl) (by decide) (by decide) ?_
  refine Z.iret B Rt dX11_says_72 (ty := .int) rfl rfl (by decide) (by decide) ?_
  exact ⟨rfl, rfl⟩

theorem t_K_says_0_4_5 {σ : zSt} (hl : Lay σ) {n a y : Nat} (H : zHd σ n a y) {od : Nat → Nat} (ho : zOd σ a od) {s : Nat} (hs : s < 8) {i8 : Nat} (hh : zWa σ (2 + 2 * s) i8) {q pa num : Nat} (hi : i8 < y) (hq : zR σ 24 i8 = some q) (hw : zWo σ q 4 pa num) : Dt mX11_says [.ref 0, .int (nI s), .int (nI 5)] σ (some (.int (-nI 2))) (zuX σ 43 (upd (zX σ 43) 2 (zX σ 43 2 + nI 1))) := by
  have hqs := (hl.shelf hs).2
  obtain ⟨-, hn, hn8, ha, ha4, hy, hy8⟩ := id H
  refine Dt.of (by decide) (Nat.le_of_ble_eq_true rfl) fun κ B Rt => ?_
  show Z κ 0 0 σ 0 [(0, .ref 0), (1, .int (nI s)), (2, .int (nI 5))] []
  refine Z.aload_n B dX11_says_0 (v := .ref 0) rfl rfl ?_
  refine Z.iload_n B dX11_says_1 (x := nI s) rfl ?_
  refine Z.callVI (σ := σ) B (M' := mX11_shelfAt) (as := [.int (nI s)]) (st := []) (v := .ref (2 + 2 * s)) dX11_says_2 wX11_shelfAt iX11_shelfAt sX11_shelfAt kX11_59 (hl.n (k := 0) (by decide)) (hl.k (k := 0) (by decide)) (by decide) rfl rfl (t_X11_shelfAt_in (σ := σ) hl hs) rfl rfl (by decide) (by decide) (Nat.le_of_ble_eq_true rfl) (by decide) (by decide) ?_
  refine Z.astore_n B dX11_says_5 (by decide) rfl (L' := [(0, .ref 0), (1, .int (nI s)), (2, .int (nI 5)), (3, .ref (2 + 2 * s))]) rfl ?_
  refine Z.aload_n B dX11_says_6 (v := .ref (2 + 2 * s)) rfl rfl ?_
  refine Z.ifnull_r B dX11_says_7 ?_
  refine Z.iload_n B dX11_says_10 (x := nI 5) rfl ?_
  refine Z.if_ltN B dX11_says_11 (tgt := 20) rfl (by omega) ?_
  refine Z.iload_n B dX11_says_14 (x := nI 5) rfl ?_
  refine Z.bipush B dX11_says_15 (v := nI 6) rfl ?_
  refine Z.icmp_leN B dX11_says_17 (tgt := 26) rfl (by omega) (by omega) (fun h17 => ?_) (fun h17 => by exfalso; first | omega | contradiction | simp_all)
  refine Z.aload_n B dX11_says_26 (v := .ref (2 + 2 * s)) rfl rfl ?_
  refine Z.callVI (σ := σ) B (M' := mX6_holdsRow) (as := []) (st := []) (v := .int (nI 0)) dX11_says_27 wX6_holdsRow iX6_holdsRow sX6_holdsRow kX11_71 (Nat.lt_of_succ_lt hqs.1) hqs.2.1 (by decide) rfl rfl (t_X6_holdsRow_0 (σ := σ) hqs hh.1) rfl rfl (by decide) (by decide) (Nat.le_of_ble_eq_true rfl) (by decide) (by decide) ?_
  refine Z.if_eqN B dX11_says_30 (tgt := 39) rfl (by omega) (fun h30 => ?_) (fun h30 => by exfalso; first | omega | contradiction | simp_all)
  refine Z.aload_n B dX11_says_39 (v := .ref 0) rfl rfl ?_
  refine Z.getR (σ := σ) B fX11_28_11 dX11_says_40 (hl.n (k := 0) (by decide)) (hl.k (k := 0) (by decide)) (by decide) (j := 20) (hl.r (k := 0) (f := 2) (by decide) (by decide)) ?_
  refine Z.aload_n B dX11_says_43 (v := .ref (2 + 2 * s)) rfl rfl ?_
  refine Z.callVI (σ := σ) B (M' := mX6_wayHeld) (as := []) (st := [.ref 20]) (v := .int (zX σ (2 + 2 * s) 3)) dX11_says_44 wX6_wayHeld iX6_wayHeld sX6_wayHeld kX11_114 (Nat.lt_of_succ_lt hqs.1) hqs.2.1 (by decide) rfl rfl (t_X6_wayHeld (σ := σ) hqs) rfl rfl (by decide) (by decide) (Nat.le_of_ble_eq_true rfl) (by decide) (by decide) ?_
  rw [hh.2.2.1]
  refine Z.callVI (σ := σ) B (M' := mX1_wayAt) (as := [.int (nI i8)]) (st := []) (v := .ref q) dX11_says_47 wX1_wayAt iX1_wayAt sX1_wayAt kX11_102 (hl.n (k := 20) (by decide)) (hl.k (k := 20) (by decide)) (by decide) rfl rfl (t_X1_wayAt_in (σ := σ) H hi hq) rfl rfl (by decide) (by decide) (Nat.le_of_ble_eq_true rfl) (by decide) (by decide) ?_
  refine Z.astore B dX11_says_50 (by decide) rfl (L' := [(0, .ref 0), (1, .int (nI s)), (2, .int (nI 5)), (3, .ref (2 + 2 * s)), (4, .ref q)]) rfl ?_
  refine Z.aload B dX11_says_52 (v := .ref q) rfl rfl ?_
  refine Z.ifnonnull_r B dX11_says_54 (tgt := 65) rfl ?_
  refine Z.aload_n B dX11_says_65 (v := .ref 0) rfl rfl ?_
  refine Z.aload B dX11_says_66 (v := .ref q) rfl rfl ?_
  refine Z.iload_n B dX11_says_68 (x := nI 5) rfl ?_
  refine Z.callVI (σ := σ) B (M' := mX11_saysAs) (as := [.ref q, .int (nI 5)]) (st := []) (v := .int (-nI 2)) dX11_says_69 wX11_saysAs iX11_saysAs sX11_saysAs kX11_117 (hl.n (k := 0) (by decide)) (hl.k (k := 0) (by decide)) (by decide) rfl rfl (t_K_saysAs_4_5 (σ := σ) hl H ho hw) rfl rfl (by decide) (by decide) (Nat.le_of_ble_eq_true rfl) (by decide) (by decide) ?_
  refine Z.eqσ (τ := (zuX σ 43 (upd (zX σ 43) 2 (zX σ 43 2 + nI 1)))) rfl ?_
  refine Z.iret B Rt dX11_says_72 (ty := .int) rfl rfl (by decide) (by decide) ?_
  exact ⟨rfl, rfl⟩

theorem t_K_says_0_4_6 {σ : zSt} (hl : Lay σ) {n a y : Nat} (H : zHd σ n a y) {od : Nat → Nat} (ho : zOd σ a od) {s : Nat} (hs : s < 8) {i8 : Nat} (hh : zWa σ (2 + 2 * s) i8) {q pa num : Nat} (hi : i8 < y) (hq : zR σ 24 i8 = some q) (hw : zWo σ q 4 pa num) : Dt mX11_says [.ref 0, .int (nI s), .int (nI 6)] σ (some (.int (-nI 2))) (zuX σ 43 (upd (zX σ 43) 2 (zX σ 43 2 + nI 1))) := by
  have hqs := (hl.shelf hs).2
  obtain ⟨-, hn, hn8, ha, ha4, hy, hy8⟩ := id H
  refine Dt.of (by decide) (Nat.le_of_ble_eq_true rfl) fun κ B Rt => ?_
  show Z κ 0 0 σ 0 [(0, .ref 0), (1, .int (nI s)), (2, .int (nI 6))] []
  refine Z.aload_n B dX11_says_0 (v := .ref 0) rfl rfl ?_
  refine Z.iload_n B dX11_says_1 (x := nI s) rfl ?_
  refine Z.callVI (σ := σ) B (M' := mX11_shelfAt) (as := [.int (nI s)]) (st := []) (v := .ref (2 + 2 * s)) dX11_says_2 wX11_shelfAt iX11_shelfAt sX11_shelfAt kX11_59 (hl.n (k := 0) (by decide)) (hl.k (k := 0) (by decide)) (by decide) rfl rfl (t_X11_shelfAt_in (σ := σ) hl hs) rfl rfl (by decide) (by decide) (Nat.le_of_ble_eq_true rfl) (by decide) (by decide) ?_
  refine Z.astore_n B dX11_says_5 (by decide) rfl (L' := [(0, .ref 0), (1, .int (nI s)), (2, .int (nI 6)), (3, .ref (2 + 2 * s))]) rfl ?_
  refine Z.aload_n B dX11_says_6 (v := .ref (2 + 2 * s)) rfl rfl ?_
  refine Z.ifnull_r B dX11_says_7 ?_
  refine Z.iload_n B dX11_says_10 (x := nI 6) rfl ?_
  refine Z.if_ltN B dX11_says_11 (tgt := 20) rfl (by omega) ?_
  refine Z.iload_n B dX11_says_14 (x := nI 6) rfl ?_
  refine Z.bipush B dX11_says_15 (v := nI 6) rfl ?_
  refine Z.icmp_leN B dX11_says_17 (tgt := 26) rfl (by omega) (by omega) (fun h17 => ?_) (fun h17 => by exfalso; first | omega | contradiction | simp_all)
  refine Z.aload_n B dX11_says_26 (v := .ref (2 + 2 * s)) rfl rfl ?_
  refine Z.callVI (σ := σ) B (M' := mX6_holdsRow) (as := []) (st := []) (v := .int (nI 0)) dX11_says_27 wX6_holdsRow iX6_holdsRow sX6_holdsRow kX11_71 (Nat.lt_of_succ_lt hqs.1) hqs.2.1 (by decide) rfl rfl (t_X6_holdsRow_0 (σ := σ) hqs hh.1) rfl rfl (by decide) (by decide) (Nat.le_of_ble_eq_true rfl) (by decide) (by decide) ?_
  refine Z.if_eqN B dX11_says_30 (tgt := 39) rfl (by omega) (fun h30 => ?_) (fun h30 => by exfalso; first | omega | contradiction | simp_all)
  refine Z.aload_n B dX11_says_39 (v := .ref 0) rfl rfl ?_
  refine Z.getR (σ := σ) B fX11_28_11 dX11_says_40 (hl.n (k := 0) (by decide)) (hl.k (k := 0) (by decide)) (by decide) (j := 20) (hl.r (k := 0) (f := 2) (by decide) (by decide)) ?_
  refine Z.aload_n B dX11_says_43 (v := .ref (2 + 2 * s)) rfl rfl ?_
  refine Z.callVI (σ := σ) B (M' := mX6_wayHeld) (as := []) (st := [.ref 20]) (v := .int (zX σ (2 + 2 * s) 3)) dX11_says_44 wX6_wayHeld iX6_wayHeld sX6_wayHeld kX11_114 (Nat.lt_of_succ_lt hqs.1) hqs.2.1 (by decide) rfl rfl (t_X6_wayHeld (σ := σ) hqs) rfl rfl (by decide) (by decide) (Nat.le_of_ble_eq_true rfl) (by decide) (by decide) ?_
  rw [hh.2.2.1]
  refine Z.callVI (σ := σ) B (M' := mX1_wayAt) (as := [.int (nI i8)]) (st := []) (v := .ref q) dX11_says_47 wX1_wayAt iX1_wayAt sX1_wayAt kX11_102 (hl.n (k := 20) (by decide)) (hl.k (k := 20) (by decide)) (by decide) rfl rfl (t_X1_wayAt_in (σ := σ) H hi hq) rfl rfl (by decide) (by decide) (Nat.le_of_ble_eq_true rfl) (by decide) (by decide) ?_
  refine Z.astore B dX11_says_50 (by decide) rfl (L' := [(0, .ref 0), (1, .int (nI s)), (2, .int (nI 6)), (3, .ref (2 + 2 * s)), (4, .ref q)]) rfl ?_
  refine Z.aload B dX11_says_52 (v := .ref q) rfl rfl ?_
  refine Z.ifnonnull_r B dX11_says_54 (tgt := 65) rfl ?_
  refine Z.aload_n B dX11_says_65 (v := .ref 0) rfl rfl ?_
  refine Z.aload B dX11_says_66 (v := .ref q) rfl rfl ?_
  refine Z.iload_n B dX11_says_68 (x := nI 6) rfl ?_
  refine Z.callVI (σ := σ) B (M' := mX11_saysAs) (as := [.ref q, .int (nI 6)]) (st := []) (v := .int (-nI 2)) dX11_says_69 wX11_saysAs iX11_saysAs sX11_saysAs kX11_117 (hl.n (k := 0) (by decide)) (hl.k (k := 0) (by decide)) (by decide) rfl rfl (t_K_saysAs_4_6 (σ := σ) hl H ho hw) rfl rfl (by decide) (by decide) (Nat.le_of_ble_eq_true rfl) (by decide) (by decide) ?_
  refine Z.eqσ (τ := (zuX σ 43 (upd (zX σ 43) 2 (zX σ 43 2 + nI 1)))) rfl ?_
  refine Z.iret B Rt dX11_says_72 (ty := .int) rfl rfl (by decide) (by decide) ?_
  exact ⟨rfl, rfl⟩

theorem t_K_says_0_5_0 {σ : zSt} (hl : Lay σ) {n a y : Nat} (H : zHd σ n a y) {od : Nat → Nat} (ho : zOd σ a od) {s : Nat} (hs : s < 8) {i8 : Nat} (hh : zWa σ (2 + 2 * s) i8) {q pa num : Nat} (hi : i8 < y) (hq : zR σ 24 i8 = some q) (hw : zWo σ q 5 pa num) : Dt mX11_says [.ref 0, .int (nI s), .int (nI 0)] σ (some (.int (nI pa))) σ := by
  have hqs := (hl.shelf hs).2
  obtain ⟨-, hn, hn8, ha, ha4, hy, hy8⟩ := id H
  refine Dt.of (by decide) (Nat.le_of_ble_eq_true rfl) fun κ B Rt => ?_
  show Z κ 0 0 σ 0 [(0, .ref 0), (1, .int (nI s)), (2, .int (nI 0))] []
  refine Z.aload_n B dX11_says_0 (v := .ref 0) rfl rfl ?_
  refine Z.iload_n B dX11_says_1 (x := nI s) rfl ?_
  refine Z.callVI (σ := σ) B (M' := mX11_shelfAt) (as := [.int (nI s)]) (st := []) (v := .ref (2 + 2 * s)) dX11_says_2 wX11_shelfAt iX11_shelfAt sX11_shelfAt kX11_59 (hl.n (k := 0) (by decide)) (hl.k (k := 0) (by decide)) (by decide) rfl rfl (t_X11_shelfAt_in (σ := σ) hl hs) rfl rfl (by decide) (by decide) (Nat.le_of_ble_eq_true rfl) (by decide) (by decide) ?_
  refine Z.astore_n B dX11_says_5 (by decide) rfl (L' := [(0, .ref 0), (1, .int (nI s)), (2, .int (nI 0)), (3, .ref (2 + 2 * s))]) rfl ?_
  refine Z.aload_n B dX11_says_6 (v := .ref (2 + 2 * s)) rfl rfl ?_
  refine Z.ifnull_r B dX11_says_7 ?_
  refine Z.iload_n B dX11_says_10 (x := nI 0) rfl ?_
  refine Z.if_ltN B dX11_says_11 (tgt := 20) rfl (by omega) ?_
  refine Z.iload_n B dX11_says_14 (x := nI 0) rfl ?_
  refine Z.bipush B dX11_says_15 (v := nI 6) rfl ?_
  refine Z.icmp_leN B dX11_says_17 (tgt := 26) rfl (by omega) (by omega) (fun h17 => ?_) (fun h17 => by exfalso; first | omega | contradiction | simp_all)
  refine Z.aload_n B dX11_says_26 (v := .ref (2 + 2 * s)) rfl rfl ?_
  refine Z.callVI (σ := σ) B (M' := mX6_holdsRow) (as := []) (st := []) (v := .int (nI 0)) dX11_says_27 wX6_holdsRow iX6_holdsRow sX6_holdsRow kX11_71 (Nat.lt_of_succ_lt hqs.1) hqs.2.1 (by decide) rfl rfl (t_X6_holdsRow_0 (σ := σ) hqs hh.1) rfl rfl (by decide) (by decide) (Nat.le_of_ble_eq_true rfl) (by decide) (by decide) ?_
  refine Z.if_eqN B dX11_says_30 (tgt := 39) rfl (by omega) (fun h30 => ?_) (fun h30 => by exfalso; first | omega | contradiction | simp_all)
  refine Z.aload_n B dX11_says_39 (v := .ref 0) rfl rfl ?_
  refine Z.getR (σ := σ) B fX11_28_11 dX11_says_40 (hl.n (k := 0) (by decide)) (hl.k (k := 0) (by decide)) (by decide) (j := 20) (hl.r (k := 0) (f := 2) (by decide) (by decide)) ?_
  refine Z.aload_n B dX11_says_43 (v := .ref (2 + 2 * s)) rfl rfl ?_
  refine Z.callVI (σ := σ) B (M' := mX6_wayHeld) (as := []) (st := [.ref 20]) (v := .int (zX σ (2 + 2 * s) 3)) dX11_says_44 wX6_wayHeld iX6_wayHeld sX6_wayHeld kX11_114 (Nat.lt_of_succ_lt hqs.1) hqs.2.1 (by decide) rfl rfl (t_X6_wayHeld (σ := σ) hqs) rfl rfl (by decide) (by decide) (Nat.le_of_ble_eq_true rfl) (by decide) (by decide) ?_
  rw [hh.2.2.1]
  refine Z.callVI (σ := σ) B (M' := mX1_wayAt) (as := [.int (nI i8)]) (st := []) (v := .ref q) dX11_says_47 wX1_wayAt iX1_wayAt sX1_wayAt kX11_102 (hl.n (k := 20) (by decide)) (hl.k (k := 20) (by decide)) (by decide) rfl rfl (t_X1_wayAt_in (σ := σ) H hi hq) rfl rfl (by decide) (by decide) (Nat.le_of_ble_eq_true rfl) (by decide) (by decide) ?_
  refine Z.astore B dX11_says_50 (by decide) rfl (L' := [(0, .ref 0), (1, .int (nI s)), (2, .int (nI 0)), (3, .ref (2 + 2 * s)), (4, .ref q)]) rfl ?_
  refine Z.aload B dX11_says_52 (v := .ref q) rfl rfl ?_
  refine Z.ifnonnull_r B dX11_says_54 (tgt := 65) rfl ?_
  refine Z.aload_n B dX11_says_65 (v := .ref 0) rfl rfl ?_
  refine Z.aload B dX11_says_66 (v := .ref q) rfl rfl ?_
  refine Z.iload_n B dX11_says_68 (x := nI 0) rfl ?_
  refine Z.callVI (σ := σ) B (M' := mX11_saysAs) (as := [.ref q, .int (nI 0)]) (st := []) (v := .int (nI pa)) dX11_says_69 wX11_saysAs iX11_saysAs sX11_saysAs kX11_117 (hl.n (k := 0) (by decide)) (hl.k (k := 0) (by decide)) (by decide) rfl rfl (t_K_saysAs_5_0 (σ := σ) hl H ho hw) rfl rfl (by decide) (by decide) (Nat.le_of_ble_eq_true rfl) (by decide) (by decide) ?_
  refine Z.iret B Rt dX11_says_72 (ty := .int) rfl rfl (by decide) (by decide) ?_
  exact ⟨rfl, rfl⟩

theorem t_K_says_0_5_1 {σ : zSt} (hl : Lay σ) {n a y : Nat} (H : zHd σ n a y) {od : Nat → Nat} (ho : zOd σ a od) {s : Nat} (hs : s < 8) {i8 : Nat} (hh : zWa σ (2 + 2 * s) i8) {q pa num : Nat} (hi : i8 < y) (hq : zR σ 24 i8 = some q) (hw : zWo σ q 5 pa num) : Dt mX11_says [.ref 0, .int (nI s), .int (nI 1)] σ (some (.int (-nI 2))) (zuX σ 43 (upd (zX σ 43) 2 (zX σ 43 2 + nI 1))) := by
  have hqs := (hl.shelf hs).2
  obtain ⟨-, hn, hn8, ha, ha4, hy, hy8⟩ := id H
  refine Dt.of (by decide) (Nat.le_of_ble_eq_true rfl) fun κ B Rt => ?_
  show Z κ 0 0 σ 0 [(0, .ref 0), (1, .int (nI s)), (2, .int (nI 1))] []
  refine Z.aload_n B dX11_says_0 (v := .ref 0) rfl rfl ?_
  refine Z.iload_n B dX11_says_1 (x := nI s) rfl ?_
  refine Z.callVI (σ := σ) B (M' := mX11_shelfAt) (as := [.int (nI s)]) (st := []) (v := .ref (2 + 2 * s)) dX11_says_2 wX11_shelfAt iX11_shelfAt sX11_shelfAt kX11_59 (hl.n (k := 0) (by decide)) (hl.k (k := 0) (by decide)) (by decide) rfl rfl (t_X11_shelfAt_in (σ := σ) hl hs) rfl rfl (by decide) (by decide) (Nat.le_of_ble_eq_true rfl) (by decide) (by decide) ?_
  refine Z.astore_n B dX11_says_5 (by decide) rfl (L' := [(0, .ref 0), (1, .int (nI s)), (2, .int (nI 1)), (3, .ref (2 + 2 * s))]) rfl ?_
  refine Z.aload_n B dX11_says_6 (v := .ref (2 + 2 * s)) rfl rfl ?_
  refine Z.ifnull_r B dX11_says_7 ?_
  refine Z.iload_n B dX11_says_10 (x := nI 1) rfl ?_
  refine Z.if_ltN B dX11_says_11 (tgt := 20) rfl (by omega) ?_
  refine Z.iload_n B dX11_says_14 (x := nI 1) rfl ?_
  refine Z.bipush B dX11_says_15 (v := nI 6) rfl ?_
  refine Z.icmp_leN B dX11_says_17 (tgt := 26) rfl (by omega) (by omega) (fun h17 => ?_) (fun h17 => by exfalso; first | omega | contradiction | simp_all)
  refine Z.aload_n B dX11_says_26 (v := .ref (2 + 2 * s)) rfl rfl ?_
  refine Z.callVI (σ := σ) B (M' := mX6_holdsRow) (as := []) (st := []) (v := .int (nI 0)) dX11_says_27 wX6_holdsRow iX6_holdsRow sX6_holdsRow kX11_71 (Nat.lt_of_succ_lt hqs.1) hqs.2.1 (by decide) rfl rfl (t_X6_holdsRow_0 (σ := σ) hqs hh.1) rfl rfl (by decide) (by decide) (Nat.le_of_ble_eq_true rfl) (by decide) (by decide) ?_
  refine Z.if_eqN B dX11_says_30 (tgt := 39) rfl (by omega) (fun h30 => ?_) (fun h30 => by exfalso; first | omega | contradiction | simp_all)
  refine Z.aload_n B dX11_says_39 (v := .ref 0) rfl rfl ?_
  refine Z.getR (σ := σ) B fX11_28_11 dX11_says_40 (hl.n (k := 0) (by decide)) (hl.k (k := 0) (by decide)) (by decide) (j := 20) (hl.r (k := 0) (f := 2) (by decide) (by decide)) ?_
  refine Z.aload_n B dX11_says_43 (v := .ref (2 + 2 * s)) rfl rfl ?_
  refine Z.callVI (σ := σ) B (M' := mX6_wayHeld) (as := []) (st := [.ref 20]) (v := .int (zX σ (2 + 2 * s) 3)) dX11_says_44 wX6_wayHeld iX6_wayHeld sX6_wayHeld kX11_114 (Nat.lt_of_succ_lt hqs.1) hqs.2.1 (by decide) rfl rfl (t_X6_wayHeld (σ := σ) hqs) rfl rfl (by decide) (by decide) (Nat.le_of_ble_eq_true rfl) (by decide) (by decide) ?_
  rw [hh.2.2.1]
  refine Z.callVI (σ := σ) B (M' := mX1_wayAt) (as := [.int (nI i8)]) (st := []) (v := .ref q) dX11_says_47 wX1_wayAt iX1_wayAt sX1_wayAt kX11_102 (hl.n (k := 20) (by decide)) (hl.k (k := 20) (by decide)) (by decide) rfl rfl (t_X1_wayAt_in (σ := σ) H hi hq) rfl rfl (by decide) (by decide) (Nat.le_of_ble_eq_true rfl) (by decide) (by decide) ?_
  refine Z.astore B dX11_says_50 (by decide) rfl (L' := [(0, .ref 0), (1, .int (nI s)), (2, .int (nI 1)), (3, .ref (2 + 2 * s)), (4, .ref q)]) rfl ?_
  refine Z.aload B dX11_says_52 (v := .ref q) rfl rfl ?_
  refine Z.ifnonnull_r B dX11_says_54 (tgt := 65) rfl ?_
  refine Z.aload_n B dX11_says_65 (v := .ref 0) rfl rfl ?_
  refine Z.aload B dX11_says_66 (v := .ref q) rfl rfl ?_
  refine Z.iload_n B dX11_says_68 (x := nI 1) rfl ?_
  refine Z.callVI (σ := σ) B (M' := mX11_saysAs) (as := [.ref q, .int (nI 1)]) (st := []) (v := .int (-nI 2)) dX11_says_69 wX11_saysAs iX11_saysAs sX11_saysAs kX11_117 (hl.n (k := 0) (by decide)) (hl.k (k := 0) (by decide)) (by decide) rfl rfl (t_K_saysAs_5_1 (σ := σ) hl H ho hw) rfl rfl (by decide) (by decide) (Nat.le_of_ble_eq_true rfl) (by decide) (by decide) ?_
  refine Z.eqσ (τ := (zuX σ 43 (upd (zX σ 43) 2 (zX σ 43 2 + nI 1)))) rfl ?_
  refine Z.iret B Rt dX11_says_72 (ty := .int) rfl rfl (by decide) (by decide) ?_
  exact ⟨rfl, rfl⟩

theorem t_K_says_0_5_2 {σ : zSt} (hl : Lay σ) {n a y : Nat} (H : zHd σ n a y) {od : Nat → Nat} (ho : zOd σ a od) {s : Nat} (hs : s < 8) {i8 : Nat} (hh : zWa σ (2 + 2 * s) i8) {q pa num : Nat} (hi : i8 < y) (hq : zR σ 24 i8 = some q) (hw : zWo σ q 5 pa num) : Dt mX11_says [.ref 0, .int (nI s), .int (nI 2)] σ (some (.int (-nI 2))) (zuX σ 43 (upd (zX σ 43) 2 (zX σ 43 2 + nI 1))) := by
  have hqs := (hl.shelf hs).2
  obtain ⟨-, hn, hn8, ha, ha4, hy, hy8⟩ := id H
  refine Dt.of (by decide) (Nat.le_of_ble_eq_true rfl) fun κ B Rt => ?_
  show Z κ 0 0 σ 0 [(0, .ref 0), (1, .int (nI s)), (2, .int (nI 2))] []
  refine Z.aload_n B dX11_says_0 (v := .ref 0) rfl rfl ?_
  refine Z.iload_n B dX11_says_1 (x := nI s) rfl ?_
  refine Z.callVI (σ := σ) B (M' := mX11_shelfAt) (as := [.int (nI s)]) (st := []) (v := .ref (2 + 2 * s)) dX11_says_2 wX11_shelfAt iX11_shelfAt sX11_shelfAt kX11_59 (hl.n (k := 0) (by decide)) (hl.k (k := 0) (by decide)) (by decide) rfl rfl (t_X11_shelfAt_in (σ := σ) hl hs) rfl rfl (by decide) (by decide) (Nat.le_of_ble_eq_true rfl) (by decide) (by decide) ?_
  refine Z.astore_n B dX11_says_5 (by decide) rfl (L' := [(0, .ref 0), (1, .int (nI s)), (2, .int (nI 2)), (3, .ref (2 + 2 * s))]) rfl ?_
  refine Z.aload_n B dX11_says_6 (v := .ref (2 + 2 * s)) rfl rfl ?_
  refine Z.ifnull_r B dX11_says_7 ?_
  refine Z.iload_n B dX11_says_10 (x := nI 2) rfl ?_
  refine Z.if_ltN B dX11_says_11 (tgt := 20) rfl (by omega) ?_
  refine Z.iload_n B dX11_says_14 (x := nI 2) rfl ?_
  refine Z.bipush B dX11_says_15 (v := nI 6) rfl ?_
  refine Z.icmp_leN B dX11_says_17 (tgt := 26) rfl (by omega) (by omega) (fun h17 => ?_) (fun h17 => by exfalso; first | omega | contradiction | simp_all)
  refine Z.aload_n B dX11_says_26 (v := .ref (2 + 2 * s)) rfl rfl ?_
  refine Z.callVI (σ := σ) B (M' := mX6_holdsRow) (as := []) (st := []) (v := .int (nI 0)) dX11_says_27 wX6_holdsRow iX6_holdsRow sX6_holdsRow kX11_71 (Nat.lt_of_succ_lt hqs.1) hqs.2.1 (by decide) rfl rfl (t_X6_holdsRow_0 (σ := σ) hqs hh.1) rfl rfl (by decide) (by decide) (Nat.le_of_ble_eq_true rfl) (by decide) (by decide) ?_
  refine Z.if_eqN B dX11_says_30 (tgt := 39) rfl (by omega) (fun h30 => ?_) (fun h30 => by exfalso; first | omega | contradiction | simp_all)
  refine Z.aload_n B dX11_says_39 (v := .ref 0) rfl rfl ?_
  refine Z.getR (σ := σ) B fX11_28_11 dX11_says_40 (hl.n (k := 0) (by decide)) (hl.k (k := 0) (by decide)) (by decide) (j := 20) (hl.r (k := 0) (f := 2) (by decide) (by decide)) ?_
  refine Z.aload_n B dX11_says_43 (v := .ref (2 + 2 * s)) rfl rfl ?_
  refine Z.callVI (σ := σ) B (M' := mX6_wayHeld) (as := []) (st := [.ref 20]) (v := .int (zX σ (2 + 2 * s) 3)) dX11_says_44 wX6_wayHeld iX6_wayHeld sX6_wayHeld kX11_114 (Nat.lt_of_succ_lt hqs.1) hqs.2.1 (by decide) rfl rfl (t_X6_wayHeld (σ := σ) hqs) rfl rfl (by decide) (by decide) (Nat.le_of_ble_eq_true rfl) (by decide) (by decide) ?_
  rw [hh.2.2.1]
  refine Z.callVI (σ := σ) B (M' := mX1_wayAt) (as := [.int (nI i8)]) (st := []) (v := .ref q) dX11_says_47 wX1_wayAt iX1_wayAt sX1_wayAt kX11_102 (hl.n (k := 20) (by decide)) (hl.k (k := 20) (by decide)) (by decide) rfl rfl (t_X1_wayAt_in (σ := σ) H hi hq) rfl rfl (by decide) (by decide) (Nat.le_of_ble_eq_true rfl) (by decide) (by decide) ?_
  refine Z.astore B dX11_says_50 (by decide) rfl (L' := [(0, .ref 0), (1, .int (nI s)), (2, .int (nI 2)), (3, .ref (2 + 2 * s)), (4, .ref q)]) rfl ?_
  refine Z.aload B dX11_says_52 (v := .ref q) rfl rfl ?_
  refine Z.ifnonnull_r B dX11_says_54 (tgt := 65) rfl ?_
  refine Z.aload_n B dX11_says_65 (v := .ref 0) rfl rfl ?_
  refine Z.aload B dX11_says_66 (v := .ref q) rfl rfl ?_
  refine Z.iload_n B dX11_says_68 (x := nI 2) rfl ?_
  refine Z.callVI (σ := σ) B (M' := mX11_saysAs) (as := [.ref q, .int (nI 2)]) (st := []) (v := .int (-nI 2)) dX11_says_69 wX11_saysAs iX11_saysAs sX11_saysAs kX11_117 (hl.n (k := 0) (by decide)) (hl.k (k := 0) (by decide)) (by decide) rfl rfl (t_K_saysAs_5_2 (σ := σ) hl H ho hw) rfl rfl (by decide) (by decide) (Nat.le_of_ble_eq_true rfl) (by decide) (by decide) ?_
  refine Z.eqσ (τ := (zuX σ 43 (upd (zX σ 43) 2 (zX σ 43 2 + nI 1)))) rfl ?_
  refine Z.iret B Rt dX11_says_72 (ty := .int) rfl rfl (by decide) (by decide) ?_
  exact ⟨rfl, rfl⟩

theorem t_K_says_0_5_3 {σ : zSt} (hl : Lay σ) {n a y : Nat} (H : zHd σ n a y) {od : Nat → Nat} (ho : zOd σ a od) {s : Nat} (hs : s < 8) {i8 : Nat} (hh : zWa σ (2 + 2 * s) i8) {q pa num : Nat} (hi : i8 < y) (hq : zR σ 24 i8 = some q) (hw : zWo σ q 5 pa num) : Dt mX11_says [.ref 0, .int (nI s), .int (nI 3)] σ (some (.int (-nI 2))) (zuX σ 43 (upd (zX σ 43) 2 (zX σ 43 2 + nI 1))) := by
  have hqs := (hl.shelf hs).2
  obtain ⟨-, hn, hn8, ha, ha4, hy, hy8⟩ := id H
  refine Dt.of (by decide) (Nat.le_of_ble_eq_true rfl) fun κ B Rt => ?_
  show Z κ 0 0 σ 0 [(0, .ref 0), (1, .int (nI s)), (2, .int (nI 3))] []
  refine Z.aload_n B dX11_says_0 (v := .ref 0) rfl rfl ?_
  refine Z.iload_n B dX11_says_1 (x := nI s) rfl ?_
  refine Z.callVI (σ := σ) B (M' := mX11_shelfAt) (as := [.int (nI s)]) (st := []) (v := .ref (2 + 2 * s)) dX11_says_2 wX11_shelfAt iX11_shelfAt sX11_shelfAt kX11_59 (hl.n (k := 0) (by decide)) (hl.k (k := 0) (by decide)) (by decide) rfl rfl (t_X11_shelfAt_in (σ := σ) hl hs) rfl rfl (by decide) (by decide) (Nat.le_of_ble_eq_true rfl) (by decide) (by decide) ?_
  refine Z.astore_n B dX11_says_5 (by decide) rfl (L' := [(0, .ref 0), (1, .int (nI s)), (2, .int (nI 3)), (3, .ref (2 + 2 * s))]) rfl ?_
  refine Z.aload_n B dX11_says_6 (v := .ref (2 + 2 * s)) rfl rfl ?_
  refine Z.ifnull_r B dX11_says_7 ?_
  refine Z.iload_n B dX11_says_10 (x := nI 3) rfl ?_
  refine Z.if_ltN B dX11_says_11 (tgt := 20) rfl (by omega) ?_
  refine Z.iload_n B dX11_says_14 (x := nI 3) rfl ?_
  refine Z.bipush B dX11_says_15 (v := nI 6) rfl ?_
  refine Z.icmp_leN B dX11_says_17 (tgt := 26) rfl (by omega) (by omega) (fun h17 => ?_) (fun h17 => by exfalso; first | omega | contradiction | simp_all)
  refine Z.aload_n B dX11_says_26 (v := .ref (2 + 2 * s)) rfl rfl ?_
  refine Z.callVI (σ := σ) B (M' := mX6_holdsRow) (as := []) (st := []) (v := .int (nI 0)) dX11_says_27 wX6_holdsRow iX6_holdsRow sX6_holdsRow kX11_71 (Nat.lt_of_succ_lt hqs.1) hqs.2.1 (by decide) rfl rfl (t_X6_holdsRow_0 (σ := σ) hqs hh.1) rfl rfl (by decide) (by decide) (Nat.le_of_ble_eq_true rfl) (by decide) (by decide) ?_
  refine Z.if_eqN B dX11_says_30 (tgt := 39) rfl (by omega) (fun h30 => ?_) (fun h30 => by exfalso; first | omega | contradiction | simp_all)
  refine Z.aload_n B dX11_says_39 (v := .ref 0) rfl rfl ?_
  refine Z.getR (σ := σ) B fX11_28_11 dX11_says_40 (hl.n (k := 0) (by decide)) (hl.k (k := 0) (by decide)) (by decide) (j := 20) (hl.r (k := 0) (f := 2) (by decide) (by decide)) ?_
  refine Z.aload_n B dX11_says_43 (v := .ref (2 + 2 * s)) rfl rfl ?_
  refine Z.callVI (σ := σ) B (M' := mX6_wayHeld) (as := []) (st := [.ref 20]) (v := .int (zX σ (2 + 2 * s) 3)) dX11_says_44 wX6_wayHeld iX6_wayHeld sX6_wayHeld kX11_114 (Nat.lt_of_succ_lt hqs.1) hqs.2.1 (by decide) rfl rfl (t_X6_wayHeld (σ := σ) hqs) rfl rfl (by decide) (by decide) (Nat.le_of_ble_eq_true rfl) (by decide) (by decide) ?_
  rw [hh.2.2.1]
  refine Z.callVI (σ := σ) B (M' := mX1_wayAt) (as := [.int (nI i8)]) (st := []) (v := .ref q) dX11_says_47 wX1_wayAt iX1_wayAt sX1_wayAt kX11_102 (hl.n (k := 20) (by decide)) (hl.k (k := 20) (by decide)) (by decide) rfl rfl (t_X1_wayAt_in (σ := σ) H hi hq) rfl rfl (by decide) (by decide) (Nat.le_of_ble_eq_true rfl) (by decide) (by decide) ?_
  refine Z.astore B dX11_says_50 (by decide) rfl (L' := [(0, .ref 0), (1, .int (nI s)), (2, .int (nI 3)), (3, .ref (2 + 2 * s)), (4, .ref q)]) rfl ?_
  refine Z.aload B dX11_says_52 (v := .ref q) rfl rfl ?_
  refine Z.ifnonnull_r B dX11_says_54 (tgt := 65) rfl ?_
  refine Z.aload_n B dX11_says_65 (v := .ref 0) rfl rfl ?_
  refine Z.aload B dX11_says_66 (v := .ref q) rfl rfl ?_
  refine Z.iload_n B dX11_says_68 (x := nI 3) rfl ?_
  refine Z.callVI (σ := σ) B (M' := mX11_saysAs) (as := [.ref q, .int (nI 3)]) (st := []) (v := .int (-nI 2)) dX11_says_69 wX11_saysAs iX11_saysAs sX11_saysAs kX11_117 (hl.n (k := 0) (by decide)) (hl.k (k := 0) (by decide)) (by decide) rfl rfl (t_K_saysAs_5_3 (σ := σ) hl H ho hw) rfl rfl (by decide) (by decide) (Nat.le_of_ble_eq_true rfl) (by decide) (by decide) ?_
  refine Z.eqσ (τ := (zuX σ 43 (upd (zX σ 43) 2 (zX σ 43 2 + nI 1)))) rfl ?_
  refine Z.iret B Rt dX11_says_72 (ty := .int) rfl rfl (by decide) (by decide) ?_
  exact ⟨rfl, rfl⟩

theorem t_K_says_0_5_4 {σ : zSt} (hl : Lay σ) {n a y : Nat} (H : zHd σ n a y) {od : Nat → Nat} (ho : zOd σ a od) {s : Nat} (hs : s < 8) {i8 : Nat} (hh : zWa σ (2 + 2 * s) i8) {q pa num : Nat} (hi : i8 < y) (hq : zR σ 24 i8 = some q) (hw : zWo σ q 5 pa num) : Dt mX11_says [.ref 0, .int (nI s), .int (nI 4)] σ (some (.int (-nI 2))) (zuX σ 43 (upd (zX σ 43) 2 (zX σ 43 2 + nI 1))) := by
  have hqs := (hl.shelf hs).2
  obtain ⟨-, hn, hn8, ha, ha4, hy, hy8⟩ := id H
  refine Dt.of (by decide) (Nat.le_of_ble_eq_true rfl) fun κ B Rt => ?_
  show Z κ 0 0 σ 0 [(0, .ref 0), (1, .int (nI s)), (2, .int (nI 4))] []
  refine Z.aload_n B dX11_says_0 (v := .ref 0) rfl rfl ?_
  refine Z.iload_n B dX11_says_1 (x := nI s) rfl ?_
  refine Z.callVI (σ := σ) B (M' := mX11_shelfAt) (as := [.int (nI s)]) (st := []) (v := .ref (2 + 2 * s)) dX11_says_2 wX11_shelfAt iX11_shelfAt sX11_shelfAt kX11_59 (hl.n (k := 0) (by decide)) (hl.k (k := 0) (by decide)) (by decide) rfl rfl (t_X11_shelfAt_in (σ := σ) hl hs) rfl rfl (by decide) (by decide) (Nat.le_of_ble_eq_true rfl) (by decide) (by decide) ?_
  refine Z.astore_n B dX11_says_5 (by decide) rfl (L' := [(0, .ref 0), (1, .int (nI s)), (2, .int (nI 4)), (3, .ref (2 + 2 * s))]) rfl ?_
  refine Z.aload_n B dX11_says_6 (v := .ref (2 + 2 * s)) rfl rfl ?_
  refine Z.ifnull_r B dX11_says_7 ?_
  refine Z.iload_n B dX11_says_10 (x := nI 4) rfl ?_
  refine Z.if_ltN B dX11_says_11 (tgt := 20) rfl (by omega) ?_
  refine Z.iload_n B dX11_says_14 (x := nI 4) rfl ?_
  refine Z.bipush B dX11_says_15 (v := nI 6) rfl ?_
  refine Z.icmp_leN B dX11_says_17 (tgt := 26) rfl (by omega) (by omega) (fun h17 => ?_) (fun h17 => by exfalso; first | omega | contradiction | simp_all)
  refine Z.aload_n B dX11_says_26 (v := .ref (2 + 2 * s)) rfl rfl ?_
  refine Z.callVI (σ := σ) B (M' := mX6_holdsRow) (as := []) (st := []) (v := .int (nI 0)) dX11_says_27 wX6_holdsRow iX6_holdsRow sX6_holdsRow kX11_71 (Nat.lt_of_succ_lt hqs.1) hqs.2.1 (by decide) rfl rfl (t_X6_holdsRow_0 (σ := σ) hqs hh.1) rfl rfl (by decide) (by decide) (Nat.le_of_ble_eq_true rfl) (by decide) (by decide) ?_
  refine Z.if_eqN B dX11_says_30 (tgt := 39) rfl (by omega) (fun h30 => ?_) (fun h30 => by exfalso; first | omega | contradiction | simp_all)
  refine Z.aload_n B dX11_says_39 (v := .ref 0) rfl rfl ?_
  refine Z.getR (σ := σ) B fX11_28_11 dX11_says_40 (hl.n (k := 0) (by decide)) (hl.k (k := 0) (by decide)) (by decide) (j := 20) (hl.r (k := 0) (f := 2) (by decide) (by decide)) ?_
  refine Z.aload_n B dX11_says_43 (v := .ref (2 + 2 * s)) rfl rfl ?_
  refine Z.callVI (σ := σ) B (M' := mX6_wayHeld) (as := []) (st := [.ref 20]) (v := .int (zX σ (2 + 2 * s) 3)) dX11_says_44 wX6_wayHeld iX6_wayHeld sX6_wayHeld kX11_114 (Nat.lt_of_succ_lt hqs.1) hqs.2.1 (by decide) rfl rfl (t_X6_wayHeld (σ := σ) hqs) rfl rfl (by decide) (by decide) (Nat.le_of_ble_eq_true rfl) (by decide) (by decide) ?_
  rw [hh.2.2.1]
  refine Z.callVI (σ := σ) B (M' := mX1_wayAt) (as := [.int (nI i8)]) (st := []) (v := .ref q) dX11_says_47 wX1_wayAt iX1_wayAt sX1_wayAt kX11_102 (hl.n (k := 20) (by decide)) (hl.k (k := 20) (by decide)) (by decide) rfl rfl (t_X1_wayAt_in (σ := σ) H hi hq) rfl rfl (by decide) (by decide) (Nat.le_of_ble_eq_true rfl) (by decide) (by decide) ?_
  refine Z.astore B dX11_says_50 (by decide) rfl (L' := [(0, .ref 0), (1, .int (nI s)), (2, .int (nI 4)), (3, .ref (2 + 2 * s)), (4, .ref q)]) rfl ?_
  refine Z.aload B dX11_says_52 (v := .ref q) rfl rfl ?_
  refine Z.ifnonnull_r B dX11_says_54 (tgt := 65) rfl ?_
  refine Z.aload_n B dX11_says_65 (v := .ref 0) rfl rfl ?_
  refine Z.aload B dX11_says_66 (v := .ref q) rfl rfl ?_
  refine Z.iload_n B dX11_says_68 (x := nI 4) rfl ?_
  refine Z.callVI (σ := σ) B (M' := mX11_saysAs) (as := [.ref q, .int (nI 4)]) (st := []) (v := .int (-nI 2)) dX11_says_69 wX11_saysAs iX11_saysAs sX11_saysAs kX11_117 (hl.n (k := 0) (by decide)) (hl.k (k := 0) (by decide)) (by decide) rfl rfl (t_K_saysAs_5_4 (σ := σ) hl H ho hw) rfl rfl (by decide) (by decide) (Nat.le_of_ble_eq_true rfl) (by decide) (by decide) ?_
  refine Z.eqσ (τ := (zuX σ 43 (upd (zX σ 43) 2 (zX σ 43 2 + nI 1)))) rfl ?_
  refine Z.iret B Rt dX11_says_72 (ty := .int) rfl rfl (by decide) (by decide) ?_
  exact ⟨rfl, rfl⟩

theorem t_K_says_0_5_5 {σ : zSt} (hl : Lay σ) {n a y : Nat} (H : zHd σ n a y) {od : Nat → Nat} (ho : zOd σ a od) {s : Nat} (hs : s < 8) {i8 : Nat} (hh : zWa σ (2 + 2 * s) i8) {q pa num : Nat} (hi : i8 < y) (hq : zR σ 24 i8 = some q) (hw : zWo σ q 5 pa num) : Dt mX11_says [.ref 0, .int (nI s), .int (nI 5)] σ (some (.int (gI (fun c => cn (zX σ 21) c 5) n))) (zuX σ 25 (fi n (fun c => cn (zX σ 21) c 5) (zX σ 25))) := by
  have hqs := (hl.shelf hs).2
  obtain ⟨-, hn, hn8, ha, ha4, hy, hy8⟩ := id H
  refine Dt.of (by decide) (Nat.le_of_ble_eq_true rfl) fun κ B Rt => ?_
  show Z κ 0 0 σ 0 [(0, .ref 0), (1, .int (nI s)), (2, .int (nI 5))] []
  refine Z.aload_n B dX11_says_0 (v := .ref 0) rfl rfl ?_
  refine Z.iload_n B dX11_says_1 (x := nI s) rfl ?_
  refine Z.callVI (σ := σ) B (M' := mX11_shelfAt) (as := [.int (nI s)]) (st := []) (v := .ref (2 + 2 * s)) dX11_says_2 wX11_shelfAt iX11_shelfAt sX11_shelfAt kX11_59 (hl.n (k := 0) (by decide)) (hl.k (k := 0) (by decide)) (by decide) rfl rfl (t_X11_shelfAt_in (σ := σ) hl hs) rfl rfl (by decide) (by decide) (Nat.le_of_ble_eq_true rfl) (by decide) (by decide) ?_
  refine Z.astore_n B dX11_says_5 (by decide) rfl (L' := [(0, .ref 0), (1, .int (nI s)), (2, .int (nI 5)), (3, .ref (2 + 2 * s))]) rfl ?_
  refine Z.aload_n B dX11_says_6 (v := .ref (2 + 2 * s)) rfl rfl ?_
  refine Z.ifnull_r B dX11_says_7 ?_
  refine Z.iload_n B dX11_says_10 (x := nI 5) rfl ?_
  refine Z.if_ltN B dX11_says_11 (tgt := 20) rfl (by omega) ?_
  refine Z.iload_n B dX11_says_14 (x := nI 5) rfl ?_
  refine Z.bipush B dX11_says_15 (v := nI 6) rfl ?_
  refine Z.icmp_leN B dX11_says_17 (tgt := 26) rfl (by omega) (by omega) (fun h17 => ?_) (fun h17 => by exfalso; first | omega | contradiction | simp_all)
  refine Z.aload_n B dX11_says_26 (v := .ref (2 + 2 * s)) rfl rfl ?_
  refine Z.callVI (σ := σ) B (M' := mX6_holdsRow) (as := []) (st := []) (v := .int (nI 0)) dX11_says_27 wX6_holdsRow iX6_holdsRow sX6_holdsRow kX11_71 (Nat.lt_of_succ_lt hqs.1) hqs.2.1 (by decide) rfl rfl (t_X6_holdsRow_0 (σ := σ) hqs hh.1) rfl rfl (by decide) (by decide) (Nat.le_of_ble_eq_true rfl) (by decide) (by decide) ?_
  refine Z.if_eqN B dX11_says_30 (tgt := 39) rfl (by omega) (fun h30 => ?_) (fun h30 => by exfalso; first | omega | contradiction | simp_all)
  refine Z.aload_n B dX11_says_39 (v := .ref 0) rfl rfl ?_
  refine Z.getR (σ := σ) B fX11_28_11 dX11_says_40 (hl.n (k := 0) (by decide)) (hl.k (k := 0) (by decide)) (by decide) (j := 20) (hl.r (k := 0) (f := 2) (by decide) (by decide)) ?_
  refine Z.aload_n B dX11_says_43 (v := .ref (2 + 2 * s)) rfl rfl ?_
  refine Z.callVI (σ := σ) B (M' := mX6_wayHeld) (as := []) (st := [.ref 20]) (v := .int (zX σ (2 + 2 * s) 3)) dX11_says_44 wX6_wayHeld iX6_wayHeld sX6_wayHeld kX11_114 (Nat.lt_of_succ_lt hqs.1) hqs.2.1 (by decide) rfl rfl (t_X6_wayHeld (σ := σ) hqs) rfl rfl (by decide) (by decide) (Nat.le_of_ble_eq_true rfl) (by decide) (by decide) ?_
  rw [hh.2.2.1]
  refine Z.callVI (σ := σ) B (M' := mX1_wayAt) (as := [.int (nI i8)]) (st := []) (v := .ref q) dX11_says_47 wX1_wayAt iX1_wayAt sX1_wayAt kX11_102 (hl.n (k := 20) (by decide)) (hl.k (k := 20) (by decide)) (by decide) rfl rfl (t_X1_wayAt_in (σ := σ) H hi hq) rfl rfl (by decide) (by decide) (Nat.le_of_ble_eq_true rfl) (by decide) (by decide) ?_
  refine Z.astore B dX11_says_50 (by decide) rfl (L' := [(0, .ref 0), (1, .int (nI s)), (2, .int (nI 5)), (3, .ref (2 + 2 * s)), (4, .ref q)]) rfl ?_
  refine Z.aload B dX11_says_52 (v := .ref q) rfl rfl ?_
  refine Z.ifnonnull_r B dX11_says_54 (tgt := 65) rfl ?_
  refine Z.aload_n B dX11_says_65 (v := .ref 0) rfl rfl ?_
  refine Z.aload B dX11_says_66 (v := .ref q) rfl rfl ?_
  refine Z.iload_n B dX11_says_68 (x := nI 5) rfl ?_
  refine Z.callVI (σ := σ) B (M' := mX11_saysAs) (as := [.ref q, .int (nI 5)]) (st := []) (v := .int (gI (fun c => cn (zX σ 21) c 5) n)) dX11_says_69 wX11_saysAs iX11_saysAs sX11_saysAs kX11_117 (hl.n (k := 0) (by decide)) (hl.k (k := 0) (by decide)) (by decide) rfl rfl (t_K_saysAs_5_5 (σ := σ) hl H ho hw) rfl rfl (by decide) (by decide) (Nat.le_of_ble_eq_true rfl) (by decide) (by decide) ?_
  refine Z.eqσ (τ := (zuX σ 25 (fi n (fun c => cn (zX σ 21) c 5) (zX σ 25)))) rfl ?_
  refine Z.iret B Rt dX11_says_72 (ty := .int) rfl rfl (by decide) (by decide) ?_
  exact ⟨rfl, rfl⟩

theorem t_K_says_0_5_6 {σ : zSt} (hl : Lay σ) {n a y : Nat} (H : zHd σ n a y) {od : Nat → Nat} (ho : zOd σ a od) {s : Nat} (hs : s < 8) {i8 : Nat} (hh : zWa σ (2 + 2 * s) i8) {q pa num : Nat} (hi : i8 < y) (hq : zR σ 24 i8 = some q) (hw : zWo σ q 5 pa num) : Dt mX11_says [.ref 0, .int (nI s), .int (nI 6)] σ (some (.int (-nI 2))) (zuX σ 43 (upd (zX σ 43) 2 (zX σ 43 2 + nI 1))) := by
  have hqs := (hl.shelf hs).2
  obtain ⟨-, hn, hn8, ha, ha4, hy, hy8⟩ := id H
  refine Dt.of (by decide) (Nat.le_of_ble_eq_true rfl) fun κ B Rt => ?_
  show Z κ 0 0 σ 0 [(0, .ref 0), (1, .int (nI s)), (2, .int (nI 6))] []
  refine Z.aload_n B dX11_says_0 (v := .ref 0) rfl rfl ?_
  refine Z.iload_n B dX11_says_1 (x := nI s) rfl ?_
  refine Z.callVI (σ := σ) B (M' := mX11_shelfAt) (as := [.int (nI s)]) (st := []) (v := .ref (2 + 2 * s)) dX11_says_2 wX11_shelfAt iX11_shelfAt sX11_shelfAt kX11_59 (hl.n (k := 0) (by decide)) (hl.k (k := 0) (by decide)) (by decide) rfl rfl (t_X11_shelfAt_in (σ := σ) hl hs) rfl rfl (by decide) (by decide) (Nat.le_of_ble_eq_true rfl) (by decide) (by decide) ?_
  refine Z.astore_n B dX11_says_5 (by decide) rfl (L' := [(0, .ref 0), (1, .int (nI s)), (2, .int (nI 6)), (3, .ref (2 + 2 * s))]) rfl ?_
  refine Z.aload_n B dX11_says_6 (v := .ref (2 + 2 * s)) rfl rfl ?_
  refine Z.ifnull_r B dX11_says_7 ?_
  refine Z.iload_n B dX11_says_10 (x := nI 6) rfl ?_
  refine Z.if_ltN B dX11_says_11 (tgt := 20) rfl (by omega) ?_
  refine Z.iload_n B dX11_says_14 (x := nI 6) rfl ?_
  refine Z.bipush B dX11_says_15 (v := nI 6) rfl ?_
  refine Z.icmp_leN B dX11_says_17 (tgt := 26) rfl (by omega) (by omega) (fun h17 => ?_) (fun h17 => by exfalso; first | omega | contradiction | simp_all)
  refine Z.aload_n B dX11_says_26 (v := .ref (2 + 2 * s)) rfl rfl ?_
  refine Z.callVI (σ := σ) B (M' := mX6_holdsRow) (as := []) (st := []) (v := .int (nI 0)) dX11_says_27 wX6_holdsRow iX6_holdsRow sX6_holdsRow kX11_71 (Nat.lt_of_succ_lt hqs.1) hqs.2.1 (by decide) rfl rfl (t_X6_holdsRow_0 (σ := σ) hqs hh.1) rfl rfl (by decide) (by decide) (Nat.le_of_ble_eq_true rfl) (by decide) (by decide) ?_
  refine Z.if_eqN B dX11_says_30 (tgt := 39) rfl (by omega) (fun h30 => ?_) (fun h30 => by exfalso; first | omega | contradiction | simp_all)
  refine Z.aload_n B dX11_says_39 (v := .ref 0) rfl rfl ?_
  refine Z.getR (σ := σ) B fX11_28_11 dX11_says_40 (hl.n (k := 0) (by decide)) (hl.k (k := 0) (by decide)) (by decide) (j := 20) (hl.r (k := 0) (f := 2) (by decide) (by decide)) ?_
  refine Z.aload_n B dX11_says_43 (v := .ref (2 + 2 * s)) rfl rfl ?_
  refine Z.callVI (σ := σ) B (M' := mX6_wayHeld) (as := []) (st := [.ref 20]) (v := .int (zX σ (2 + 2 * s) 3)) dX11_says_44 wX6_wayHeld iX6_wayHeld sX6_wayHeld kX11_114 (Nat.lt_of_succ_lt hqs.1) hqs.2.1 (by decide) rfl rfl (t_X6_wayHeld (σ := σ) hqs) rfl rfl (by decide) (by decide) (Nat.le_of_ble_eq_true rfl) (by decide) (by decide) ?_
  rw [hh.2.2.1]
  refine Z.callVI (σ := σ) B (M' := mX1_wayAt) (as := [.int (nI i8)]) (st := []) (v := .ref q) dX11_says_47 wX1_wayAt iX1_wayAt sX1_wayAt kX11_102 (hl.n (k := 20) (by decide)) (hl.k (k := 20) (by decide)) (by decide) rfl rfl (t_X1_wayAt_in (σ := σ) H hi hq) rfl rfl (by decide) (by decide) (Nat.le_of_ble_eq_true rfl) (by decide) (by decide) ?_
  refine Z.astore B dX11_says_50 (by decide) rfl (L' := [(0, .ref 0), (1, .int (nI s)), (2, .int (nI 6)), (3, .ref (2 + 2 * s)), (4, .ref q)]) rfl ?_
  refine Z.aload B dX11_says_52 (v := .ref q) rfl rfl ?_
  refine Z.ifnonnull_r B dX11_says_54 (tgt := 65) rfl ?_
  refine Z.aload_n B dX11_says_65 (v := .ref 0) rfl rfl ?_
  refine Z.aload B dX11_says_66 (v := .ref q) rfl rfl ?_
  refine Z.iload_n B dX11_says_68 (x := nI 6) rfl ?_
  refine Z.callVI (σ := σ) B (M' := mX11_saysAs) (as := [.ref q, .int (nI 6)]) (st := []) (v := .int (-nI 2)) dX11_says_69 wX11_saysAs iX11_saysAs sX11_saysAs kX11_117 (hl.n (k := 0) (by decide)) (hl.k (k := 0) (by decide)) (by decide) rfl rfl (t_K_saysAs_5_6 (σ := σ) hl H ho hw) rfl rfl (by decide) (by decide) (Nat.le_of_ble_eq_true rfl) (by decide) (by decide) ?_
  refine Z.eqσ (τ := (zuX σ 43 (upd (zX σ 43) 2 (zX σ 43 2 + nI 1)))) rfl ?_
  refine Z.iret B Rt dX11_says_72 (ty := .int) rfl rfl (by decide) (by decide) ?_
  exact ⟨rfl, rfl⟩

theorem t_K_says_0_6_0 {σ : zSt} (hl : Lay σ) {n a y : Nat} (H : zHd σ n a y) {od : Nat → Nat} (ho : zOd σ a od) {s : Nat} (hs : s < 8) {i8 : Nat} (hh : zWa σ (2 + 2 * s) i8) {q pa num : Nat} (hi : i8 < y) (hq : zR σ 24 i8 = some q) (hw : zWo σ q 6 pa num) : Dt mX11_says [.ref 0, .int (nI s), .int (nI 0)] σ (some (.int (nI pa))) σ := by
  have hqs := (hl.shelf hs).2
  obtain ⟨-, hn, hn8, ha, ha4, hy, hy8⟩ := id H
  refine Dt.of (by decide) (Nat.le_of_ble_eq_true rfl) fun κ B Rt => ?_
  show Z κ 0 0 σ 0 [(0, .ref 0), (1, .int (nI s)), (2, .int (nI 0))] []
  refine Z.aload_n B dX11_says_0 (v := .ref 0) rfl rfl ?_
  refine Z.iload_n B dX11_says_1 (x := nI s) rfl ?_
  refine Z.callVI (σ := σ) B (M' := mX11_shelfAt) (as := [.int (nI s)]) (st := []) (v := .ref (2 + 2 * s)) dX11_says_2 wX11_shelfAt iX11_shelfAt sX11_shelfAt kX11_59 (hl.n (k := 0) (by decide)) (hl.k (k := 0) (by decide)) (by decide) rfl rfl (t_X11_shelfAt_in (σ := σ) hl hs) rfl rfl (by decide) (by decide) (Nat.le_of_ble_eq_true rfl) (by decide) (by decide) ?_
  refine Z.astore_n B dX11_says_5 (by decide) rfl (L' := [(0, .ref 0), (1, .int (nI s)), (2, .int (nI 0)), (3, .ref (2 + 2 * s))]) rfl ?_
  refine Z.aload_n B dX11_says_6 (v := .ref (2 + 2 * s)) rfl rfl ?_
  refine Z.ifnull_r B dX11_says_7 ?_
  refine Z.iload_n B dX11_says_10 (x := nI 0) rfl ?_
  refine Z.if_ltN B dX11_says_11 (tgt := 20) rfl (by omega) ?_
  refine Z.iload_n B dX11_says_14 (x := nI 0) rfl ?_
  refine Z.bipush B dX11_says_15 (v := nI 6) rfl ?_
  refine Z.icmp_leN B dX11_says_17 (tgt := 26) rfl (by omega) (by omega) (fun h17 => ?_) (fun h17 => by exfalso; first | omega | contradiction | simp_all)
  refine Z.aload_n B dX11_says_26 (v := .ref (2 + 2 * s)) rfl rfl ?_
  refine Z.callVI (σ := σ) B (M' := mX6_holdsRow) (as := []) (st := []) (v := .int (nI 0)) dX11_says_27 wX6_holdsRow iX6_holdsRow sX6_holdsRow kX11_71 (Nat.lt_of_succ_lt hqs.1) hqs.2.1 (by decide) rfl rfl (t_X6_holdsRow_0 (σ := σ) hqs hh.1) rfl rfl (by decide) (by decide) (Nat.le_of_ble_eq_true rfl) (by decide) (by decide) ?_
  refine Z.if_eqN B dX11_says_30 (tgt := 39) rfl (by omega) (fun h30 => ?_) (fun h30 => by exfalso; first | omega | contradiction | simp_all)
  refine Z.aload_n B dX11_says_39 (v := .ref 0) rfl rfl ?_
  refine Z.getR (σ := σ) B fX11_28_11 dX11_says_40 (hl.n (k := 0) (by decide)) (hl.k (k := 0) (by decide)) (by decide) (j := 20) (hl.r (k := 0) (f := 2) (by decide) (by decide)) ?_
  refine Z.aload_n B dX11_says_43 (v := .ref (2 + 2 * s)) rfl rfl ?_
  refine Z.callVI (σ := σ) B (M' := mX6_wayHeld) (as := []) (st := [.ref 20]) (v := .int (zX σ (2 + 2 * s) 3)) dX11_says_44 wX6_wayHeld iX6_wayHeld sX6_wayHeld kX11_114 (Nat.lt_of_succ_lt hqs.1) hqs.2.1 (by decide) rfl rfl (t_X6_wayHeld (σ := σ) hqs) rfl rfl (by decide) (by decide) (Nat.le_of_ble_eq_true rfl) (by decide) (by decide) ?_
  rw [hh.2.2.1]
  refine Z.callVI (σ := σ) B (M' := mX1_wayAt) (as := [.int (nI i8)]) (st := []) (v := .ref q) dX11_says_47 wX1_wayAt iX1_wayAt sX1_wayAt kX11_102 (hl.n (k := 20) (by decide)) (hl.k (k := 20) (by decide)) (by decide) rfl rfl (t_X1_wayAt_in (σ := σ) H hi hq) rfl rfl (by decide) (by decide) (Nat.le_of_ble_eq_true rfl) (by decide) (by decide) ?_
  refine Z.astore B dX11_says_50 (by decide) rfl (L' := [(0, .ref 0), (1, .int (nI s)), (2, .int (nI 0)), (3, .ref (2 + 2 * s)), (4, .ref q)]) rfl ?_
  refine Z.aload B dX11_says_52 (v := .ref q) rfl rfl ?_
  refine Z.ifnonnull_r B dX11_says_54 (tgt := 65) rfl ?_
  refine Z.aload_n B dX11_says_65 (v := .ref 0) rfl rfl ?_
  refine Z.aload B dX11_says_66 (v := .ref q) rfl rfl ?_
  refine Z.iload_n B dX11_says_68 (x := nI 0) rfl ?_
  refine Z.callVI (σ := σ) B (M' := mX11_saysAs) (as := [.ref q, .int (nI 0)]) (st := []) (v := .int (nI pa)) dX11_says_69 wX11_saysAs iX11_saysAs sX11_saysAs kX11_117 (hl.n (k := 0) (by decide)) (hl.k (k := 0) (by decide)) (by decide) rfl rfl (t_K_saysAs_6_0 (σ := σ) hl H ho hw) rfl rfl (by decide) (by decide) (Nat.le_of_ble_eq_true rfl) (by decide) (by decide) ?_
  refine Z.iret B Rt dX11_says_72 (ty := .int) rfl rfl (by decide) (by decide) ?_
  exact ⟨rfl, rfl⟩

theorem t_K_says_0_6_1 {σ : zSt} (hl : Lay σ) {n a y : Nat} (H : zHd σ n a y) {od : Nat → Nat} (ho : zOd σ a od) {s : Nat} (hs : s < 8) {i8 : Nat} (hh : zWa σ (2 + 2 * s) i8) {q pa num : Nat} (hi : i8 < y) (hq : zR σ 24 i8 = some q) (hw : zWo σ q 6 pa num) : Dt mX11_says [.ref 0, .int (nI s), .int (nI 1)] σ (some (.int (-nI 2))) (zuX σ 43 (upd (zX σ 43) 2 (zX σ 43 2 + nI 1))) := by
  have hqs := (hl.shelf hs).2
  obtain ⟨-, hn, hn8, ha, ha4, hy, hy8⟩ := id H
  refine Dt.of (by decide) (Nat.le_of_ble_eq_true rfl) fun κ B Rt => ?_
  show Z κ 0 0 σ 0 [(0, .ref 0), (1, .int (nI s)), (2, .int (nI 1))] []
  refine Z.aload_n B dX11_says_0 (v := .ref 0) rfl rfl ?_
  refine Z.iload_n B dX11_says_1 (x := nI s) rfl ?_
  refine Z.callVI (σ := σ) B (M' := mX11_shelfAt) (as := [.int (nI s)]) (st := []) (v := .ref (2 + 2 * s)) dX11_says_2 wX11_shelfAt iX11_shelfAt sX11_shelfAt kX11_59 (hl.n (k := 0) (by decide)) (hl.k (k := 0) (by decide)) (by decide) rfl rfl (t_X11_shelfAt_in (σ := σ) hl hs) rfl rfl (by decide) (by decide) (Nat.le_of_ble_eq_true rfl) (by decide) (by decide) ?_
  refine Z.astore_n B dX11_says_5 (by decide) rfl (L' := [(0, .ref 0), (1, .int (nI s)), (2, .int (nI 1)), (3, .ref (2 + 2 * s))]) rfl ?_
  refine Z.aload_n B dX11_says_6 (v := .ref (2 + 2 * s)) rfl rfl ?_
  refine Z.ifnull_r B dX11_says_7 ?_
  refine Z.iload_n B dX11_says_10 (x := nI 1) rfl ?_
  refine Z.if_ltN B dX11_says_11 (tgt := 20) rfl (by omega) ?_
  refine Z.iload_n B dX11_says_14 (x := nI 1) rfl ?_
  refine Z.bipush B dX11_says_15 (v := nI 6) rfl ?_
  refine Z.icmp_leN B dX11_says_17 (tgt := 26) rfl (by omega) (by omega) (fun h17 => ?_) (fun h17 => by exfalso; first | omega | contradiction | simp_all)
  refine Z.aload_n B dX11_says_26 (v := .ref (2 + 2 * s)) rfl rfl ?_
  refine Z.callVI (σ := σ) B (M' := mX6_holdsRow) (as := []) (st := []) (v := .int (nI 0)) dX11_says_27 wX6_holdsRow iX6_holdsRow sX6_holdsRow kX11_71 (Nat.lt_of_succ_lt hqs.1) hqs.2.1 (by decide) rfl rfl (t_X6_holdsRow_0 (σ := σ) hqs hh.1) rfl rfl (by decide) (by decide) (Nat.le_of_ble_eq_true rfl) (by decide) (by decide) ?_
  refine Z.if_eqN B dX11_says_30 (tgt := 39) rfl (by omega) (fun h30 => ?_) (fun h30 => by exfalso; first | omega | contradiction | simp_all)
  refine Z.aload_n B dX11_says_39 (v := .ref 0) rfl rfl ?_
  refine Z.getR (σ := σ) B fX11_28_11 dX11_says_40 (hl.n (k := 0) (by decide)) (hl.k (k := 0) (by decide)) (by decide) (j := 20) (hl.r (k := 0) (f := 2) (by decide) (by decide)) ?_
  refine Z.aload_n B dX11_says_43 (v := .ref (2 + 2 * s)) rfl rfl ?_
  refine Z.callVI (σ := σ) B (M' := mX6_wayHeld) (as := []) (st := [.ref 20]) (v := .int (zX σ (2 + 2 * s) 3)) dX11_says_44 wX6_wayHeld iX6_wayHeld sX6_wayHeld kX11_114 (Nat.lt_of_succ_lt hqs.1) hqs.2.1 (by decide) rfl rfl (t_X6_wayHeld (σ := σ) hqs) rfl rfl (by decide) (by decide) (Nat.le_of_ble_eq_true rfl) (by decide) (by decide) ?_
  rw [hh.2.2.1]
  refine Z.callVI (σ := σ) B (M' := mX1_wayAt) (as := [.int (nI i8)]) (st := []) (v := .ref q) dX11_says_47 wX1_wayAt iX1_wayAt sX1_wayAt kX11_102 (hl.n (k := 20) (by decide)) (hl.k (k := 20) (by decide)) (by decide) rfl rfl (t_X1_wayAt_in (σ := σ) H hi hq) rfl rfl (by decide) (by decide) (Nat.le_of_ble_eq_true rfl) (by decide) (by decide) ?_
  refine Z.astore B dX11_says_50 (by decide) rfl (L' := [(0, .ref 0), (1, .int (nI s)), (2, .int (nI 1)), (3, .ref (2 + 2 * s)), (4, .ref q)]) rfl ?_
  refine Z.aload B dX11_says_52 (v := .ref q) rfl rfl ?_
  refine Z.ifnonnull_r B dX11_says_54 (tgt := 65) rfl ?_
  refine Z.aload_n B dX11_says_65 (v := .ref 0) rfl rfl ?_
  refine Z.aload B dX11_says_66 (v := .ref q) rfl rfl ?_
  refine Z.iload_n B dX11_says_68 (x := nI 1) rfl ?_
  refine Z.callVI (σ := σ) B (M' := mX11_saysAs) (as := [.ref q, .int (nI 1)]) (st := []) (v := .int (-nI 2)) dX11_says_69 wX11_saysAs iX11_saysAs sX11_saysAs kX11_117 (hl.n (k := 0) (by decide)) (hl.k (k := 0) (by decide)) (by decide) rfl rfl (t_K_saysAs_6_1 (σ := σ) hl H ho hw) rfl rfl (by decide) (by decide) (Nat.le_of_ble_eq_true rfl) (by decide) (by decide) ?_
  refine Z.eqσ (τ := (zuX σ 43 (upd (zX σ 43) 2 (zX σ 43 2 + nI 1)))) rfl ?_
  refine Z.iret B Rt dX11_says_72 (ty := .int) rfl rfl (by decide) (by decide) ?_
  exact ⟨rfl, rfl⟩

theorem t_K_says_0_6_2 {σ : zSt} (hl : Lay σ) {n a y : Nat} (H : zHd σ n a y) {od : Nat → Nat} (ho : zOd σ a od) {s : Nat} (hs : s < 8) {i8 : Nat} (hh : zWa σ (2 + 2 * s) i8) {q pa num : Nat} (hi : i8 < y) (hq : zR σ 24 i8 = some q) (hw : zWo σ q 6 pa num) : Dt mX11_says [.ref 0, .int (nI s), .int (nI 2)] σ (some (.int (-nI 2))) (zuX σ 43 (upd (zX σ 43) 2 (zX σ 43 2 + nI 1))) := by
  have hqs := (hl.shelf hs).2
  obtain ⟨-, hn, hn8, ha, ha4, hy, hy8⟩ := id H
  refine Dt.of (by decide) (Nat.le_of_ble_eq_true rfl) fun κ B Rt => ?_
  show Z κ 0 0 σ 0 [(0, .ref 0), (1, .int (nI s)), (2, .int (nI 2))] []
  refine Z.aload_n B dX11_says_0 (v := .ref 0) rfl rfl ?_
  refine Z.iload_n B dX11_says_1 (x := nI s) rfl ?_
  refine Z.callVI (σ := σ) B (M' := mX11_shelfAt) (as := [.int (nI s)]) (st := []) (v := .ref (2 + 2 * s)) dX11_says_2 wX11_shelfAt iX11_shelfAt sX11_shelfAt kX11_59 (hl.n (k := 0) (by decide)) (hl.k (k := 0) (by decide)) (by decide) rfl rfl (t_X11_shelfAt_in (σ := σ) hl hs) rfl rfl (by decide) (by decide) (Nat.le_of_ble_eq_true rfl) (by decide) (by decide) ?_
  refine Z.astore_n B dX11_says_5 (by decide) rfl (L' := [(0, .ref 0), (1, .int (nI s)), (2, .int (nI 2)), (3, .ref (2 + 2 * s))]) rfl ?_
  refine Z.aload_n B dX11_says_6 (v := .ref (2 + 2 * s)) rfl rfl ?_
  refine Z.ifnull_r B dX11_says_7 ?_
  refine Z.iload_n B dX11_says_10 (x := nI 2) rfl ?_
  refine Z.if_ltN B dX11_says_11 (tgt := 20) rfl (by omega) ?_
  refine Z.iload_n B dX11_says_14 (x := nI 2) rfl ?_
  refine Z.bipush B dX11_says_15 (v := nI 6) rfl ?_
  refine Z.icmp_leN B dX11_says_17 (tgt := 26) rfl (by omega) (by omega) (fun h17 => ?_) (fun h17 => by exfalso; first | omega | contradiction | simp_all)
  refine Z.aload_n B dX11_says_26 (v := .ref (2 + 2 * s)) rfl rfl ?_
  refine Z.callVI (σ := σ) B (M' := mX6_holdsRow) (as := []) (st := []) (v := .int (nI 0)) dX11_says_27 wX6_holdsRow iX6_holdsRow sX6_holdsRow kX11_71 (Nat.lt_of_succ_lt hqs.1) hqs.2.1 (by decide) rfl rfl (t_X6_holdsRow_0 (σ := σ) hqs hh.1) rfl rfl (by decide) (by decide) (Nat.le_of_ble_eq_true rfl) (by decide) (by decide) ?_
  refine Z.if_eqN B dX11_says_30 (tgt := 39) rfl (by omega) (fun h30 => ?_) (fun h30 => by exfalso; first | omega | contradiction | simp_all)
  refine Z.aload_n B dX11_says_39 (v := .ref 0) rfl rfl ?_
  refine Z.getR (σ := σ) B fX11_28_11 dX11_says_40 (hl.n (k := 0) (by decide)) (hl.k (k := 0) (by decide)) (by decide) (j := 20) (hl.r (k := 0) (f := 2) (by decide) (by decide)) ?_
  refine Z.aload_n B dX11_says_43 (v := .ref (2 + 2 * s)) rfl rfl ?_
  refine Z.callVI (σ := σ) B (M' := mX6_wayHeld) (as := []) (st := [.ref 20]) (v := .int (zX σ (2 + 2 * s) 3)) dX11_says_44 wX6_wayHeld iX6_wayHeld sX6_wayHeld kX11_114 (Nat.lt_of_succ_lt hqs.1) hqs.2.1 (by decide) rfl rfl (t_X6_wayHeld (σ := σ) hqs) rfl rfl (by decide) (by decide) (Nat.le_of_ble_eq_true rfl) (by decide) (by decide) ?_
  rw [hh.2.2.1]
  refine Z.callVI (σ := σ) B (M' := mX1_wayAt) (as := [.int (nI i8)]) (st := []) (v := .ref q) dX11_says_47 wX1_wayAt iX1_wayAt sX1_wayAt kX11_102 (hl.n (k := 20) (by decide)) (hl.k (k := 20) (by decide)) (by decide) rfl rfl (t_X1_wayAt_in (σ := σ) H hi hq) rfl rfl (by decide) (by decide) (Nat.le_of_ble_eq_true rfl) (by decide) (by decide) ?_
  refine Z.astore B dX11_says_50 (by decide) rfl (L' := [(0, .ref 0), (1, .int (nI s)), (2, .int (nI 2)), (3, .ref (2 + 2 * s)), (4, .ref q)]) rfl ?_
  refine Z.aload B dX11_says_52 (v := .ref q) rfl rfl ?_
  refine Z.ifnonnull_r B dX11_says_54 (tgt := 65) rfl ?_
  refine Z.aload_n B dX11_says_65 (v := .ref 0) rfl rfl ?_
  refine Z.aload B dX11_says_66 (v := .ref q) rfl rfl ?_
  refine Z.iload_n B dX11_says_68 (x := nI 2) rfl ?_
  refine Z.callVI (σ := σ) B (M' := mX11_saysAs) (as := [.ref q, .int (nI 2)]) (st := []) (v := .int (-nI 2)) dX11_says_69 wX11_saysAs iX11_saysAs sX11_saysAs kX11_117 (hl.n (k := 0) (by decide)) (hl.k (k := 0) (by decide)) (by decide) rfl rfl (t_K_saysAs_6_2 (σ := σ) hl H ho hw) rfl rfl (by decide) (by decide) (Nat.le_of_ble_eq_true rfl) (by decide) (by decide) ?_
  refine Z.eqσ (τ := (zuX σ 43 (upd (zX σ 43) 2 (zX σ 43 2 + nI 1)))) rfl ?_
  refine Z.iret B Rt dX11_says_72 (ty := .int) rfl rfl (by decide) (by decide) ?_
  exact ⟨rfl, rfl⟩

theorem t_K_says_0_6_3 {σ : zSt} (hl : Lay σ) {n a y : Nat} (H : zHd σ n a y) {od : Nat → Nat} (ho : zOd σ a od) {s : Nat} (hs : s < 8) {i8 : Nat} (hh : zWa σ (2 + 2 * s) i8) {q pa num : Nat} (hi : i8 < y) (hq : zR σ 24 i8 = some q) (hw : zWo σ q 6 pa num) : Dt mX11_says [.ref 0, .int (nI s), .int (nI 3)] σ (some (.int (-nI 2))) (zuX σ 43 (upd (zX σ 43) 2 (zX σ 43 2 + nI 1))) := by
  have hqs := (hl.shelf hs).2
  obtain ⟨-, hn, hn8, ha, ha4, hy, hy8⟩ := id H
  refine Dt.of (by decide) (Nat.le_of_ble_eq_true rfl) fun κ B Rt => ?_
  show Z κ 0 0 σ 0 [(0, .ref 0), (1, .int (nI s)), (2, .int (nI 3))] []
  refine Z.aload_n B dX11_says_0 (v := .ref 0) rfl rfl ?_
  refine Z.iload_n B dX11_says_1 (x := nI s) rfl ?_
  refine Z.callVI (σ := σ) B (M' := mX11_shelfAt) (as := [.int (nI s)]) (st := []) (v := .ref (2 + 2 * s)) dX11_says_2 wX11_shelfAt iX11_shelfAt sX11_shelfAt kX11_59 (hl.n (k := 0) (by decide)) (hl.k (k := 0) (by decide)) (by decide) rfl rfl (t_X11_shelfAt_in (σ := σ) hl hs) rfl rfl (by decide) (by decide) (Nat.le_of_ble_eq_true rfl) (by decide) (by decide) ?_
  refine Z.astore_n B dX11_says_5 (by decide) rfl (L' := [(0, .ref 0), (1, .int (nI s)), (2, .int (nI 3)), (3, .ref (2 + 2 * s))]) rfl ?_
  refine Z.aload_n B dX11_says_6 (v := .ref (2 + 2 * s)) rfl rfl ?_
  refine Z.ifnull_r B dX11_says_7 ?_
  refine Z.iload_n B dX11_says_10 (x := nI 3) rfl ?_
  refine Z.if_ltN B dX11_says_11 (tgt := 20) rfl (by omega) ?_
  refine Z.iload_n B dX11_says_14 (x := nI 3) rfl ?_
  refine Z.bipush B dX11_says_15 (v := nI 6) rfl ?_
  refine Z.icmp_leN B dX11_says_17 (tgt := 26) rfl (by omega) (by omega) (fun h17 => ?_) (fun h17 => by exfalso; first | omega | contradiction | simp_all)
  refine Z.aload_n B dX11_says_26 (v := .ref (2 + 2 * s)) rfl rfl ?_
  refine Z.callVI (σ := σ) B (M' := mX6_holdsRow) (as := []) (st := []) (v := .int (nI 0)) dX11_says_27 wX6_holdsRow iX6_holdsRow sX6_holdsRow kX11_71 (Nat.lt_of_succ_lt hqs.1) hqs.2.1 (by decide) rfl rfl (t_X6_holdsRow_0 (σ := σ) hqs hh.1) rfl rfl (by decide) (by decide) (Nat.le_of_ble_eq_true rfl) (by decide) (by decide) ?_
  refine Z.if_eqN B dX11_says_30 (tgt := 39) rfl (by omega) (fun h30 => ?_) (fun h30 => by exfalso; first | omega | contradiction | simp_all)
  refine Z.aload_n B dX11_says_39 (v := .ref 0) rfl rfl ?_
  refine Z.getR (σ := σ) B fX11_28_11 dX11_says_40 (hl.n (k := 0) (by decide)) (hl.k (k := 0) (by decide)) (by decide) (j := 20) (hl.r (k := 0) (f := 2) (by decide) (by decide)) ?_
  refine Z.aload_n B dX11_says_43 (v := .ref (2 + 2 * s)) rfl rfl ?_
  refine Z.callVI (σ := σ) B (M' := mX6_wayHeld) (as := []) (st := [.ref 20]) (v := .int (zX σ (2 + 2 * s) 3)) dX11_says_44 wX6_wayHeld iX6_wayHeld sX6_wayHeld kX11_114 (Nat.lt_of_succ_lt hqs.1) hqs.2.1 (by decide) rfl rfl (t_X6_wayHeld (σ := σ) hqs) rfl rfl (by decide) (by decide) (Nat.le_of_ble_eq_true rfl) (by decide) (by decide) ?_
  rw [hh.2.2.1]
  refine Z.callVI (σ := σ) B (M' := mX1_wayAt) (as := [.int (nI i8)]) (st := []) (v := .ref q) dX11_says_47 wX1_wayAt iX1_wayAt sX1_wayAt kX11_102 (hl.n (k := 20) (by decide)) (hl.k (k := 20) (by decide)) (by decide) rfl rfl (t_X1_wayAt_in (σ := σ) H hi hq) rfl rfl (by decide) (by decide) (Nat.le_of_ble_eq_true rfl) (by decide) (by decide) ?_
  refine Z.astore B dX11_says_50 (by decide) rfl (L' := [(0, .ref 0), (1, .int (nI s)), (2, .int (nI 3)), (3, .ref (2 + 2 * s)), (4, .ref q)]) rfl ?_
  refine Z.aload B dX11_says_52 (v := .ref q) rfl rfl ?_
  refine Z.ifnonnull_r B dX11_says_54 (tgt := 65) rfl ?_
  refine Z.aload_n B dX11_says_65 (v := .ref 0) rfl rfl ?_
  refine Z.aload B dX11_says_66 (v := .ref q) rfl rfl ?_
  refine Z.iload_n B dX11_says_68 (x := nI 3) rfl ?_
  refine Z.callVI (σ := σ) B (M' := mX11_saysAs) (as := [.ref q, .int (nI 3)]) (st := []) (v := .int (-nI 2)) dX11_says_69 wX11_saysAs iX11_saysAs sX11_saysAs kX11_117 (hl.n (k := 0) (by decide)) (hl.k (k := 0) (by decide)) (by decide) rfl rfl (t_K_saysAs_6_3 (σ := σ) hl H ho hw) rfl rfl (by decide) (by decide) (Nat.le_of_ble_eq_true rfl) (by decide) (by decide) ?_
  refine Z.eqσ (τ := (zuX σ 43 (upd (zX σ 43) 2 (zX σ 43 2 + nI 1)))) rfl ?_
  refine Z.iret B Rt dX11_says_72 (ty := .int) rfl rfl (by decide) (by decide) ?_
  exact ⟨rfl, rfl⟩

theorem t_K_says_0_6_4 {σ : zSt} (hl : Lay σ) {n a y : Nat} (H : zHd σ n a y) {od : Nat → Nat} (ho : zOd σ a od) {s : Nat} (hs : s < 8) {i8 : Nat} (hh : zWa σ (2 + 2 * s) i8) {q pa num : Nat} (hi : i8 < y) (hq : zR σ 24 i8 = some q) (hw : zWo σ q 6 pa num) : Dt mX11_says [.ref 0, .int (nI s), .int (nI 4)] σ (some (.int (-nI 2))) (zuX σ 43 (upd (zX σ 43) 2 (zX σ 43 2 + nI 1))) := by
  have hqs := (hl.shelf hs).2
  obtain ⟨-, hn, hn8, ha, ha4, hy, hy8⟩ := id H
  refine Dt.of (by decide) (Nat.le_of_ble_eq_true rfl) fun κ B Rt => ?_
  show Z κ 0 0 σ 0 [(0, .ref 0), (1, .int (nI s)), (2, .int (nI 4))] []
  refine Z.aload_n B dX11_says_0 (v := .ref 0) rfl rfl ?_
  refine Z.iload_n B dX11_says_1 (x := nI s) rfl ?_
  refine Z.callVI (σ := σ) B (M' := mX11_shelfAt) (as := [.int (nI s)]) (st := []) (v := .ref (2 + 2 * s)) dX11_says_2 wX11_shelfAt iX11_shelfAt sX11_shelfAt kX11_59 (hl.n (k := 0) (by decide)) (hl.k (k := 0) (by decide)) (by decide) rfl rfl (t_X11_shelfAt_in (σ := σ) hl hs) rfl rfl (by decide) (by decide) (Nat.le_of_ble_eq_true rfl) (by decide) (by decide) ?_
  refine Z.astore_n B dX11_says_5 (by decide) rfl (L' := [(0, .ref 0), (1, .int (nI s)), (2, .int (nI 4)), (3, .ref (2 + 2 * s))]) rfl ?_
  refine Z.aload_n B dX11_says_6 (v := .ref (2 + 2 * s)) rfl rfl ?_
  refine Z.ifnull_r B dX11_says_7 ?_
  refine Z.iload_n B dX11_says_10 (x := nI 4) rfl ?_
  refine Z.if_ltN B dX11_says_11 (tgt := 20) rfl (by omega) ?_
  refine Z.iload_n B dX11_says_14 (x := nI 4) rfl ?_
  refine Z.bipush B dX11_says_15 (v := nI 6) rfl ?_
  refine Z.icmp_leN B dX11_says_17 (tgt := 26) rfl (by omega) (by omega) (fun h17 => ?_) (fun h17 => by exfalso; first | omega | contradiction | simp_all)
  refine Z.aload_n B dX11_says_26 (v := .ref (2 + 2 * s)) rfl rfl ?_
  refine Z.callVI (σ := σ) B (M' := mX6_holdsRow) (as := []) (st := []) (v := .int (nI 0)) dX11_says_27 wX6_holdsRow iX6_holdsRow sX6_holdsRow kX11_71 (Nat.lt_of_succ_lt hqs.1) hqs.2.1 (by decide) rfl rfl (t_X6_holdsRow_0 (σ := σ) hqs hh.1) rfl rfl (by decide) (by decide) (Nat.le_of_ble_eq_true rfl) (by decide) (by decide) ?_
  refine Z.if_eqN B dX11_says_30 (tgt := 39) rfl (by omega) (fun h30 => ?_) (fun h30 => by exfalso; first | omega | contradiction | simp_all)
  refine Z.aload_n B dX11_says_39 (v := .ref 0) rfl rfl ?_
  refine Z.getR (σ := σ) B fX11_28_11 dX11_says_40 (hl.n (k := 0) (by decide)) (hl.k (k := 0) (by decide)) (by decide) (j := 20) (hl.r (k := 0) (f := 2) (by decide) (by decide)) ?_
  refine Z.aload_n B dX11_says_43 (v := .ref (2 + 2 * s)) rfl rfl ?_
  refine Z.callVI (σ := σ) B (M' := mX6_wayHeld) (as := []) (st := [.ref 20]) (v := .int (zX σ (2 + 2 * s) 3)) dX11_says_44 wX6_wayHeld iX6_wayHeld sX6_wayHeld kX11_114 (Nat.lt_of_succ_lt hqs.1) hqs.2.1 (by decide) rfl rfl (t_X6_wayHeld (σ := σ) hqs) rfl rfl (by decide) (by decide) (Nat.le_of_ble_eq_true rfl) (by decide) (by decide) ?_
  rw [hh.2.2.1]
  refine Z.callVI (σ := σ) B (M' := mX1_wayAt) (as := [.int (nI i8)]) (st := []) (v := .ref q) dX11_says_47 wX1_wayAt iX1_wayAt sX1_wayAt kX11_102 (hl.n (k := 20) (by decide)) (hl.k (k := 20) (by decide)) (by decide) rfl rfl (t_X1_wayAt_in (σ := σ) H hi hq) rfl rfl (by decide) (by decide) (Nat.le_of_ble_eq_true rfl) (by decide) (by decide) ?_
  refine Z.astore B dX11_says_50 (by decide) rfl (L' := [(0, .ref 0), (1, .int (nI s)), (2, .int (nI 4)), (3, .ref (2 + 2 * s)), (4, .ref q)]) rfl ?_
  refine Z.aload B dX11_says_52 (v := .ref q) rfl rfl ?_
  refine Z.ifnonnull_r B dX11_says_54 (tgt := 65) rfl ?_
  refine Z.aload_n B dX11_says_65 (v := .ref 0) rfl rfl ?_
  refine Z.aload B dX11_says_66 (v := .ref q) rfl rfl ?_
  refine Z.iload_n B dX11_says_68 (x := nI 4) rfl ?_
  refine Z.callVI (σ := σ) B (M' := mX11_saysAs) (as := [.ref q, .int (nI 4)]) (st := []) (v := .int (-nI 2)) dX11_says_69 wX11_saysAs iX11_saysAs sX11_saysAs kX11_117 (hl.n (k := 0) (by decide)) (hl.k (k := 0) (by decide)) (by decide) rfl rfl (t_K_saysAs_6_4 (σ := σ) hl H ho hw) rfl rfl (by decide) (by decide) (Nat.le_of_ble_eq_true rfl) (by decide) (by decide) ?_
  refine Z.eqσ (τ := (zuX σ 43 (upd (zX σ 43) 2 (zX σ 43 2 + nI 1)))) rfl ?_
  refine Z.iret B Rt dX11_says_72 (ty := .int) rfl rfl (by decide) (by decide) ?_
  exact ⟨rfl, rfl⟩

theorem t_K_says_0_6_5 {σ : zSt} (hl : Lay σ) {n a y : Nat} (H : zHd σ n a y) {od : Nat → Nat} (ho : zOd σ a od) {s : Nat} (hs : s < 8) {i8 : Nat} (hh : zWa σ (2 + 2 * s) i8) {q pa num : Nat} (hi : i8 < y) (hq : zR σ 24 i8 = some q) (hw : zWo σ q 6 pa num) : Dt mX11_says [.ref 0, .int (nI s), .int (nI 5)] σ (some (.int (gI (fun c => cn (zX σ 21) c 5) n))) (zuX σ 25 (fi n (fun c => cn (zX σ 21) c 5) (zX σ 25))) := by
  have hqs := (hl.shelf hs).2
  obtain ⟨-, hn, hn8, ha, ha4, hy, hy8⟩ := id H
  refine Dt.of (by decide) (Nat.le_of_ble_eq_true rfl) fun κ B Rt => ?_
  show Z κ 0 0 σ 0 [(0, .ref 0), (1, .int (nI s)), (2, .int (nI 5))] []
  refine Z.aload_n B dX11_says_0 (v := .ref 0) rfl rfl ?_
  refine Z.iload_n B dX11_says_1 (x := nI s) rfl ?_
  refine Z.callVI (σ := σ) B (M' := mX11_shelfAt) (as := [.int (nI s)]) (st := []) (v := .ref (2 + 2 * s)) dX11_says_2 wX11_shelfAt iX11_shelfAt sX11_shelfAt kX11_59 (hl.n (k := 0) (by decide)) (hl.k (k := 0) (by decide)) (by decide) rfl rfl (t_X11_shelfAt_in (σ := σ) hl hs) rfl rfl (by decide) (by decide) (Nat.le_of_ble_eq_true rfl) (by decide) (by decide) ?_
  refine Z.astore_n B dX11_says_5 (by decide) rfl (L' := [(0, .ref 0), (1, .int (nI s)), (2, .int (nI 5)), (3, .ref (2 + 2 * s))]) rfl ?_
  refine Z.aload_n B dX11_says_6 (v := .ref (2 + 2 * s)) rfl rfl ?_
  refine Z.ifnull_r B dX11_says_7 ?_
  refine Z.iload_n B dX11_says_10 (x := nI 5) rfl ?_
  refine Z.if_ltN B dX11_says_11 (tgt := 20) rfl (by omega) ?_
  refine Z.iload_n B dX11_says_14 (x := nI 5) rfl ?_
  refine Z.bipush B dX11_says_15 (v := nI 6) rfl ?_
  refine Z.icmp_leN B dX11_says_17 (tgt := 26) rfl (by omega) (by omega) (fun h17 => ?_) (fun h17 => by exfalso; first | omega | contradiction | simp_all)
  refine Z.aload_n B dX11_says_26 (v := .ref (2 + 2 * s)) rfl rfl ?_
  refine Z.callVI (σ := σ) B (M' := mX6_holdsRow) (as := []) (st := []) (v := .int (nI 0)) dX11_says_27 wX6_holdsRow iX6_holdsRow sX6_holdsRow kX11_71 (Nat.lt_of_succ_lt hqs.1) hqs.2.1 (by decide) rfl rfl (t_X6_holdsRow_0 (σ := σ) hqs hh.1) rfl rfl (by decide) (by decide) (Nat.le_of_ble_eq_true rfl) (by decide) (by decide) ?_
  refine Z.if_eqN B dX11_says_30 (tgt := 39) rfl (by omega) (fun h30 => ?_) (fun h30 => by exfalso; first | omega | contradiction | simp_all)
  refine Z.aload_n B dX11_says_39 (v := .ref 0) rfl rfl ?_
  refine Z.getR (σ := σ) B fX11_28_11 dX11_says_40 (hl.n (k := 0) (by decide)) (hl.k (k := 0) (by decide)) (by decide) (j := 20) (hl.r (k := 0) (f := 2) (by decide) (by decide)) ?_
  refine Z.aload_n B dX11_says_43 (v := .ref (2 + 2 * s)) rfl rfl ?_
  refine Z.callVI (σ := σ) B (M' := mX6_wayHeld) (as := []) (st := [.ref 20]) (v := .int (zX σ (2 + 2 * s) 3)) dX11_says_44 wX6_wayHeld iX6_wayHeld sX6_wayHeld kX11_114 (Nat.lt_of_succ_lt hqs.1) hqs.2.1 (by decide) rfl rfl (t_X6_wayHeld (σ := σ) hqs) rfl rfl (by decide) (by decide) (Nat.le_of_ble_eq_true rfl) (by decide) (by decide) ?_
  rw [hh.2.2.1]
  refine Z.callVI (σ := σ) B (M' := mX1_wayAt) (as := [.int (nI i8)]) (st := []) (v := .ref q) dX11_says_47 wX1_wayAt iX1_wayAt sX1_wayAt kX11_102 (hl.n (k := 20) (by decide)) (hl.k (k := 20) (by decide)) (by decide) rfl rfl (t_X1_wayAt_in (σ := σ) H hi hq) rfl rfl (by decide) (by decide) (Nat.le_of_ble_eq_true rfl) (by decide) (by decide) ?_
  refine Z.astore B dX11_says_50 (by decide) rfl (L' := [(0, .ref 0), (1, .int (nI s)), (2, .int (nI 5)), (3, .ref (2 + 2 * s)), (4, .ref q)]) rfl ?_
  refine Z.aload B dX11_says_52 (v := .ref q) rfl rfl ?_
  refine Z.ifnonnull_r B dX11_says_54 (tgt := 65) rfl ?_
  refine Z.aload_n B dX11_says_65 (v := .ref 0) rfl rfl ?_
  refine Z.aload B dX11_says_66 (v := .ref q) rfl rfl ?_
  refine Z.iload_n B dX11_says_68 (x := nI 5) rfl ?_
  refine Z.callVI (σ := σ) B (M' := mX11_saysAs) (as := [.ref q, .int (nI 5)]) (st := []) (v := .int (gI (fun c => cn (zX σ 21) c 5) n)) dX11_says_69 wX11_saysAs iX11_saysAs sX11_saysAs kX11_117 (hl.n (k := 0) (by decide)) (hl.k (k := 0) (by decide)) (by decide) rfl rfl (t_K_saysAs_6_5 (σ := σ) hl H ho hw) rfl rfl (by decide) (by decide) (Nat.le_of_ble_eq_true rfl) (by decide) (by decide) ?_
  refine Z.eqσ (τ := (zuX σ 25 (fi n (fun c => cn (zX σ 21) c 5) (zX σ 25)))) rfl ?_
  refine Z.iret B Rt dX11_says_72 (ty := .int) rfl rfl (by decide) (by decide) ?_
  exact ⟨rfl, rfl⟩

theorem t_K_says_0_6_6 {σ : zSt} (hl : Lay σ) {n a y : Nat} (H : zHd σ n a y) {od : Nat → Nat} (ho : zOd σ a od) {s : Nat} (hs : s < 8) {i8 : Nat} (hh : zWa σ (2 + 2 * s) i8) {q pa num : Nat} (hi : i8 < y) (hq : zR σ 24 i8 = some q) (hw : zWo σ q 6 pa num) : Dt mX11_says [.ref 0, .int (nI s), .int (nI 6)] σ (some (.int (if gI (fun c => sm (fun b => shW (zX σ 21) (zSc σ) (zLk σ) 5 pa b c) a) n = gI (tf (zX σ 21) (zSc σ) (zLk σ) (zDr σ) true 6 pa od a) n then nI 0 else nI 1))) (zuX σ 25 (fi n (tf (zX σ 21) (zSc σ) (zLk σ) (zDr σ) true 6 pa od a) (zX σ 25))) := by
  have hqs := (hl.shelf hs).2
  obtain ⟨-, hn, hn8, ha, ha4, hy, hy8⟩ := id H
  refine Dt.of (by decide) (Nat.le_of_ble_eq_true rfl) fun κ B Rt => ?_
  show Z κ 0 0 σ 0 [(0, .ref 0), (1, .int (nI s)), (2, .int (nI 6))] []
  refine Z.aload_n B dX11_says_0 (v := .ref 0) rfl rfl ?_
  refine Z.iload_n B dX11_says_1 (x := nI s) rfl ?_
  refine Z.callVI (σ := σ) B (M' := mX11_shelfAt) (as := [.int (nI s)]) (st := []) (v := .ref (2 + 2 * s)) dX11_says_2 wX11_shelfAt iX11_shelfAt sX11_shelfAt kX11_59 (hl.n (k := 0) (by decide)) (hl.k (k := 0) (by decide)) (by decide) rfl rfl (t_X11_shelfAt_in (σ := σ) hl hs) rfl rfl (by decide) (by decide) (Nat.le_of_ble_eq_true rfl) (by decide) (by decide) ?_
  refine Z.astore_n B dX11_says_5 (by decide) rfl (L' := [(0, .ref 0), (1, .int (nI s)), (2, .int (nI 6)), (3, .ref (2 + 2 * s))]) rfl ?_
  refine Z.aload_n B dX11_says_6 (v := .ref (2 + 2 * s)) rfl rfl ?_
  refine Z.ifnull_r B dX11_says_7 ?_
  refine Z.iload_n B dX11_says_10 (x := nI 6) rfl ?_
  refine Z.if_ltN B dX11_says_11 (tgt := 20) rfl (by omega) ?_
  refine Z.iload_n B dX11_says_14 (x := nI 6) rfl ?_
  refine Z.bipush B dX11_says_15 (v := nI 6) rfl ?_
  refine Z.icmp_leN B dX11_says_17 (tgt := 26) rfl (by omega) (by omega) (fun h17 => ?_) (fun h17 => by exfalso; first | omega | contradiction | simp_all)
  refine Z.aload_n B dX11_says_26 (v := .ref (2 + 2 * s)) rfl rfl ?_
  refine Z.callVI (σ := σ) B (M' := mX6_holdsRow) (as := []) (st := []) (v := .int (nI 0)) dX11_says_27 wX6_holdsRow iX6_holdsRow sX6_holdsRow kX11_71 (Nat.lt_of_succ_lt hqs.1) hqs.2.1 (by decide) rfl rfl (t_X6_holdsRow_0 (σ := σ) hqs hh.1) rfl rfl (by decide) (by decide) (Nat.le_of_ble_eq_true rfl) (by decide) (by decide) ?_
  refine Z.if_eqN B dX11_says_30 (tgt := 39) rfl (by omega) (fun h30 => ?_) (fun h30 => by exfalso; first | omega | contradiction | simp_all)
  refine Z.aload_n B dX11_says_39 (v := .ref 0) rfl rfl ?_
  refine Z.getR (σ := σ) B fX11_28_11 dX11_says_40 (hl.n (k := 0) (by decide)) (hl.k (k := 0) (by decide)) (by decide) (j := 20) (hl.r (k := 0) (f := 2) (by decide) (by decide)) ?_
  refine Z.aload_n B dX11_says_43 (v := .ref (2 + 2 * s)) rfl rfl ?_
  refine Z.callVI (σ := σ) B (M' := mX6_wayHeld) (as := []) (st := [.ref 20]) (v := .int (zX σ (2 + 2 * s) 3)) dX11_says_44 wX6_wayHeld iX6_wayHeld sX6_wayHeld kX11_114 (Nat.lt_of_succ_lt hqs.1) hqs.2.1 (by decide) rfl rfl (t_X6_wayHeld (σ := σ) hqs) rfl rfl (by decide) (by decide) (Nat.le_of_ble_eq_true rfl) (by decide) (by decide) ?_
  rw [hh.2.2.1]
  refine Z.callVI (σ := σ) B (M' := mX1_wayAt) (as := [.int (nI i8)]) (st := []) (v := .ref q) dX11_says_47 wX1_wayAt iX1_wayAt sX1_wayAt kX11_102 (hl.n (k := 20) (by decide)) (hl.k (k := 20) (by decide)) (by decide) rfl rfl (t_X1_wayAt_in (σ := σ) H hi hq) rfl rfl (by decide) (by decide) (Nat.le_of_ble_eq_true rfl) (by decide) (by decide) ?_
  refine Z.astore B dX11_says_50 (by decide) rfl (L' := [(0, .ref 0), (1, .int (nI s)), (2, .int (nI 6)), (3, .ref (2 + 2 * s)), (4, .ref q)]) rfl ?_
  refine Z.aload B dX11_says_52 (v := .ref q) rfl rfl ?_
  refine Z.ifnonnull_r B dX11_says_54 (tgt := 65) rfl ?_
  refine Z.aload_n B dX11_says_65 (v := .ref 0) rfl rfl ?_
  refine Z.aload B dX11_says_66 (v := .ref q) rfl rfl ?_
  refine Z.iload_n B dX11_says_68 (x := nI 6) rfl ?_
  refine Z.callVI (σ := σ) B (M' := mX11_saysAs) (as := [.ref q, .int (nI 6)]) (st := []) (v := .int (if gI (fun c => sm (fun b => shW (zX σ 21) (zSc σ) (zLk σ) 5 pa b c) a) n = gI (tf (zX σ 21) (zSc σ) (zLk σ) (zDr σ) true 6 pa od a) n then nI 0 else nI 1)) dX11_says_69 wX11_saysAs iX11_saysAs sX11_saysAs kX11_117 (hl.n (k := 0) (by decide)) (hl.k (k := 0) (by decide)) (by decide) rfl rfl (t_K_saysAs_6_6 (σ := σ) hl H ho hw) rfl rfl (by decide) (by decide) (Nat.le_of_ble_eq_true rfl) (by decide) (by decide) ?_
  refine Z.eqσ (τ := (zuX σ 25 (fi n (tf (zX σ 21) (zSc σ) (zLk σ) (zDr σ) true 6 pa od a) (zX σ 25)))) rfl ?_
  refine Z.iret B Rt dX11_says_72 (ty := .int) rfl rfl (by decide) (by decide) ?_
  exact ⟨rfl, rfl⟩

theorem t_M_says_1 {σ : zSt} (hl : Lay σ) {s : Int32} (hs : zOut s 8) {k : Int32} : Dt mX12_says [.ref 45, .int s, .int k] σ (some (.int (-1))) (zuX σ 46 (upd (zX σ 46) 1 (zX σ 46 1 + nI 1))) := by
  refine Dt.of (by decide) (Nat.le_of_ble_eq_true rfl) fun κ B Rt => ?_
  show Z κ 0 0 σ 0 [(0, .ref 45), (1, .int s), (2, .int k)] []
  refine Z.aload_n B dX12_says_0 (v := .ref 45) rfl rfl ?_
  refine Z.iload_n B dX12_says_1 (x := s) rfl ?_
  refine Z.callVI (σ := σ) B (M' := mX12_isShelf) (as := [.int s]) (st := []) (v := .int (nI 0)) dX12_says_2 wX12_isShelf iX12_isShelf sX12_isShelf kX12_90 (hl.n (k := 45) (by decide)) (hl.k (k := 45) (by decide)) (by decide) rfl rfl (t_X12_isShelf_out (σ := σ) hs) rfl rfl (by decide) (by decide) (Nat.le_of_ble_eq_true rfl) (by decide) (by decide) ?_
  refine Z.if_eqN B dX12_says_5 (tgt := 18) rfl (by omega) (fun h5 => ?_) (fun h5 => by exfalso; first | omega | contradiction | simp_all)
  refine Z.aload_n B dX12_says_18 (v := .ref 45) rfl rfl ?_
  refine Z.iconst B dX12_says_19 (v := (-1)) rfl ?_
  refine Z.callVI (σ := σ) B (M' := mX12_no) (as := [.int (-1)]) (st := []) (v := .int (-1)) dX12_says_20 wX12_no iX12_no sX12_no kX12_94 (hl.n (k := 45) (by decide)) (hl.k (k := 45) (by decide)) (by decide) rfl rfl (t_X12_no_1 (σ := σ) hl) rfl rfl (by decide) (by decide) (Nat.le_of_ble_eq_true rfl) (by decide) (by decide) ?_
  refine Z.eqσ (τ := (zuX σ 46 (upd (zX σ 46) 1 (zX σ 46 1 + nI 1)))) rfl ?_
  refine Z.iret B Rt dX12_says_23 (ty := .int) rfl rfl (by decide) (by decide) ?_
  exact ⟨rfl, rfl⟩

theorem t_M_says_1k {σ : zSt} (hl : Lay σ) {s : Nat} (hs : s < 8) {k : Int32} (hk : zOut k 7) : Dt mX12_says [.ref 45, .int (nI s), .int k] σ (some (.int (-1))) (zuX σ 46 (upd (zX σ 46) 1 (zX σ 46 1 + nI 1))) := by
  refine Dt.of (by decide) (Nat.le_of_ble_eq_true rfl) fun κ B Rt => ?_
  show Z κ 0 0 σ 0 [(0, .ref 45), (1, .int (nI s)), (2, .int k)] []
  refine Z.aload_n B dX12_says_0 (v := .ref 45) rfl rfl ?_
  refine Z.iload_n B dX12_says_1 (x := nI s) rfl ?_
  refine Z.callVI (σ := σ) B (M' := mX12_isShelf) (as := [.int (nI s)]) (st := []) (v := .int (nI 1)) dX12_says_2 wX12_isShelf iX12_isShelf sX12_isShelf kX12_90 (hl.n (k := 45) (by decide)) (hl.k (k := 45) (by decide)) (by decide) rfl rfl (t_X12_isShelf_in (σ := σ) hs) rfl rfl (by decide) (by decide) (Nat.le_of_ble_eq_true rfl) (by decide) (by decide) ?_
  refine Z.if_eqN B dX12_says_5 (tgt := 18) rfl (by omega) (fun h5 => by exfalso; first | omega | contradiction | simp_all) (fun h5 => ?_)
  refine Z.iload_n B dX12_says_8 (x := k) rfl ?_
  refine Z.if_lt B dX12_says_9 (tgt := 18) rfl (fun h9 => ?_) (fun h9 => ?_)
  · skip
    refine Z.aload_n B dX12_says_18 (v := .ref 45) rfl rfl ?_
    refine Z.iconst B dX12_says_19 (v := (-1)) rfl ?_
    refine Z.callVI (σ := σ) B (M' := mX12_no) (as := [.int (-1)]) (st := []) (v := .int (-1)) dX12_says_20 wX12_no iX12_no sX12_no kX12_94 (hl.n (k := 45) (by decide)) (hl.k (k := 45) (by decide)) (by decide) rfl rfl (t_X12_no_1 (σ := σ) hl) rfl rfl (by decide) (by decide) (Nat.le_of_ble_eq_true rfl) (by decide) (by decide) ?_
    refine Z.eqσ (τ := (zuX σ 46 (upd (zX σ 46) 1 (zX σ 46 1 + nI 1)))) rfl ?_
    refine Z.iret B Rt dX12_says_23 (ty := .int) rfl rfl (by decide) (by decide) ?_
    exact ⟨rfl, rfl⟩
  · skip
    refine Z.iload_n B dX12_says_12 (x := k) rfl ?_
    refine Z.bipush B dX12_says_13 (v := nI 6) rfl ?_
    refine Z.icmp_le B dX12_says_15 (tgt := 24) rfl (fun h15 => (zo_le hk h9 h15 (by decide)).elim) (fun h15 => ?_)
    refine Z.aload_n B dX12_says_18 (v := .ref 45) rfl rfl ?_
    refine Z.iconst B dX12_says_19 (v := (-1)) rfl ?_
    refine Z.callVI (σ := σ) B (M' := mX12_no) (as := [.int (-1)]) (st := []) (v := .int (-1)) dX12_says_20 wX12_no iX12_no sX12_no kX12_94 (hl.n (k := 45) (by decide)) (hl.k (k := 45) (by decide)) (by decide) rfl rfl (t_X12_no_1 (σ := σ) hl) rfl rfl (by decide) (by decide) (Nat.le_of_ble_eq_true rfl) (by decide) (by decide) ?_
    refine Z.eqσ (τ := (zuX σ 46 (upd (zX σ 46) 1 (zX σ 46 1 + nI 1)))) rfl ?_
    refine Z.iret B Rt dX12_says_23 (ty := .int) rfl rfl (by decide) (by decide) ?_
    exact ⟨rfl, rfl⟩

theorem t_M_says_2 {σ : zSt} (hl : Lay σ) {s : Nat} (hs : s < 8) {o m : Nat} (hh : zMr σ s o m) {k : Nat} (hk : k < 7)  : Dt mX12_says [.ref 45, .int (nI s), .int (nI k)] σ (some (.int (-2))) (zuX σ 46 (upd (zX σ 46) 2 (zX σ 46 2 + nI 1))) := by
  refine Dt.of (by decide) (Nat.le_of_ble_eq_true rfl) fun κ B Rt => ?_
  show Z κ 0 0 σ 0 [(0, .ref 45), (1, .int (nI s)), (2, .int (nI k))] []
  refine Z.aload_n B dX12_says_0 (v := .ref 45) rfl rfl ?_
  refine Z.iload_n B dX12_says_1 (x := nI s) rfl ?_
  refine Z.callVI (σ := σ) B (M' := mX12_isShelf) (as := [.int (nI s)]) (st := []) (v := .int (nI 1)) dX12_says_2 wX12_isShelf iX12_isShelf sX12_isShelf kX12_90 (hl.n (k := 45) (by decide)) (hl.k (k := 45) (by decide)) (by decide) rfl rfl (t_X12_isShelf_in (σ := σ) hs) rfl rfl (by decide) (by decide) (Nat.le_of_ble_eq_true rfl) (by decide) (by decide) ?_
  refine Z.if_eqN B dX12_says_5 (tgt := 18) rfl (by omega) (fun h5 => by exfalso; first | omega | contradiction | simp_all) (fun h5 => ?_)
  refine Z.iload_n B dX12_says_8 (x := nI k) rfl ?_
  refine Z.if_ltN B dX12_says_9 (tgt := 18) rfl (by omega) ?_
  refine Z.iload_n B dX12_says_12 (x := nI k) rfl ?_
  refine Z.bipush B dX12_says_13 (v := nI 6) rfl ?_
  refine Z.icmp_leN B dX12_says_15 (tgt := 24) rfl (by omega) (by omega) (fun h15 => ?_) (fun h15 => by exfalso; first | omega | contradiction | simp_all)
  refine Z.aload_n B dX12_says_24 (v := .ref 45) rfl rfl ?_
  refine Z.getR (σ := σ) B fX12_41_12 dX12_says_25 (hl.n (k := 45) (by decide)) (hl.k (k := 45) (by decide)) (by decide) (j := 54) (hl.r (k := 45) (f := 13) (by decide) (by decide)) ?_
  refine Z.iload_n B dX12_says_28 (x := nI s) rfl ?_
  refine Z.iald (σ := σ) B dX12_says_29 (n := 8) (hl.n (k := 54) (by decide)) (hl.k (k := 54) (by decide)) (hl.l (k := 54) (by decide)) (by decide) (j := s) rfl (by omega) (v := nI 1) hh.1 ?_
  refine Z.iconst B dX12_says_30 (v := nI 1) rfl ?_
  refine Z.icmp_neN B dX12_says_31 (tgt := 41) rfl (by omega) (by omega) (fun h31 => by exfalso; first | omega | contradiction | simp_all) (fun h31 => ?_)
  refine Z.aload_n B dX12_says_34 (v := .ref 45) rfl rfl ?_
  refine Z.bipush B dX12_says_35 (v := (-2)) rfl ?_
  refine Z.callVI (σ := σ) B (M' := mX12_no) (as := [.int (-2)]) (st := []) (v := .int (-2)) dX12_says_37 wX12_no iX12_no sX12_no kX12_94 (hl.n (k := 45) (by decide)) (hl.k (k := 45) (by decide)) (by decide) rfl rfl (t_X12_no_2 (σ := σ) hl) rfl rfl (by decide) (by decide) (Nat.le_of_ble_eq_true rfl) (by decide) (by decide) ?_
  refine Z.eqσ (τ := (zuX σ 46 (upd (zX σ 46) 2 (zX σ 46 2 + nI 1)))) rfl ?_
  refine Z.iret B Rt dX12_says_40 (ty := .int) rfl rfl (by decide) (by decide) ?_
  exact ⟨rfl, rfl⟩

theorem t_M_says_3 {σ : zSt} (hl : Lay σ) {s : Nat} (hs : s < 8) (hh : zMn σ s) {k : Nat} (hk : k < 7)  : Dt mX12_says [.ref 45, .int (nI s), .int (nI k)] σ (some (.int (-3))) (zuX σ 46 (upd (zX σ 46) 3 (zX σ 46 3 + nI 1))) := by
  refine Dt.of (by decide) (Nat.le_of_ble_eq_true rfl) fun κ B Rt => ?_
  show Z κ 0 0 σ 0 [(0, .ref 45), (1, .int (nI s)), (2, .int (nI k))] []
  refine Z.aload_n B dX12_says_0 (v := .ref 45) rfl rfl ?_
  refine Z.iload_n B dX12_says_1 (x := nI s) rfl ?_
  refine Z.callVI (σ := σ) B (M' := mX12_isShelf) (as := [.int (nI s)]) (st := []) (v := .int (nI 1)) dX12_says_2 wX12_isShelf iX12_isShelf sX12_isShelf kX12_90 (hl.n (k := 45) (by decide)) (hl.k (k := 45) (by decide)) (by decide) rfl rfl (t_X12_isShelf_in (σ := σ) hs) rfl rfl (by decide) (by decide) (Nat.le_of_ble_eq_true rfl) (by decide) (by decide) ?_
  refine Z.if_eqN B dX12_says_5 (tgt := 18) rfl (by omega) (fun h5 => by exfalso; first | omega | contradiction | simp_all) (fun h5 => ?_)
  refine Z.iload_n B dX12_says_8 (x := nI k) rfl ?_
  refine Z.if_ltN B dX12_says_9 (tgt := 18) rfl (by omega) ?_
  refine Z.iload_n B dX12_says_12 (x := nI k) rfl ?_
  refine Z.bipush B dX12_says_13 (v := nI 6) rfl ?_
  refine Z.icmp_leN B dX12_says_15 (tgt := 24) rfl (by omega) (by omega) (fun h15 => ?_) (fun h15 => by exfalso; first | omega | contradiction | simp_all)
  refine Z.aload_n B dX12_says_24 (v := .ref 45) rfl rfl ?_
  refine Z.getR (σ := σ) B fX12_41_12 dX12_says_25 (hl.n (k := 45) (by decide)) (hl.k (k := 45) (by decide)) (by decide) (j := 54) (hl.r (k := 45) (f := 13) (by decide) (by decide)) ?_
  refine Z.iload_n B dX12_says_28 (x := nI s) rfl ?_
  refine Z.iald (σ := σ) B dX12_says_29 (n := 8) (hl.n (k := 54) (by decide)) (hl.k (k := 54) (by decide)) (hl.l (k := 54) (by decide)) (by decide) (j := s) rfl (by omega) (v := nI 0) hh ?_
  refine Z.iconst B dX12_says_30 (v := nI 1) rfl ?_
  refine Z.icmp_neN B dX12_says_31 (tgt := 41) rfl (by omega) (by omega) (fun h31 => ?_) (fun h31 => by exfalso; first | omega | contradiction | simp_all)
  refine Z.aload_n B dX12_says_41 (v := .ref 45) rfl rfl ?_
  refine Z.getR (σ := σ) B fX12_41_12 dX12_says_42 (hl.n (k := 45) (by decide)) (hl.k (k := 45) (by decide)) (by decide) (j := 54) (hl.r (k := 45) (f := 13) (by decide) (by decide)) ?_
  refine Z.iload_n B dX12_says_45 (x := nI s) rfl ?_
  refine Z.iald (σ := σ) B dX12_says_46 (n := 8) (hl.n (k := 54) (by decide)) (hl.k (k := 54) (by decide)) (hl.l (k := 54) (by decide)) (by decide) (j := s) rfl (by omega) (v := nI 0) hh ?_
  refine Z.if_neN B dX12_says_47 (tgt := 57) rfl (by omega) (fun h47 => by exfalso; first | omega | contradiction | simp_all) (fun h47 => ?_)
  refine Z.aload_n B dX12_says_50 (v := .ref 45) rfl rfl ?_
  refine Z.bipush B dX12_says_51 (v := (-3)) rfl ?_
  refine Z.callVI (σ := σ) B (M' := mX12_no) (as := [.int (-3)]) (st := []) (v := .int (-3)) dX12_says_53 wX12_no iX12_no sX12_no kX12_94 (hl.n (k := 45) (by decide)) (hl.k (k := 45) (by decide)) (by decide) rfl rfl (t_X12_no_3 (σ := σ) hl) rfl rfl (by decide) (by decide) (Nat.le_of_ble_eq_true rfl) (by decide) (by decide) ?_
  refine Z.eqσ (τ := (zuX σ 46 (upd (zX σ 46) 3 (zX σ 46 3 + nI 1)))) rfl ?_
  refine Z.iret B Rt dX12_says_56 (ty := .int) rfl rfl (by decide) (by decide) ?_
  exact ⟨rfl, rfl⟩

theorem t_M_says_0_0_0 {σ : zSt} (hl : Lay σ) {n a y : Nat} (H : zMd σ n a y) {od : Nat → Nat} (ho : zMo σ a od) {pos : Nat → Nat} (hpo : zPo a od pos) {s : Nat} (hs : s < 8) {i8 : Nat} (hh : zMa σ s i8) {pa : Nat} (hi : i8 < y) (hw : zMy σ i8 0 pa) (hg : zX σ 45 28 = (-1))  : Dt mX12_says [.ref 45, .int (nI s), .int (nI 0)] σ (some (.int (nI pa))) σ := by
  obtain ⟨-, hn, hn8, ha, ha4, hy, hy8⟩ := id H
  have hi88 := hh.2.2
  have hpa := hw.2.2.2.1
  refine Dt.of (by decide) (Nat.le_of_ble_eq_true rfl) fun κ B Rt => ?_
  show Z κ 0 0 σ 0 [(0, .ref 45), (1, .int (nI s)), (2, .int (nI 0))] []
  refine Z.aload_n B dX12_says_0 (v := .ref 45) rfl rfl ?_
  refine Z.iload_n B dX12_says_1 (x := nI s) rfl ?_
  refine Z.callVI (σ := σ) B (M' := mX12_isShelf) (as := [.int (nI s)]) (st := []) (v := .int (nI 1)) dX12_says_2 wX12_isShelf iX12_isShelf sX12_isShelf kX12_90 (hl.n (k := 45) (by decide)) (hl.k (k := 45) (by decide)) (by decide) rfl rfl (t_X12_isShelf_in (σ := σ) hs) rfl rfl (by decide) (by decide) (Nat.le_of_ble_eq_true rfl) (by decide) (by decide) ?_
  refine Z.if_eqN B dX12_says_5 (tgt := 18) rfl (by omega) (fun h5 => by exfalso; first | omega | contradiction | simp_all) (fun h5 => ?_)
  refine Z.iload_n B dX12_says_8 (x := nI 0) rfl ?_
  refine Z.if_ltN B dX12_says_9 (tgt := 18) rfl (by omega) ?_
  refine Z.iload_n B dX12_says_12 (x := nI 0) rfl ?_
  refine Z.bipush B dX12_says_13 (v := nI 6) rfl ?_
  refine Z.icmp_leN B dX12_says_15 (tgt := 24) rfl (by omega) (by omega) (fun h15 => ?_) (fun h15 => by exfalso; first | omega | contradiction | simp_all)
  refine Z.aload_n B dX12_says_24 (v := .ref 45) rfl rfl ?_
  refine Z.getR (σ := σ) B fX12_41_12 dX12_says_25 (hl.n (k := 45) (by decide)) (hl.k (k := 45) (by decide)) (by decide) (j := 54) (hl.r (k := 45) (f := 13) (by decide) (by decide)) ?_
  refine Z.iload_n B dX12_says_28 (x := nI s) rfl ?_
  refine Z.iald (σ := σ) B dX12_says_29 (n := 8) (hl.n (k := 54) (by decide)) (hl.k (k := 54) (by decide)) (hl.l (k := 54) (by decide)) (by decide) (j := s) rfl (by omega) (v := nI 2) hh.1 ?_
  refine Z.iconst B dX12_says_30 (v := nI 1) rfl ?_
  refine Z.icmp_neN B dX12_says_31 (tgt := 41) rfl (by omega) (by omega) (fun h31 => ?_) (fun h31 => by exfalso; first | omega | contradiction | simp_all)
  refine Z.aload_n B dX12_says_41 (v := .ref 45) rfl rfl ?_
  refine Z.getR (σ := σ) B fX12_41_12 dX12_says_42 (hl.n (k := 45) (by decide)) (hl.k (k := 45) (by decide)) (by decide) (j := 54) (hl.r (k := 45) (f := 13) (by decide) (by decide)) ?_
  refine Z.iload_n B dX12_says_45 (x := nI s) rfl ?_
  refine Z.iald (σ := σ) B dX12_says_46 (n := 8) (hl.n (k := 54) (by decide)) (hl.k (k := 54) (by decide)) (hl.l (k := 54) (by decide)) (by decide) (j := s) rfl (by omega) (v := nI 2) hh.1 ?_
  refine Z.if_neN B dX12_says_47 (tgt := 57) rfl (by omega) (fun h47 => ?_) (fun h47 => by exfalso; first | omega | contradiction | simp_all)
  refine Z.aload_n B dX12_says_57 (v := .ref 45) rfl rfl ?_
  refine Z.getR (σ := σ) B fX12_50_12 dX12_says_58 (hl.n (k := 45) (by decide)) (hl.k (k := 45) (by decide)) (by decide) (j := 57) (hl.r (k := 45) (f := 16) (by decide) (by decide)) ?_
  refine Z.iload_n B dX12_says_61 (x := nI s) rfl ?_
  refine Z.iald (σ := σ) B dX12_says_62 (n := 8) (hl.n (k := 57) (by decide)) (hl.k (k := 57) (by decide)) (hl.l (k := 57) (by decide)) (by decide) (j := s) rfl (by omega) (v := nI i8) hh.2.1 ?_
  refine Z.istore_n B dX12_says_63 (by decide) (L' := [(0, .ref 45), (1, .int (nI s)), (2, .int (nI 0)), (3, .int (nI i8))]) rfl ?_
  refine Z.aload_n B dX12_says_64 (v := .ref 45) rfl rfl ?_
  refine Z.getR (σ := σ) B fX12_35_12 dX12_says_65 (hl.n (k := 45) (by decide)) (hl.k (k := 45) (by decide)) (by decide) (j := 52) (hl.r (k := 45) (f := 11) (by decide) (by decide)) ?_
  refine Z.iload_n B dX12_says_68 (x := nI i8) rfl ?_
  refine Z.iald (σ := σ) B dX12_says_69 (n := 8) (hl.n (k := 52) (by decide)) (hl.k (k := 52) (by decide)) (hl.l (k := 52) (by decide)) (by decide) (j := i8) rfl (by omega) (v := nI 0) hw.1 ?_
  refine Z.istore B dX12_says_70 (by decide) (L' := [(0, .ref 45), (1, .int (nI s)), (2, .int (nI 0)), (3, .int (nI i8)), (4, .int (nI 0))]) rfl ?_
  refine Z.iload_n B dX12_says_72 (x := nI 0) rfl ?_
  refine Z.if_eqN B dX12_says_73 (tgt := 112) rfl (by omega) (fun h73 => ?_) (fun h73 => by exfalso; first | omega | contradiction | simp_all)
  refine Z.iload_n B dX12_says_112 (x := nI 0) rfl ?_
  refine Z.tabIn B dX12_says_113 (by decide) (by decide) (off := 43) (by decide) (tgt := 156) rfl ?_
  refine Z.aload_n B dX12_says_156 (v := .ref 45) rfl rfl ?_
  refine Z.getR (σ := σ) B fX12_38_12 dX12_says_157 (hl.n (k := 45) (by decide)) (hl.k (k := 45) (by decide)) (by decide) (j := 53) (hl.r (k := 45) (f := 12) (by decide) (by decide)) ?_
  refine Z.iload_n B dX12_says_160 (x := nI i8) rfl ?_
  refine Z.iald (σ := σ) B dX12_says_161 (n := 8) (hl.n (k := 53) (by decide)) (hl.k (k := 53) (by decide)) (hl.l (k := 53) (by decide)) (by decide) (j := i8) rfl (by omega) (v := nI pa) hw.2.1 ?_
  refine Z.iret B Rt dX12_says_162 (ty := .int) rfl rfl (by decide) (by decide) ?_
  exact ⟨rfl, rfl⟩

theorem t_M_says_0_0_1 {σ : zSt} (hl : Lay σ) {n a y : Nat} (H : zMd σ n a y) {od : Nat → Nat} (ho : zMo σ a od) {pos : Nat → Nat} (hpo : zPo a od pos) {s : Nat} (hs : s < 8) {i8 : Nat} (hh : zMa σ s i8) {pa : Nat} (hi : i8 < y) (hw : zMy σ i8 0 pa) (hg : zX σ 45 28 = (-1))  : Dt mX12_says [.ref 45, .int (nI s), .int (nI 1)] σ (some (.int (-2))) (zuX σ 46 (upd (zX σ 46) 2 (zX σ 46 2 + nI 1))) := by
  obtain ⟨-, hn, hn8, ha, ha4, hy, hy8⟩ := id H
  have hi88 := hh.2.2
  have hpa := hw.2.2.2.1
  refine Dt.of (by decide) (Nat.le_of_ble_eq_true rfl) fun κ B Rt => ?_
  show Z κ 0 0 σ 0 [(0, .ref 45), (1, .int (nI s)), (2, .int (nI 1))] []
  refine Z.aload_n B dX12_says_0 (v := .ref 45) rfl rfl ?_
  refine Z.iload_n B dX12_says_1 (x := nI s) rfl ?_
  refine Z.callVI (σ := σ) B (M' := mX12_isShelf) (as := [.int (nI s)]) (st := []) (v := .int (nI 1)) dX12_says_2 wX12_isShelf iX12_isShelf sX12_isShelf kX12_90 (hl.n (k := 45) (by decide)) (hl.k (k := 45) (by decide)) (by decide) rfl rfl (t_X12_isShelf_in (σ := σ) hs) rfl rfl (by decide) (by decide) (Nat.le_of_ble_eq_true rfl) (by decide) (by decide) ?_
  refine Z.if_eqN B dX12_says_5 (tgt := 18) rfl (by omega) (fun h5 => by exfalso; first | omega | contradiction | simp_all) (fun h5 => ?_)
  refine Z.iload_n B dX12_says_8 (x := nI 1) rfl ?_
  refine Z.if_ltN B dX12_says_9 (tgt := 18) rfl (by omega) ?_
  refine Z.iload_n B dX12_says_12 (x := nI 1) rfl ?_
  refine Z.bipush B dX12_says_13 (v := nI 6) rfl ?_
  refine Z.icmp_leN B dX12_says_15 (tgt := 24) rfl (by omega) (by omega) (fun h15 => ?_) (fun h15 => by exfalso; first | omega | contradiction | simp_all)
  refine Z.aload_n B dX12_says_24 (v := .ref 45) rfl rfl ?_
  refine Z.getR (σ := σ) B fX12_41_12 dX12_says_25 (hl.n (k := 45) (by decide)) (hl.k (k := 45) (by decide)) (by decide) (j := 54) (hl.r (k := 45) (f := 13) (by decide) (by decide)) ?_
  refine Z.iload_n B dX12_says_28 (x := nI s) rfl ?_
  refine Z.iald (σ := σ) B dX12_says_29 (n := 8) (hl.n (k := 54) (by decide)) (hl.k (k := 54) (by decide)) (hl.l (k := 54) (by decide)) (by decide) (j := s) rfl (by omega) (v := nI 2) hh.1 ?_
  refine Z.iconst B dX12_says_30 (v := nI 1) rfl ?_
  refine Z.icmp_neN B dX12_says_31 (tgt := 41) rfl (by omega) (by omega) (fun h31 => ?_) (fun h31 => by exfalso; first | omega | contradiction | simp_all)
  refine Z.aload_n B dX12_says_41 (v := .ref 45) rfl rfl ?_
  refine Z.getR (σ := σ) B fX12_41_12 dX12_says_42 (hl.n (k := 45) (by decide)) (hl.k (k := 45) (by decide)) (by decide) (j := 54) (hl.r (k := 45) (f := 13) (by decide) (by decide)) ?_
  refine Z.iload_n B dX12_says_45 (x := nI s) rfl ?_
  refine Z.iald (σ := σ) B dX12_says_46 (n := 8) (hl.n (k := 54) (by decide)) (hl.k (k := 54) (by decide)) (hl.l (k := 54) (by decide)) (by decide) (j := s) rfl (by omega) (v := nI 2) hh.1 ?_
  refine Z.if_neN B dX12_says_47 (tgt := 57) rfl (by omega) (fun h47 => ?_) (fun h47 => by exfalso; first | omega | contradiction | simp_all)
  refine Z.aload_n B dX12_says_57 (v := .ref 45) rfl rfl ?_
  refine Z.getR (σ := σ) B fX12_50_12 dX12_says_58 (hl.n (k := 45) (by decide)) (hl.k (k := 45) (by decide)) (by decide) (j := 57) (hl.r (k := 45) (f := 16) (by decide) (by decide)) ?_
  refine Z.iload_n B dX12_says_61 (x := nI s) rfl ?_
  refine Z.iald (σ := σ) B dX12_says_62 (n := 8) (hl.n (k := 57) (by decide)) (hl.k (k := 57) (by decide)) (hl.l (k := 57) (by decide)) (by decide) (j := s) rfl (by omega) (v := nI i8) hh.2.1 ?_
  refine Z.istore_n B dX12_says_63 (by decide) (L' := [(0, .ref 45), (1, .int (nI s)), (2, .int (nI 1)), (3, .int (nI i8))]) rfl ?_
  refine Z.aload_n B dX12_says_64 (v := .ref 45) rfl rfl ?_
  refine Z.getR (σ := σ) B fX12_35_12 dX12_says_65 (hl.n (k := 45) (by decide)) (hl.k (k := 45) (by decide)) (by decide) (j := 52) (hl.r (k := 45) (f := 11) (by decide) (by decide)) ?_
  refine Z.iload_n B dX12_says_68 (x := nI i8) rfl ?_
  refine Z.iald (σ := σ) B dX12_says_69 (n := 8) (hl.n (k := 52) (by decide)) (hl.k (k := 52) (by decide)) (hl.l (k := 52) (by decide)) (by decide) (j := i8) rfl (by omega) (v := nI 0) hw.1 ?_
  refine Z.istore B dX12_says_70 (by decide) (L' := [(0, .ref 45), (1, .int (nI s)), (2, .int (nI 1)), (3, .int (nI i8)), (4, .int (nI 0))]) rfl ?_
  refine Z.iload_n B dX12_says_72 (x := nI 1) rfl ?_
  refine Z.if_eqN B dX12_says_73 (tgt := 112) rfl (by omega) (fun h73 => by exfalso; first | omega | contradiction | simp_all) (fun h73 => ?_)
  refine Z.iload_n B dX12_says_76 (x := nI 1) rfl ?_
  refine Z.iload B dX12_says_77 (x := nI 0) rfl ?_
  refine Z.icmp_eqN B dX12_says_79 (tgt := 112) rfl (by omega) (by omega) (fun h79 => by exfalso; first | omega | contradiction | simp_all) (fun h79 => ?_)
  refine Z.iload_n B dX12_says_82 (x := nI 1) rfl ?_
  refine Z.iconst B dX12_says_83 (v := nI 1) rfl ?_
  refine Z.icmp_neN B dX12_says_84 (tgt := 93) rfl (by omega) (by omega) (fun h84 => by exfalso; first | omega | contradiction | simp_all) (fun h84 => ?_)
  refine Z.iload B dX12_says_87 (x := nI 0) rfl ?_
  refine Z.iconst B dX12_says_89 (v := nI 2) rfl ?_
  refine Z.icmp_eqN B dX12_says_90 (tgt := 112) rfl (by omega) (by omega) (fun h90 => by exfalso; first | omega | contradiction | simp_all) (fun h90 => ?_)
  refine Z.iload_n B dX12_says_93 (x := nI 1) rfl ?_
  refine Z.iconst B dX12_says_94 (v := nI 5) rfl ?_
  refine Z.icmp_neN B dX12_says_95 (tgt := 105) rfl (by omega) (by omega) (fun h95 => ?_) (fun h95 => by exfalso; first | omega | contradiction | simp_all)
  refine Z.aload_n B dX12_says_105 (v := .ref 45) rfl rfl ?_
  refine Z.bipush B dX12_says_106 (v := (-2)) rfl ?_
  refine Z.callVI (σ := σ) B (M' := mX12_no) (as := [.int (-2)]) (st := []) (v := .int (-2)) dX12_says_108 wX12_no iX12_no sX12_no kX12_94 (hl.n (k := 45) (by decide)) (hl.k (k := 45) (by decide)) (by decide) rfl rfl (t_X12_no_2 (σ := σ) hl) rfl rfl (by decide) (by decide) (Nat.le_of_ble_eq_true rfl) (by decide) (by decide) ?_
  refine Z.eqσ (τ := (zuX σ 46 (upd (zX σ 46) 2 (zX σ 46 2 + nI 1)))) rfl ?_
  refine Z.iret B Rt dX12_says_111 (ty := .int) rfl rfl (by decide) (by decide) ?_
  exact ⟨rfl, rfl⟩

theorem t_M_says_0_0_2 {σ : zSt} (hl : Lay σ) {n a y : Nat} (H : zMd σ n a y) {od : Nat → Nat} (ho : zMo σ a od) {pos : Nat → Nat} (hpo : zPo a od pos) {s : Nat} (hs : s < 8) {i8 : Nat} (hh : zMa σ s i8) {pa : Nat} (hi : i8 < y) (hw : zMy σ i8 0 pa) (hg : zX σ 45 28 = (-1))  : Dt mX12_says [.ref 45, .int (nI s), .int (nI 2)] σ (some (.int (-2))) (zuX σ 46 (upd (zX σ 46) 2 (zX σ 46 2 + nI 1))) := by
  obtain ⟨-, hn, hn8, ha, ha4, hy, hy8⟩ := id H
  have hi88 := hh.2.2
  have hpa := hw.2.2.2.1
  refine Dt.of (by decide) (Nat.le_of_ble_eq_true rfl) fun κ B Rt => ?_
  show Z κ 0 0 σ 0 [(0, .ref 45), (1, .int (nI s)), (2, .int (nI 2))] []
  refine Z.aload_n B dX12_says_0 (v := .ref 45) rfl rfl ?_
  refine Z.iload_n B dX12_says_1 (x := nI s) rfl ?_
  refine Z.callVI (σ := σ) B (M' := mX12_isShelf) (as := [.int (nI s)]) (st := []) (v := .int (nI 1)) dX12_says_2 wX12_isShelf iX12_isShelf sX12_isShelf kX12_90 (hl.n (k := 45) (by decide)) (hl.k (k := 45) (by decide)) (by decide) rfl rfl (t_X12_isShelf_in (σ := σ) hs) rfl rfl (by decide) (by decide) (Nat.le_of_ble_eq_true rfl) (by decide) (by decide) ?_
  refine Z.if_eqN B dX12_says_5 (tgt := 18) rfl (by omega) (fun h5 => by exfalso; first | omega | contradiction | simp_all) (fun h5 => ?_)
  refine Z.iload_n B dX12_says_8 (x := nI 2) rfl ?_
  refine Z.if_ltN B dX12_says_9 (tgt := 18) rfl (by omega) ?_
  refine Z.iload_n B dX12_says_12 (x := nI 2) rfl ?_
  refine Z.bipush B dX12_says_13 (v := nI 6) rfl ?_
  refine Z.icmp_leN B dX12_says_15 (tgt := 24) rfl (by omega) (by omega) (fun h15 => ?_) (fun h15 => by exfalso; first | omega | contradiction | simp_all)
  refine Z.aload_n B dX12_says_24 (v := .ref 45) rfl rfl ?_
  refine Z.getR (σ := σ) B fX12_41_12 dX12_says_25 (hl.n (k := 45) (by decide)) (hl.k (k := 45) (by decide)) (by decide) (j := 54) (hl.r (k := 45) (f := 13) (by decide) (by decide)) ?_
  refine Z.iload_n B dX12_says_28 (x := nI s) rfl ?_
  refine Z.iald (σ := σ) B dX12_says_29 (n := 8) (hl.n (k := 54) (by decide)) (hl.k (k := 54) (by decide)) (hl.l (k := 54) (by decide)) (by decide) (j := s) rfl (by omega) (v := nI 2) hh.1 ?_
  refine Z.iconst B dX12_says_30 (v := nI 1) rfl ?_
  refine Z.icmp_neN B dX12_says_31 (tgt := 41) rfl (by omega) (by omega) (fun h31 => ?_) (fun h31 => by exfalso; first | omega | contradiction | simp_all)
  refine Z.aload_n B dX12_says_41 (v := .ref 45) rfl rfl ?_
  refine Z.getR (σ := σ) B fX12_41_12 dX12_says_42 (hl.n (k := 45) (by decide)) (hl.k (k := 45) (by decide)) (by decide) (j := 54) (hl.r (k := 45) (f := 13) (by decide) (by decide)) ?_
  refine Z.iload_n B dX12_says_45 (x := nI s) rfl ?_
  refine Z.iald (σ := σ) B dX12_says_46 (n := 8) (hl.n (k := 54) (by decide)) (hl.k (k := 54) (by decide)) (hl.l (k := 54) (by decide)) (by decide) (j := s) rfl (by omega) (v := nI 2) hh.1 ?_
  refine Z.if_neN B dX12_says_47 (tgt := 57) rfl (by omega) (fun h47 => ?_) (fun h47 => by exfalso; first | omega | contradiction | simp_all)
  refine Z.aload_n B dX12_says_57 (v := .ref 45) rfl rfl ?_
  refine Z.getR (σ := σ) B fX12_50_12 dX12_says_58 (hl.n (k := 45) (by decide)) (hl.k (k := 45) (by decide)) (by decide) (j := 57) (hl.r (k := 45) (f := 16) (by decide) (by decide)) ?_
  refine Z.iload_n B dX12_says_61 (x := nI s) rfl ?_
  refine Z.iald (σ := σ) B dX12_says_62 (n := 8) (hl.n (k := 57) (by decide)) (hl.k (k := 57) (by decide)) (hl.l (k := 57) (by decide)) (by decide) (j := s) rfl (by omega) (v := nI i8) hh.2.1 ?_
  refine Z.istore_n B dX12_says_63 (by decide) (L' := [(0, .ref 45), (1, .int (nI s)), (2, .int (nI 2)), (3, .int (nI i8))]) rfl ?_
  refine Z.aload_n B dX12_says_64 (v := .ref 45) rfl rfl ?_
  refine Z.getR (σ := σ) B fX12_35_12 dX12_says_65 (hl.n (k := 45) (by decide)) (hl.k (k := 45) (by decide)) (by decide) (j := 52) (hl.r (k := 45) (f := 11) (by decide) (by decide)) ?_
  refine Z.iload_n B dX12_says_68 (x := nI i8) rfl ?_
  refine Z.iald (σ := σ) B dX12_says_69 (n := 8) (hl.n (k := 52) (by decide)) (hl.k (k := 52) (by decide)) (hl.l (k := 52) (by decide)) (by decide) (j := i8) rfl (by omega) (v := nI 0) hw.1 ?_
  refine Z.istore B dX12_says_70 (by decide) (L' := [(0, .ref 45), (1, .int (nI s)), (2, .int (nI 2)), (3, .int (nI i8)), (4, .int (nI 0))]) rfl ?_
  refine Z.iload_n B dX12_says_72 (x := nI 2) rfl ?_
  refine Z.if_eqN B dX12_says_73 (tgt := 112) rfl (by omega) (fun h73 => by exfalso; first | omega | contradiction | simp_all) (fun h73 => ?_)
  refine Z.iload_n B dX12_says_76 (x := nI 2) rfl ?_
  refine Z.iload B dX12_says_77 (x := nI 0) rfl ?_
  refine Z.icmp_eqN B dX12_says_79 (tgt := 112) rfl (by omega) (by omega) (fun h79 => by exfalso; first | omega | contradiction | simp_all) (fun h79 => ?_)
  refine Z.iload_n B dX12_says_82 (x := nI 2) rfl ?_
  refine Z.iconst B dX12_says_83 (v := nI 1) rfl ?_
  refine Z.icmp_neN B dX12_says_84 (tgt := 93) rfl (by omega) (by omega) (fun h84 => ?_) (fun h84 => by exfalso; first | omega | contradiction | simp_all)
  refine Z.iload_n B dX12_says_93 (x := nI 2) rfl ?_
  refine Z.iconst B dX12_says_94 (v := nI 5) rfl ?_
  refine Z.icmp_neN B dX12_says_95 (tgt := 105) rfl (by omega) (by omega) (fun h95 => ?_) (fun h95 => by exfalso; first | omega | contradiction | simp_all)
  refine Z.aload_n B dX12_says_105 (v := .ref 45) rfl rfl ?_
  refine Z.bipush B dX12_says_106 (v := (-2)) rfl ?_
  refine Z.callVI (σ := σ) B (M' := mX12_no) (as := [.int (-2)]) (st := []) (v := .int (-2)) dX12_says_108 wX12_no iX12_no sX12_no kX12_94 (hl.n (k := 45) (by decide)) (hl.k (k := 45) (by decide)) (by decide) rfl rfl (t_X12_no_2 (σ := σ) hl) rfl rfl (by decide) (by decide) (Nat.le_of_ble_eq_true rfl) (by decide) (by decide) ?_
  refine Z.eqσ (τ := (zuX σ 46 (upd (zX σ 46) 2 (zX σ 46 2 + nI 1)))) rfl ?_
  refine Z.iret B Rt dX12_says_111 (ty := .int) rfl rfl (by decide) (by decide) ?_
  exact ⟨rfl, rfl⟩

theorem t_M_says_0_0_3 {σ : zSt} (hl : Lay σ) {n a y : Nat} (H : zMd σ n a y) {od : Nat → Nat} (ho : zMo σ a od) {pos : Nat → Nat} (hpo : zPo a od pos) {s : Nat} (hs : s < 8) {i8 : Nat} (hh : zMa σ s i8) {pa : Nat} (hi : i8 < y) (hw : zMy σ i8 0 pa) (hg : zX σ 45 28 = (-1))  : Dt mX12_says [.ref 45, .int (nI s), .int (nI 3)] σ (some (.int (-2))) (zuX σ 46 (upd (zX σ 46) 2 (zX σ 46 2 + nI 1))) := by
  obtain ⟨-, hn, hn8, ha, ha4, hy, hy8⟩ := id H
  have hi88 := hh.2.2
  have hpa := hw.2.2.2.1
  refine Dt.of (by decide) (Nat.le_of_ble_eq_true rfl) fun κ B Rt => ?_
  show Z κ 0 0 σ 0 [(0, .ref 45), (1, .int (nI s)), (2, .int (nI 3))] []
  refine Z.aload_n B dX12_says_0 (v := .ref 45) rfl rfl ?_
  refine Z.iload_n B dX12_says_1 (x := nI s) rfl ?_
  refine Z.callVI (σ := σ) B (M' := mX12_isShelf) (as := [.int (nI s)]) (st := []) (v := .int (nI 1)) dX12_says_2 wX12_isShelf iX12_isShelf sX12_isShelf kX12_90 (hl.n (k := 45) (by decide)) (hl.k (k := 45) (by decide)) (by decide) rfl rfl (t_X12_isShelf_in (σ := σ) hs) rfl rfl (by decide) (by decide) (Nat.le_of_ble_eq_true rfl) (by decide) (by decide) ?_
  refine Z.if_eqN B dX12_says_5 (tgt := 18) rfl (by omega) (fun h5 => by exfalso; first | omega | contradiction | simp_all) (fun h5 => ?_)
  refine Z.iload_n B dX12_says_8 (x := nI 3) rfl ?_
  refine Z.if_ltN B dX12_says_9 (tgt := 18) rfl (by omega) ?_
  refine Z.iload_n B dX12_says_12 (x := nI 3) rfl ?_
  refine Z.bipush B dX12_says_13 (v := nI 6) rfl ?_
  refine Z.icmp_leN B dX12_says_15 (tgt := 24) rfl (by omega) (by omega) (fun h15 => ?_) (fun h15 => by exfalso; first | omega | contradiction | simp_all)
  refine Z.aload_n B dX12_says_24 (v := .ref 45) rfl rfl ?_
  refine Z.getR (σ := σ) B fX12_41_12 dX12_says_25 (hl.n (k := 45) (by decide)) (hl.k (k := 45) (by decide)) (by decide) (j := 54) (hl.r (k := 45) (f := 13) (by decide) (by decide)) ?_
  refine Z.iload_n B dX12_says_28 (x := nI s) rfl ?_
  refine Z.iald (σ := σ) B dX12_says_29 (n := 8) (hl.n (k := 54) (by decide)) (hl.k (k := 54) (by decide)) (hl.l (k := 54) (by decide)) (by decide) (j := s) rfl (by omega) (v := nI 2) hh.1 ?_
  refine Z.iconst B dX12_says_30 (v := nI 1) rfl ?_
  refine Z.icmp_neN B dX12_says_31 (tgt := 41) rfl (by omega) (by omega) (fun h31 => ?_) (fun h31 => by exfalso; first | omega | contradiction | simp_all)
  refine Z.aload_n B dX12_says_41 (v := .ref 45) rfl rfl ?_
  refine Z.getR (σ := σ) B fX12_41_12 dX12_says_42 (hl.n (k := 45) (by decide)) (hl.k (k := 45) (by decide)) (by decide) (j := 54) (hl.r (k := 45) (f := 13) (by decide) (by decide)) ?_
  refine Z.iload_n B dX12_says_45 (x := nI s) rfl ?_
  refine Z.iald (σ := σ) B dX12_says_46 (n := 8) (hl.n (k := 54) (by decide)) (hl.k (k := 54) (by decide)) (hl.l (k := 54) (by decide)) (by decide) (j := s) rfl (by omega) (v := nI 2) hh.1 ?_
  refine Z.if_neN B dX12_says_47 (tgt := 57) rfl (by omega) (fun h47 => ?_) (fun h47 => by exfalso; first | omega | contradiction | simp_all)
  refine Z.aload_n B dX12_says_57 (v := .ref 45) rfl rfl ?_
  refine Z.getR (σ := σ) B fX12_50_12 dX12_says_58 (hl.n (k := 45) (by decide)) (hl.k (k := 45) (by decide)) (by decide) (j := 57) (hl.r (k := 45) (f := 16) (by decide) (by decide)) ?_
  refine Z.iload_n B dX12_says_61 (x := nI s) rfl ?_
  refine Z.iald (σ := σ) B dX12_says_62 (n := 8) (hl.n (k := 57) (by decide)) (hl.k (k := 57) (by decide)) (hl.l (k := 57) (by decide)) (by decide) (j := s) rfl (by omega) (v := nI i8) hh.2.1 ?_
  refine Z.istore_n B dX12_says_63 (by decide) (L' := [(0, .ref 45), (1, .int (nI s)), (2, .int (nI 3)), (3, .int (nI i8))]) rfl ?_
  refine Z.aload_n B dX12_says_64 (v := .ref 45) rfl rfl ?_
  refine Z.getR (σ := σ) B fX12_35_12 dX12_says_65 (hl.n (k := 45) (by decide)) (hl.k (k := 45) (by decide)) (by decide) (j := 52) (hl.r (k := 45) (f := 11) (by decide) (by decide)) ?_
  refine Z.iload_n B dX12_says_68 (x := nI i8) rfl ?_
  refine Z.iald (σ := σ) B dX12_says_69 (n := 8) (hl.n (k := 52) (by decide)) (hl.k (k := 52) (by decide)) (hl.l (k := 52) (by decide)) (by decide) (j := i8) rfl (by omega) (v := nI 0) hw.1 ?_
  refine Z.istore B dX12_says_70 (by decide) (L' := [(0, .ref 45), (1, .int (nI s)), (2, .int (nI 3)), (3, .int (nI i8)), (4, .int (nI 0))]) rfl ?_
  refine Z.iload_n B dX12_says_72 (x := nI 3) rfl ?_
  refine Z.if_eqN B dX12_says_73 (tgt := 112) rfl (by omega) (fun h73 => by exfalso; first | omega | contradiction | simp_all) (fun h73 => ?_)
  refine Z.iload_n B dX12_says_76 (x := nI 3) rfl ?_
  refine Z.iload B dX12_says_77 (x := nI 0) rfl ?_
  refine Z.icmp_eqN B dX12_says_79 (tgt := 112) rfl (by omega) (by omega) (fun h79 => by exfalso; first | omega | contradiction | simp_all) (fun h79 => ?_)
  refine Z.iload_n B dX12_says_82 (x := nI 3) rfl ?_
  refine Z.iconst B dX12_says_83 (v := nI 1) rfl ?_
  refine Z.icmp_neN B dX12_says_84 (tgt := 93) rfl (by omega) (by omega) (fun h84 => ?_) (fun h84 => by exfalso; first | omega | contradiction | simp_all)
  refine Z.iload_n B dX12_says_93 (x := nI 3) rfl ?_
  refine Z.iconst B dX12_says_94 (v := nI 5) rfl ?_
  refine Z.icmp_neN B dX12_says_95 (tgt := 105) rfl (by omega) (by omega) (fun h95 => ?_) (fun h95 => by exfalso; first | omega | contradiction | simp_all)
  refine Z.aload_n B dX12_says_105 (v := .ref 45) rfl rfl ?_
  refine Z.bipush B dX12_says_106 (v := (-2)) rfl ?_
  refine Z.callVI (σ := σ) B (M' := mX12_no) (as := [.int (-2)]) (st := []) (v := .int (-2)) dX12_says_108 wX12_no iX12_no sX12_no kX12_94 (hl.n (k := 45) (by decide)) (hl.k (k := 45) (by decide)) (by decide) rfl rfl (t_X12_no_2 (σ := σ) hl) rfl rfl (by decide) (by decide) (Nat.le_of_ble_eq_true rfl) (by decide) (by decide) ?_
  refine Z.eqσ (τ := (zuX σ 46 (upd (zX σ 46) 2 (zX σ 46 2 + nI 1)))) rfl ?_
  refine Z.iret B Rt dX12_says_111 (ty := .int) rfl rfl (by decide) (by decide) ?_
  exact ⟨rfl, rfl⟩

theorem t_M_says_0_0_4 {σ : zSt} (hl : Lay σ) {n a y : Nat} (H : zMd σ n a y) {od : Nat → Nat} (ho : zMo σ a od) {pos : Nat → Nat} (hpo : zPo a od pos) {s : Nat} (hs : s < 8) {i8 : Nat} (hh : zMa σ s i8) {pa : Nat} (hi : i8 < y) (hw : zMy σ i8 0 pa) (hg : zX σ 45 28 = (-1))  : Dt mX12_says [.ref 45, .int (nI s), .int (nI 4)] σ (some (.int (-2))) (zuX σ 46 (upd (zX σ 46) 2 (zX σ 46 2 + nI 1))) := by
  obtain ⟨-, hn, hn8, ha, ha4, hy, hy8⟩ := id H
  have hi88 := hh.2.2
  have hpa := hw.2.2.2.1
  refine Dt.of (by decide) (Nat.le_of_ble_eq_true rfl) fun κ B Rt => ?_
  show Z κ 0 0 σ 0 [(0, .ref 45), (1, .int (nI s)), (2, .int (nI 4))] []
  refine Z.aload_n B dX12_says_0 (v := .ref 45) rfl rfl ?_
  refine Z.iload_n B dX12_says_1 (x := nI s) rfl ?_
  refine Z.callVI (σ := σ) B (M' := mX12_isShelf) (as := [.int (nI s)]) (st := []) (v := .int (nI 1)) dX12_says_2 wX12_isShelf iX12_isShelf sX12_isShelf kX12_90 (hl.n (k := 45) (by decide)) (hl.k (k := 45) (by decide)) (by decide) rfl rfl (t_X12_isShelf_in (σ := σ) hs) rfl rfl (by decide) (by decide) (Nat.le_of_ble_eq_true rfl) (by decide) (by decide) ?_
  refine Z.if_eqN B dX12_says_5 (tgt := 18) rfl (by omega) (fun h5 => by exfalso; first | omega | contradiction | simp_all) (fun h5 => ?_)
  refine Z.iload_n B dX12_says_8 (x := nI 4) rfl ?_
  refine Z.if_ltN B dX12_says_9 (tgt := 18) rfl (by omega) ?_
  refine Z.iload_n B dX12_says_12 (x := nI 4) rfl ?_
  refine Z.bipush B dX12_says_13 (v := nI 6) rfl ?_
  refine Z.icmp_leN B dX12_says_15 (tgt := 24) rfl (by omega) (by omega) (fun h15 => ?_) (fun h15 => by exfalso; first | omega | contradiction | simp_all)
  refine Z.aload_n B dX12_says_24 (v := .ref 45) rfl rfl ?_
  refine Z.getR (σ := σ) B fX12_41_12 dX12_says_25 (hl.n (k := 45) (by decide)) (hl.k (k := 45) (by decide)) (by decide) (j := 54) (hl.r (k := 45) (f := 13) (by decide) (by decide)) ?_
  refine Z.iload_n B dX12_says_28 (x := nI s) rfl ?_
  refine Z.iald (σ := σ) B dX12_says_29 (n := 8) (hl.n (k := 54) (by decide)) (hl.k (k := 54) (by decide)) (hl.l (k := 54) (by decide)) (by decide) (j := s) rfl (by omega) (v := nI 2) hh.1 ?_
  refine Z.iconst B dX12_says_30 (v := nI 1) rfl ?_
  refine Z.icmp_neN B dX12_says_31 (tgt := 41) rfl (by omega) (by omega) (fun h31 => ?_) (fun h31 => by exfalso; first | omega | contradiction | simp_all)
  refine Z.aload_n B dX12_says_41 (v := .ref 45) rfl rfl ?_
  refine Z.getR (σ := σ) B fX12_41_12 dX12_says_42 (hl.n (k := 45) (by decide)) (hl.k (k := 45) (by decide)) (by decide) (j := 54) (hl.r (k := 45) (f := 13) (by decide) (by decide)) ?_
  refine Z.iload_n B dX12_says_45 (x := nI s) rfl ?_
  refine Z.iald (σ := σ) B dX12_says_46 (n := 8) (hl.n (k := 54) (by decide)) (hl.k (k := 54) (by decide)) (hl.l (k := 54) (by decide)) (by decide) (j := s) rfl (by omega) (v := nI 2) hh.1 ?_
  refine Z.if_neN B dX12_says_47 (tgt := 57) rfl (by omega) (fun h47 => ?_) (fun h47 => by exfalso; first | omega | contradiction | simp_all)
  refine Z.aload_n B dX12_says_57 (v := .ref 45) rfl rfl ?_
  refine Z.getR (σ := σ) B fX12_50_12 dX12_says_58 (hl.n (k := 45) (by decide)) (hl.k (k := 45) (by decide)) (by decide) (j := 57) (hl.r (k := 45) (f := 16) (by decide) (by decide)) ?_
  refine Z.iload_n B dX12_says_61 (x := nI s) rfl ?_
  refine Z.iald (σ := σ) B dX12_says_62 (n := 8) (hl.n (k := 57) (by decide)) (hl.k (k := 57) (by decide)) (hl.l (k := 57) (by decide)) (by decide) (j := s) rfl (by omega) (v := nI i8) hh.2.1 ?_
  refine Z.istore_n B dX12_says_63 (by decide) (L' := [(0, .ref 45), (1, .int (nI s)), (2, .int (nI 4)), (3, .int (nI i8))]) rfl ?_
  refine Z.aload_n B dX12_says_64 (v := .ref 45) rfl rfl ?_
  refine Z.getR (σ := σ) B fX12_35_12 dX12_says_65 (hl.n (k := 45) (by decide)) (hl.k (k := 45) (by decide)) (by decide) (j := 52) (hl.r (k := 45) (f := 11) (by decide) (by decide)) ?_
  refine Z.iload_n B dX12_says_68 (x := nI i8) rfl ?_
  refine Z.iald (σ := σ) B dX12_says_69 (n := 8) (hl.n (k := 52) (by decide)) (hl.k (k := 52) (by decide)) (hl.l (k := 52) (by decide)) (by decide) (j := i8) rfl (by omega) (v := nI 0) hw.1 ?_
  refine Z.istore B dX12_says_70 (by decide) (L' := [(0, .ref 45), (1, .int (nI s)), (2, .int (nI 4)), (3, .int (nI i8)), (4, .int (nI 0))]) rfl ?_
  refine Z.iload_n B dX12_says_72 (x := nI 4) rfl ?_
  refine Z.if_eqN B dX12_says_73 (tgt := 112) rfl (by omega) (fun h73 => by exfalso; first | omega | contradiction | simp_all) (fun h73 => ?_)
  refine Z.iload_n B dX12_says_76 (x := nI 4) rfl ?_
  refine Z.iload B dX12_says_77 (x := nI 0) rfl ?_
  refine Z.icmp_eqN B dX12_says_79 (tgt := 112) rfl (by omega) (by omega) (fun h79 => by exfalso; first | omega | contradiction | simp_all) (fun h79 => ?_)
  refine Z.iload_n B dX12_says_82 (x := nI 4) rfl ?_
  refine Z.iconst B dX12_says_83 (v := nI 1) rfl ?_
  refine Z.icmp_neN B dX12_says_84 (tgt := 93) rfl (by omega) (by omega) (fun h84 => ?_) (fun h84 => by exfalso; first | omega | contradiction | simp_all)
  refine Z.iload_n B dX12_says_93 (x := nI 4) rfl ?_
  refine Z.iconst B dX12_says_94 (v := nI 5) rfl ?_
  refine Z.icmp_neN B dX12_says_95 (tgt := 105) rfl (by omega) (by omega) (fun h95 => ?_) (fun h95 => by exfalso; first | omega | contradiction | simp_all)
  refine Z.aload_n B dX12_says_105 (v := .ref 45) rfl rfl ?_
  refine Z.bipush B dX12_says_106 (v := (-2)) rfl ?_
  refine Z.callVI (σ := σ) B (M' := mX12_no) (as := [.int (-2)]) (st := []) (v := .int (-2)) dX12_says_108 wX12_no iX12_no sX12_no kX12_94 (hl.n (k := 45) (by decide)) (hl.k (k := 45) (by decide)) (by decide) rfl rfl (t_X12_no_2 (σ := σ) hl) rfl rfl (by decide) (by decide) (Nat.le_of_ble_eq_true rfl) (by decide) (by decide) ?_
  refine Z.eqσ (τ := (zuX σ 46 (upd (zX σ 46) 2 (zX σ 46 2 + nI 1)))) rfl ?_
  refine Z.iret B Rt dX12_says_111 (ty := .int) rfl rfl (by decide) (by decide) ?_
  exact ⟨rfl, rfl⟩

theorem t_M_says_0_0_5 {σ : zSt} (hl : Lay σ) {n a y : Nat} (H : zMd σ n a y) {od : Nat → Nat} (ho : zMo σ a od) {pos : Nat → Nat} (hpo : zPo a od pos) {s : Nat} (hs : s < 8) {i8 : Nat} (hh : zMa σ s i8) {pa : Nat} (hi : i8 < y) (hw : zMy σ i8 0 pa) (hg : zX σ 45 28 = (-1))  : Dt mX12_says [.ref 45, .int (nI s), .int (nI 5)] σ (some (.int (-2))) (zuX σ 46 (upd (zX σ 46) 2 (zX σ 46 2 + nI 1))) := by
  obtain ⟨-, hn, hn8, ha, ha4, hy, hy8⟩ := id H
  have hi88 := hh.2.2
  have hpa := hw.2.2.2.1
  refine Dt.of (by decide) (Nat.le_of_ble_eq_true rfl) fun κ B Rt => ?_
  show Z κ 0 0 σ 0 [(0, .ref 45), (1, .int (nI s)), (2, .int (nI 5))] []
  refine Z.aload_n B dX12_says_0 (v := .ref 45) rfl rfl ?_
  refine Z.iload_n B dX12_says_1 (x := nI s) rfl ?_
  refine Z.callVI (σ := σ) B (M' := mX12_isShelf) (as := [.int (nI s)]) (st := []) (v := .int (nI 1)) dX12_says_2 wX12_isShelf iX12_isShelf sX12_isShelf kX12_90 (hl.n (k := 45) (by decide)) (hl.k (k := 45) (by decide)) (by decide) rfl rfl (t_X12_isShelf_in (σ := σ) hs) rfl rfl (by decide) (by decide) (Nat.le_of_ble_eq_true rfl) (by decide) (by decide) ?_
  refine Z.if_eqN B dX12_says_5 (tgt := 18) rfl (by omega) (fun h5 => by exfalso; first | omega | contradiction | simp_all) (fun h5 => ?_)
  refine Z.iload_n B dX12_says_8 (x := nI 5) rfl ?_
  refine Z.if_ltN B dX12_says_9 (tgt := 18) rfl (by omega) ?_
  refine Z.iload_n B dX12_says_12 (x := nI 5) rfl ?_
  refine Z.bipush B dX12_says_13 (v := nI 6) rfl ?_
  refine Z.icmp_leN B dX12_says_15 (tgt := 24) rfl (by omega) (by omega) (fun h15 => ?_) (fun h15 => by exfalso; first | omega | contradiction | simp_all)
  refine Z.aload_n B dX12_says_24 (v := .ref 45) rfl rfl ?_
  refine Z.getR (σ := σ) B fX12_41_12 dX12_says_25 (hl.n (k := 45) (by decide)) (hl.k (k := 45) (by decide)) (by decide) (j := 54) (hl.r (k := 45) (f := 13) (by decide) (by decide)) ?_
  refine Z.iload_n B dX12_says_28 (x := nI s) rfl ?_
  refine Z.iald (σ := σ) B dX12_says_29 (n := 8) (hl.n (k := 54) (by decide)) (hl.k (k := 54) (by decide)) (hl.l (k := 54) (by decide)) (by decide) (j := s) rfl (by omega) (v := nI 2) hh.1 ?_
  refine Z.iconst B dX12_says_30 (v := nI 1) rfl ?_
  refine Z.icmp_neN B dX12_says_31 (tgt := 41) rfl (by omega) (by omega) (fun h31 => ?_) (fun h31 => by exfalso; first | omega | contradiction | simp_all)
  refine Z.aload_n B dX12_says_41 (v := .ref 45) rfl rfl ?_
  refine Z.getR (σ := σ) B fX12_41_12 dX12_says_42 (hl.n (k := 45) (by decide)) (hl.k (k := 45) (by decide)) (by decide) (j := 54) (hl.r (k := 45) (f := 13) (by decide) (by decide)) ?_
  refine Z.iload_n B dX12_says_45 (x := nI s) rfl ?_
  refine Z.iald (σ := σ) B dX12_says_46 (n := 8) (hl.n (k := 54) (by decide)) (hl.k (k := 54) (by decide)) (hl.l (k := 54) (by decide)) (by decide) (j := s) rfl (by omega) (v := nI 2) hh.1 ?_
  refine Z.if_neN B dX12_says_47 (tgt := 57) rfl (by omega) (fun h47 => ?_) (fun h47 => by exfalso; first | omega | contradiction | simp_all)
  refine Z.aload_n B dX12_says_57 (v := .ref 45) rfl rfl ?_
  refine Z.getR (σ := σ) B fX12_50_12 dX12_says_58 (hl.n (k := 45) (by decide)) (hl.k (k := 45) (by decide)) (by decide) (j := 57) (hl.r (k := 45) (f := 16) (by decide) (by decide)) ?_
  refine Z.iload_n B dX12_says_61 (x := nI s) rfl ?_
  refine Z.iald (σ := σ) B dX12_says_62 (n := 8) (hl.n (k := 57) (by decide)) (hl.k (k := 57) (by decide)) (hl.l (k := 57) (by decide)) (by decide) (j := s) rfl (by omega) (v := nI i8) hh.2.1 ?_
  refine Z.istore_n B dX12_says_63 (by decide) (L' := [(0, .ref 45), (1, .int (nI s)), (2, .int (nI 5)), (3, .int (nI i8))]) rfl ?_
  refine Z.aload_n B dX12_says_64 (v := .ref 45) rfl rfl ?_
  refine Z.getR (σ := σ) B fX12_35_12 dX12_says_65 (hl.n (k := 45) (by decide)) (hl.k (k := 45) (by decide)) (by decide) (j := 52) (hl.r (k := 45) (f := 11) (by decide) (by decide)) ?_
  refine Z.iload_n B dX12_says_68 (x := nI i8) rfl ?_
  refine Z.iald (σ := σ) B dX12_says_69 (n := 8) (hl.n (k := 52) (by decide)) (hl.k (k := 52) (by decide)) (hl.l (k := 52) (by decide)) (by decide) (j := i8) rfl (by omega) (v := nI 0) hw.1 ?_
  refine Z.istore B dX12_says_70 (by decide) (L' := [(0, .ref 45), (1, .int (nI s)), (2, .int (nI 5)), (3, .int (nI i8)), (4, .int (nI 0))]) rfl ?_
  refine Z.iload_n B dX12_says_72 (x := nI 5) rfl ?_
  refine Z.if_eqN B dX12_says_73 (tgt := 112) rfl (by omega) (fun h73 => by exfalso; first | omega | contradiction | simp_all) (fun h73 => ?_)
  refine Z.iload_n B dX12_says_76 (x := nI 5) rfl ?_
  refine Z.iload B dX12_says_77 (x := nI 0) rfl ?_
  refine Z.icmp_eqN B dX12_says_79 (tgt := 112) rfl (by omega) (by omega) (fun h79 => by exfalso; first | omega | contradiction | simp_all) (fun h79 => ?_)
  refine Z.iload_n B dX12_says_82 (x := nI 5) rfl ?_
  refine Z.iconst B dX12_says_83 (v := nI 1) rfl ?_
  refine Z.icmp_neN B dX12_says_84 (tgt := 93) rfl (by omega) (by omega) (fun h84 => ?_) (fun h84 => by exfalso; first | omega | contradiction | simp_all)
  refine Z.iload_n B dX12_says_93 (x := nI 5) rfl ?_
  refine Z.iconst B dX12_says_94 (v := nI 5) rfl ?_
  refine Z.icmp_neN B dX12_says_95 (tgt := 105) rfl (by omega) (by omega) (fun h95 => by exfalso; first | omega | contradiction | simp_all) (fun h95 => ?_)
  refine Z.iload B dX12_says_98 (x := nI 0) rfl ?_
  refine Z.bipush B dX12_says_100 (v := nI 6) rfl ?_
  refine Z.icmp_eqN B dX12_says_102 (tgt := 112) rfl (by omega) (by omega) (fun h102 => by exfalso; first | omega | contradiction | simp_all) (fun h102 => ?_)
  refine Z.aload_n B dX12_says_105 (v := .ref 45) rfl rfl ?_
  refine Z.bipush B dX12_says_106 (v := (-2)) rfl ?_
  refine Z.callVI (σ := σ) B (M' := mX12_no) (as := [.int (-2)]) (st := []) (v := .int (-2)) dX12_says_108 wX12_no iX12_no sX12_no kX12_94 (hl.n (k := 45) (by decide)) (hl.k (k := 45) (by decide)) (by decide) rfl rfl (t_X12_no_2 (σ := σ) hl) rfl rfl (by decide) (by decide) (Nat.le_of_ble_eq_true rfl) (by decide) (by decide) ?_
  refine Z.eqσ (τ := (zuX σ 46 (upd (zX σ 46) 2 (zX σ 46 2 + nI 1)))) rfl ?_
  refine Z.iret B Rt dX12_says_111 (ty := .int) rfl rfl (by decide) (by decide) ?_
  exact ⟨rfl, rfl⟩

theorem t_M_says_0_0_6 {σ : zSt} (hl : Lay σ) {n a y : Nat} (H : zMd σ n a y) {od : Nat → Nat} (ho : zMo σ a od) {pos : Nat → Nat} (hpo : zPo a od pos) {s : Nat} (hs : s < 8) {i8 : Nat} (hh : zMa σ s i8) {pa : Nat} (hi : i8 < y) (hw : zMy σ i8 0 pa) (hg : zX σ 45 28 = (-1))  : Dt mX12_says [.ref 45, .int (nI s), .int (nI 6)] σ (some (.int (-2))) (zuX σ 46 (upd (zX σ 46) 2 (zX σ 46 2 + nI 1))) := by
  obtain ⟨-, hn, hn8, ha, ha4, hy, hy8⟩ := id H
  have hi88 := hh.2.2
  have hpa := hw.2.2.2.1
  refine Dt.of (by decide) (Nat.le_of_ble_eq_true rfl) fun κ B Rt => ?_
  show Z κ 0 0 σ 0 [(0, .ref 45), (1, .int (nI s)), (2, .int (nI 6))] []
  refine Z.aload_n B dX12_says_0 (v := .ref 45) rfl rfl ?_
  refine Z.iload_n B dX12_says_1 (x := nI s) rfl ?_
  refine Z.callVI (σ := σ) B (M' := mX12_isShelf) (as := [.int (nI s)]) (st := []) (v := .int (nI 1)) dX12_says_2 wX12_isShelf iX12_isShelf sX12_isShelf kX12_90 (hl.n (k := 45) (by decide)) (hl.k (k := 45) (by decide)) (by decide) rfl rfl (t_X12_isShelf_in (σ := σ) hs) rfl rfl (by decide) (by decide) (Nat.le_of_ble_eq_true rfl) (by decide) (by decide) ?_
  refine Z.if_eqN B dX12_says_5 (tgt := 18) rfl (by omega) (fun h5 => by exfalso; first | omega | contradiction | simp_all) (fun h5 => ?_)
  refine Z.iload_n B dX12_says_8 (x := nI 6) rfl ?_
  refine Z.if_ltN B dX12_says_9 (tgt := 18) rfl (by omega) ?_
  refine Z.iload_n B dX12_says_12 (x := nI 6) rfl ?_
  refine Z.bipush B dX12_says_13 (v := nI 6) rfl ?_
  refine Z.icmp_leN B dX12_says_15 (tgt := 24) rfl (by omega) (by omega) (fun h15 => ?_) (fun h15 => by exfalso; first | omega | contradiction | simp_all)
  refine Z.aload_n B dX12_says_24 (v := .ref 45) rfl rfl ?_
  refine Z.getR (σ := σ) B fX12_41_12 dX12_says_25 (hl.n (k := 45) (by decide)) (hl.k (k := 45) (by decide)) (by decide) (j := 54) (hl.r (k := 45) (f := 13) (by decide) (by decide)) ?_
  refine Z.iload_n B dX12_says_28 (x := nI s) rfl ?_
  refine Z.iald (σ := σ) B dX12_says_29 (n := 8) (hl.n (k := 54) (by decide)) (hl.k (k := 54) (by decide)) (hl.l (k := 54) (by decide)) (by decide) (j := s) rfl (by omega) (v := nI 2) hh.1 ?_
  refine Z.iconst B dX12_says_30 (v := nI 1) rfl ?_
  refine Z.icmp_neN B dX12_says_31 (tgt := 41) rfl (by omega) (by omega) (fun h31 => ?_) (fun h31 => by exfalso; first | omega | contradiction | simp_all)
  refine Z.aload_n B dX12_says_41 (v := .ref 45) rfl rfl ?_
  refine Z.getR (σ := σ) B fX12_41_12 dX12_says_42 (hl.n (k := 45) (by decide)) (hl.k (k := 45) (by decide)) (by decide) (j := 54) (hl.r (k := 45) (f := 13) (by decide) (by decide)) ?_
  refine Z.iload_n B dX12_says_45 (x := nI s) rfl ?_
  refine Z.iald (σ := σ) B dX12_says_46 (n := 8) (hl.n (k := 54) (by decide)) (hl.k (k := 54) (by decide)) (hl.l (k := 54) (by decide)) (by decide) (j := s) rfl (by omega) (v := nI 2) hh.1 ?_
  refine Z.if_neN B dX12_says_47 (tgt := 57) rfl (by omega) (fun h47 => ?_) (fun h47 => by exfalso; first | omega | contradiction | simp_all)
  refine Z.aload_n B dX12_says_57 (v := .ref 45) rfl rfl ?_
  refine Z.getR (σ := σ) B fX12_50_12 dX12_says_58 (hl.n (k := 45) (by decide)) (hl.k (k := 45) (by decide)) (by decide) (j := 57) (hl.r (k := 45) (f := 16) (by decide) (by decide)) ?_
  refine Z.iload_n B dX12_says_61 (x := nI s) rfl ?_
  refine Z.iald (σ := σ) B dX12_says_62 (n := 8) (hl.n (k := 57) (by decide)) (hl.k (k := 57) (by decide)) (hl.l (k := 57) (by decide)) (by decide) (j := s) rfl (by omega) (v := nI i8) hh.2.1 ?_
  refine Z.istore_n B dX12_says_63 (by decide) (L' := [(0, .ref 45), (1, .int (nI s)), (2, .int (nI 6)), (3, .int (nI i8))]) rfl ?_
  refine Z.aload_n B dX12_says_64 (v := .ref 45) rfl rfl ?_
  refine Z.getR (σ := σ) B fX12_35_12 dX12_says_65 (hl.n (k := 45) (by decide)) (hl.k (k := 45) (by decide)) (by decide) (j := 52) (hl.r (k := 45) (f := 11) (by decide) (by decide)) ?_
  refine Z.iload_n B dX12_says_68 (x := nI i8) rfl ?_
  refine Z.iald (σ := σ) B dX12_says_69 (n := 8) (hl.n (k := 52) (by decide)) (hl.k (k := 52) (by decide)) (hl.l (k := 52) (by decide)) (by decide) (j := i8) rfl (by omega) (v := nI 0) hw.1 ?_
  refine Z.istore B dX12_says_70 (by decide) (L' := [(0, .ref 45), (1, .int (nI s)), (2, .int (nI 6)), (3, .int (nI i8)), (4, .int (nI 0))]) rfl ?_
  refine Z.iload_n B dX12_says_72 (x := nI 6) rfl ?_
  refine Z.if_eqN B dX12_says_73 (tgt := 112) rfl (by omega) (fun h73 => by exfalso; first | omega | contradiction | simp_all) (fun h73 => ?_)
  refine Z.iload_n B dX12_says_76 (x := nI 6) rfl ?_
  refine Z.iload B dX12_says_77 (x := nI 0) rfl ?_
  refine Z.icmp_eqN B dX12_says_79 (tgt := 112) rfl (by omega) (by omega) (fun h79 => by exfalso; first | omega | contradiction | simp_all) (fun h79 => ?_)
  refine Z.iload_n B dX12_says_82 (x := nI 6) rfl ?_
  refine Z.iconst B dX12_says_83 (v := nI 1) rfl ?_
  refine Z.icmp_neN B dX12_says_84 (tgt := 93) rfl (by omega) (by omega) (fun h84 => ?_) (fun h84 => by exfalso; first | omega | contradiction | simp_all)
  refine Z.iload_n B dX12_says_93 (x := nI 6) rfl ?_
  refine Z.iconst B dX12_says_94 (v := nI 5) rfl ?_
  refine Z.icmp_neN B dX12_says_95 (tgt := 105) rfl (by omega) (by omega) (fun h95 => ?_) (fun h95 => by exfalso; first | omega | contradiction | simp_all)
  refine Z.aload_n B dX12_says_105 (v := .ref 45) rfl rfl ?_
  refine Z.bipush B dX12_says_106 (v := (-2)) rfl ?_
  refine Z.callVI (σ := σ) B (M' := mX12_no) (as := [.int (-2)]) (st := []) (v := .int (-2)) dX12_says_108 wX12_no iX12_no sX12_no kX12_94 (hl.n (k := 45) (by decide)) (hl.k (k := 45) (by decide)) (by decide) rfl rfl (t_X12_no_2 (σ := σ) hl) rfl rfl (by decide) (by decide) (Nat.le_of_ble_eq_true rfl) (by decide) (by decide) ?_
  refine Z.eqσ (τ := (zuX σ 46 (upd (zX σ 46) 2 (zX σ 46 2 + nI 1)))) rfl ?_
  refine Z.iret B Rt dX12_says_111 (ty := .int) rfl rfl (by decide) (by decide) ?_
  exact ⟨rfl, rfl⟩

theorem t_M_says_0_1_0 {σ : zSt} (hl : Lay σ) {n a y : Nat} (H : zMd σ n a y) {od : Nat → Nat} (ho : zMo σ a od) {pos : Nat → Nat} (hpo : zPo a od pos) {s : Nat} (hs : s < 8) {i8 : Nat} (hh : zMa σ s i8) {pa : Nat} (hi : i8 < y) (hw : zMy σ i8 1 pa) (hg : zX σ 45 28 = (-1))  : Dt mX12_says [.ref 45, .int (nI s), .int (nI 0)] σ (some (.int (nI pa))) σ := by
  obtain ⟨-, hn, hn8, ha, ha4, hy, hy8⟩ := id H
  have hi88 := hh.2.2
  have hpa := hw.2.2.2.1
  refine Dt.of (by decide) (Nat.le_of_ble_eq_true rfl) fun κ B Rt => ?_
  show Z κ 0 0 σ 0 [(0, .ref 45), (1, .int (nI s)), (2, .int (nI 0))] []
  refine Z.aload_n B dX12_says_0 (v := .ref 45) rfl rfl ?_
  refine Z.iload_n B dX12_says_1 (x := nI s) rfl ?_
  refine Z.callVI (σ := σ) B (M' := mX12_isShelf) (as := [.int (nI s)]) (st := []) (v := .int (nI 1)) dX12_says_2 wX12_isShelf iX12_isShelf sX12_isShelf kX12_90 (hl.n (k := 45) (by decide)) (hl.k (k := 45) (by decide)) (by decide) rfl rfl (t_X12_isShelf_in (σ := σ) hs) rfl rfl (by decide) (by decide) (Nat.le_of_ble_eq_true rfl) (by decide) (by decide) ?_
  refine Z.if_eqN B dX12_says_5 (tgt := 18) rfl (by omega) (fun h5 => by exfalso; first | omega | contradiction | simp_all) (fun h5 => ?_)
  refine Z.iload_n B dX12_says_8 (x := nI 0) rfl ?_
  refine Z.if_ltN B dX12_says_9 (tgt := 18) rfl (by omega) ?_
  refine Z.iload_n B dX12_says_12 (x := nI 0) rfl ?_
  refine Z.bipush B dX12_says_13 (v := nI 6) rfl ?_
  refine Z.icmp_leN B dX12_says_15 (tgt := 24) rfl (by omega) (by omega) (fun h15 => ?_) (fun h15 => by exfalso; first | omega | contradiction | simp_all)
  refine Z.aload_n B dX12_says_24 (v := .ref 45) rfl rfl ?_
  refine Z.getR (σ := σ) B fX12_41_12 dX12_says_25 (hl.n (k := 45) (by decide)) (hl.k (k := 45) (by decide)) (by decide) (j := 54) (hl.r (k := 45) (f := 13) (by decide) (by decide)) ?_
  refine Z.iload_n B dX12_says_28 (x := nI s) rfl ?_
  refine Z.iald (σ := σ) B dX12_says_29 (n := 8) (hl.n (k := 54) (by decide)) (hl.k (k := 54) (by decide)) (hl.l (k := 54) (by decide)) (by decide) (j := s) rfl (by omega) (v := nI 2) hh.1 ?_
  refine Z.iconst B dX12_says_30 (v := nI 1) rfl ?_
  refine Z.icmp_neN B dX12_says_31 (tgt := 41) rfl (by omega) (by omega) (fun h31 => ?_) (fun h31 => by exfalso; first | omega | contradiction | simp_all)
  refine Z.aload_n B dX12_says_41 (v := .ref 45) rfl rfl ?_
  refine Z.getR (σ := σ) B fX12_41_12 dX12_says_42 (hl.n (k := 45) (by decide)) (hl.k (k := 45) (by decide)) (by decide) (j := 54) (hl.r (k := 45) (f := 13) (by decide) (by decide)) ?_
  refine Z.iload_n B dX12_says_45 (x := nI s) rfl ?_
  refine Z.iald (σ := σ) B dX12_says_46 (n := 8) (hl.n (k := 54) (by decide)) (hl.k (k := 54) (by decide)) (hl.l (k := 54) (by decide)) (by decide) (j := s) rfl (by omega) (v := nI 2) hh.1 ?_
  refine Z.if_neN B dX12_says_47 (tgt := 57) rfl (by omega) (fun h47 => ?_) (fun h47 => by exfalso; first | omega | contradiction | simp_all)
  refine Z.aload_n B dX12_says_57 (v := .ref 45) rfl rfl ?_
  refine Z.getR (σ := σ) B fX12_50_12 dX12_says_58 (hl.n (k := 45) (by decide)) (hl.k (k := 45) (by decide)) (by decide) (j := 57) (hl.r (k := 45) (f := 16) (by decide) (by decide)) ?_
  refine Z.iload_n B dX12_says_61 (x := nI s) rfl ?_
  refine Z.iald (σ := σ) B dX12_says_62 (n := 8) (hl.n (k := 57) (by decide)) (hl.k (k := 57) (by decide)) (hl.l (k := 57) (by decide)) (by decide) (j := s) rfl (by omega) (v := nI i8) hh.2.1 ?_
  refine Z.istore_n B dX12_says_63 (by decide) (L' := [(0, .ref 45), (1, .int (nI s)), (2, .int (nI 0)), (3, .int (nI i8))]) rfl ?_
  refine Z.aload_n B dX12_says_64 (v := .ref 45) rfl rfl ?_
  refine Z.getR (σ := σ) B fX12_35_12 dX12_says_65 (hl.n (k := 45) (by decide)) (hl.k (k := 45) (by decide)) (by decide) (j := 52) (hl.r (k := 45) (f := 11) (by decide) (by decide)) ?_
  refine Z.iload_n B dX12_says_68 (x := nI i8) rfl ?_
  refine Z.iald (σ := σ) B dX12_says_69 (n := 8) (hl.n (k := 52) (by decide)) (hl.k (k := 52) (by decide)) (hl.l (k := 52) (by decide)) (by decide) (j := i8) rfl (by omega) (v := nI 1) hw.1 ?_
  refine Z.istore B dX12_says_70 (by decide) (L' := [(0, .ref 45), (1, .int (nI s)), (2, .int (nI 0)), (3, .int (nI i8)), (4, .int (nI 1))]) rfl ?_
  refine Z.iload_n B dX12_says_72 (x := nI 0) rfl ?_
  refine Z.if_eqN B dX12_says_73 (tgt := 112) rfl (by omega) (fun h73 => ?_) (fun h73 => by exfalso; first | omega | contradiction | simp_all)
  refine Z.iload_n B dX12_says_112 (x := nI 0) rfl ?_
  refine Z.tabIn B dX12_says_113 (by decide) (by decide) (off := 43) (by decide) (tgt := 156) rfl ?_
  refine Z.aload_n B dX12_says_156 (v := .ref 45) rfl rfl ?_
  refine Z.getR (σ := σ) B fX12_38_12 dX12_says_157 (hl.n (k := 45) (by decide)) (hl.k (k := 45) (by decide)) (by decide) (j := 53) (hl.r (k := 45) (f := 12) (by decide) (by decide)) ?_
  refine Z.iload_n B dX12_says_160 (x := nI i8) rfl ?_
  refine Z.iald (σ := σ) B dX12_says_161 (n := 8) (hl.n (k := 53) (by decide)) (hl.k (k := 53) (by decide)) (hl.l (k := 53) (by decide)) (by decide) (j := i8) rfl (by omega) (v := nI pa) hw.2.1 ?_
  refine Z.iret B Rt dX12_says_162 (ty := .int) rfl rfl (by decide) (by decide) ?_
  exact ⟨rfl, rfl⟩

theorem t_M_says_0_1_1 {σ : zSt} (hl : Lay σ) {n a y : Nat} (H : zMd σ n a y) {od : Nat → Nat} (ho : zMo σ a od) {pos : Nat → Nat} (hpo : zPo a od pos) {s : Nat} (hs : s < 8) {i8 : Nat} (hh : zMa σ s i8) {pa : Nat} (hi : i8 < y) (hw : zMy σ i8 1 pa) (hg : zX σ 45 28 = (-1))  : Dt mX12_says [.ref 45, .int (nI s), .int (nI 1)] σ (some (.int (nI (pa % 11)))) σ := by
  obtain ⟨-, hn, hn8, ha, ha4, hy, hy8⟩ := id H
  have hi88 := hh.2.2
  have hpa := hw.2.2.2.1
  refine Dt.of (by decide) (Nat.le_of_ble_eq_true rfl) fun κ B Rt => ?_
  show Z κ 0 0 σ 0 [(0, .ref 45), (1, .int (nI s)), (2, .int (nI 1))] []
  refine Z.aload_n B dX12_says_0 (v := .ref 45) rfl rfl ?_
  refine Z.iload_n B dX12_says_1 (x := nI s) rfl ?_
  refine Z.callVI (σ := σ) B (M' := mX12_isShelf) (as := [.int (nI s)]) (st := []) (v := .int (nI 1)) dX12_says_2 wX12_isShelf iX12_isShelf sX12_isShelf kX12_90 (hl.n (k := 45) (by decide)) (hl.k (k := 45) (by decide)) (by decide) rfl rfl (t_X12_isShelf_in (σ := σ) hs) rfl rfl (by decide) (by decide) (Nat.le_of_ble_eq_true rfl) (by decide) (by decide) ?_
  refine Z.if_eqN B dX12_says_5 (tgt := 18) rfl (by omega) (fun h5 => by exfalso; first | omega | contradiction | simp_all) (fun h5 => ?_)
  refine Z.iload_n B dX12_says_8 (x := nI 1) rfl ?_
  refine Z.if_ltN B dX12_says_9 (tgt := 18) rfl (by omega) ?_
  refine Z.iload_n B dX12_says_12 (x := nI 1) rfl ?_
  refine Z.bipush B dX12_says_13 (v := nI 6) rfl ?_
  refine Z.icmp_leN B dX12_says_15 (tgt := 24) rfl (by omega) (by omega) (fun h15 => ?_) (fun h15 => by exfalso; first | omega | contradiction | simp_all)
  refine Z.aload_n B dX12_says_24 (v := .ref 45) rfl rfl ?_
  refine Z.getR (σ := σ) B fX12_41_12 dX12_says_25 (hl.n (k := 45) (by decide)) (hl.k (k := 45) (by decide)) (by decide) (j := 54) (hl.r (k := 45) (f := 13) (by decide) (by decide)) ?_
  refine Z.iload_n B dX12_says_28 (x := nI s) rfl ?_
  refine Z.iald (σ := σ) B dX12_says_29 (n := 8) (hl.n (k := 54) (by decide)) (hl.k (k := 54) (by decide)) (hl.l (k := 54) (by decide)) (by decide) (j := s) rfl (by omega) (v := nI 2) hh.1 ?_
  refine Z.iconst B dX12_says_30 (v := nI 1) rfl ?_
  refine Z.icmp_neN B dX12_says_31 (tgt := 41) rfl (by omega) (by omega) (fun h31 => ?_) (fun h31 => by exfalso; first | omega | contradiction | simp_all)
  refine Z.aload_n B dX12_says_41 (v := .ref 45) rfl rfl ?_
  refine Z.getR (σ := σ) B fX12_41_12 dX12_says_42 (hl.n (k := 45) (by decide)) (hl.k (k := 45) (by decide)) (by decide) (j := 54) (hl.r (k := 45) (f := 13) (by decide) (by decide)) ?_
  refine Z.iload_n B dX12_says_45 (x := nI s) rfl ?_
  refine Z.iald (σ := σ) B dX12_says_46 (n := 8) (hl.n (k := 54) (by decide)) (hl.k (k := 54) (by decide)) (hl.l (k := 54) (by decide)) (by decide) (j := s) rfl (by omega) (v := nI 2) hh.1 ?_
  refine Z.if_neN B dX12_says_47 (tgt := 57) rfl (by omega) (fun h47 => ?_) (fun h47 => by exfalso; first | omega | contradiction | simp_all)
  refine Z.aload_n B dX12_says_57 (v := .ref 45) rfl rfl ?_
  refine Z.getR (σ := σ) B fX12_50_12 dX12_says_58 (hl.n (k := 45) (by decide)) (hl.k (k := 45) (by decide)) (by decide) (j := 57) (hl.r (k := 45) (f := 16) (by decide) (by decide)) ?_
  refine Z.iload_n B dX12_says_61 (x := nI s) rfl ?_
  refine Z.iald (σ := σ) B dX12_says_62 (n := 8) (hl.n (k := 57) (by decide)) (hl.k (k := 57) (by decide)) (hl.l (k := 57) (by decide)) (by decide) (j := s) rfl (by omega) (v := nI i8) hh.2.1 ?_
  refine Z.istore_n B dX12_says_63 (by decide) (L' := [(0, .ref 45), (1, .int (nI s)), (2, .int (nI 1)), (3, .int (nI i8))]) rfl ?_
  refine Z.aload_n B dX12_says_64 (v := .ref 45) rfl rfl ?_
  refine Z.getR (σ := σ) B fX12_35_12 dX12_says_65 (hl.n (k := 45) (by decide)) (hl.k (k := 45) (by decide)) (by decide) (j := 52) (hl.r (k := 45) (f := 11) (by decide) (by decide)) ?_
  refine Z.iload_n B dX12_says_68 (x := nI i8) rfl ?_
  refine Z.iald (σ := σ) B dX12_says_69 (n := 8) (hl.n (k := 52) (by decide)) (hl.k (k := 52) (by decide)) (hl.l (k := 52) (by decide)) (by decide) (j := i8) rfl (by omega) (v := nI 1) hw.1 ?_
  refine Z.istore B dX12_says_70 (by decide) (L' := [(0, .ref 45), (1, .int (nI s)), (2, .int (nI 1)), (3, .int (nI i8)), (4, .int (nI 1))]) rfl ?_
  refine Z.iload_n B dX12_says_72 (x := nI 1) rfl ?_
  refine Z.if_eqN B dX12_says_73 (tgt := 112) rfl (by omega) (fun h73 => by exfalso; first | omega | contradiction | simp_all) (fun h73 => ?_)
  refine Z.iload_n B dX12_says_76 (x := nI 1) rfl ?_
  refine Z.iload B dX12_says_77 (x := nI 1) rfl ?_
  refine Z.icmp_eqN B dX12_says_79 (tgt := 112) rfl (by omega) (by omega) (fun h79 => ?_) (fun h79 => by exfalso; first | omega | contradiction | simp_all)
  refine Z.iload_n B dX12_says_112 (x := nI 1) rfl ?_
  refine Z.tabIn B dX12_says_113 (by decide) (by decide) (off := 206) (by decide) (tgt := 319) rfl ?_
  refine Z.aload_n B dX12_says_319 (v := .ref 45) rfl rfl ?_
  refine Z.iload_n B dX12_says_320 (x := nI i8) rfl ?_
  refine Z.callVI (σ := σ) B (M' := mX12_feeling) (as := [.int (nI i8)]) (st := []) (v := .int (nI (pa % 11))) dX12_says_321 wX12_feeling iX12_feeling sX12_feeling kX12_108 (hl.n (k := 45) (by decide)) (hl.k (k := 45) (by decide)) (by decide) rfl rfl (t_X12_feeling_1 (σ := σ) H hw) rfl rfl (by decide) (by decide) (Nat.le_of_ble_eq_true rfl) (by decide) (by decide) ?_
  refine Z.iret B Rt dX12_says_324 (ty := .int) rfl rfl (by decide) (by decide) ?_
  exact ⟨rfl, rfl⟩

theorem t_M_says_0_1_2 {σ : zSt} (hl : Lay σ) {n a y : Nat} (H : zMd σ n a y) {od : Nat → Nat} (ho : zMo σ a od) {pos : Nat → Nat} (hpo : zPo a od pos) {s : Nat} (hs : s < 8) {i8 : Nat} (hh : zMa σ s i8) {pa : Nat} (hi : i8 < y) (hw : zMy σ i8 1 pa) (hg : zX σ 45 28 = (-1))  : Dt mX12_says [.ref 45, .int (nI s), .int (nI 2)] σ (some (.int (-2))) (zuX σ 46 (upd (zX σ 46) 2 (zX σ 46 2 + nI 1))) := by
  obtain ⟨-, hn, hn8, ha, ha4, hy, hy8⟩ := id H
  have hi88 := hh.2.2
  have hpa := hw.2.2.2.1
  refine Dt.of (by decide) (Nat.le_of_ble_eq_true rfl) fun κ B Rt => ?_
  show Z κ 0 0 σ 0 [(0, .ref 45), (1, .int (nI s)), (2, .int (nI 2))] []
  refine Z.aload_n B dX12_says_0 (v := .ref 45) rfl rfl ?_
  refine Z.iload_n B dX12_says_1 (x := nI s) rfl ?_
  refine Z.callVI (σ := σ) B (M' := mX12_isShelf) (as := [.int (nI s)]) (st := []) (v := .int (nI 1)) dX12_says_2 wX12_isShelf iX12_isShelf sX12_isShelf kX12_90 (hl.n (k := 45) (by decide)) (hl.k (k := 45) (by decide)) (by decide) rfl rfl (t_X12_isShelf_in (σ := σ) hs) rfl rfl (by decide) (by decide) (Nat.le_of_ble_eq_true rfl) (by decide) (by decide) ?_
  refine Z.if_eqN B dX12_says_5 (tgt := 18) rfl (by omega) (fun h5 => by exfalso; first | omega | contradiction | simp_all) (fun h5 => ?_)
  refine Z.iload_n B dX12_says_8 (x := nI 2) rfl ?_
  refine Z.if_ltN B dX12_says_9 (tgt := 18) rfl (by omega) ?_
  refine Z.iload_n B dX12_says_12 (x := nI 2) rfl ?_
  refine Z.bipush B dX12_says_13 (v := nI 6) rfl ?_
  refine Z.icmp_leN B dX12_says_15 (tgt := 24) rfl (by omega) (by omega) (fun h15 => ?_) (fun h15 => by exfalso; first | omega | contradiction | simp_all)
  refine Z.aload_n B dX12_says_24 (v := .ref 45) rfl rfl ?_
  refine Z.getR (σ := σ) B fX12_41_12 dX12_says_25 (hl.n (k := 45) (by decide)) (hl.k (k := 45) (by decide)) (by decide) (j := 54) (hl.r (k := 45) (f := 13) (by decide) (by decide)) ?_
  refine Z.iload_n B dX12_says_28 (x := nI s) rfl ?_
  refine Z.iald (σ := σ) B dX12_says_29 (n := 8) (hl.n (k := 54) (by decide)) (hl.k (k := 54) (by decide)) (hl.l (k := 54) (by decide)) (by decide) (j := s) rfl (by omega) (v := nI 2) hh.1 ?_
  refine Z.iconst B dX12_says_30 (v := nI 1) rfl ?_
  refine Z.icmp_neN B dX12_says_31 (tgt := 41) rfl (by omega) (by omega) (fun h31 => ?_) (fun h31 => by exfalso; first | omega | contradiction | simp_all)
  refine Z.aload_n B dX12_says_41 (v := .ref 45) rfl rfl ?_
  refine Z.getR (σ := σ) B fX12_41_12 dX12_says_42 (hl.n (k := 45) (by decide)) (hl.k (k := 45) (by decide)) (by decide) (j := 54) (hl.r (k := 45) (f := 13) (by decide) (by decide)) ?_
  refine Z.iload_n B dX12_says_45 (x := nI s) rfl ?_
  refine Z.iald (σ := σ) B dX12_says_46 (n := 8) (hl.n (k := 54) (by decide)) (hl.k (k := 54) (by decide)) (hl.l (k := 54) (by decide)) (by decide) (j := s) rfl (by omega) (v := nI 2) hh.1 ?_
  refine Z.if_neN B dX12_says_47 (tgt := 57) rfl (by omega) (fun h47 => ?_) (fun h47 => by exfalso; first | omega | contradiction | simp_all)
  refine Z.aload_n B dX12_says_57 (v := .ref 45) rfl rfl ?_
  refine Z.getR (σ := σ) B fX12_50_12 dX12_says_58 (hl.n (k := 45) (by decide)) (hl.k (k := 45) (by decide)) (by decide) (j := 57) (hl.r (k := 45) (f := 16) (by decide) (by decide)) ?_
  refine Z.iload_n B dX12_says_61 (x := nI s) rfl ?_
  refine Z.iald (σ := σ) B dX12_says_62 (n := 8) (hl.n (k := 57) (by decide)) (hl.k (k := 57) (by decide)) (hl.l (k := 57) (by decide)) (by decide) (j := s) rfl (by omega) (v := nI i8) hh.2.1 ?_
  refine Z.istore_n B dX12_says_63 (by decide) (L' := [(0, .ref 45), (1, .int (nI s)), (2, .int (nI 2)), (3, .int (nI i8))]) rfl ?_
  refine Z.aload_n B dX12_says_64 (v := .ref 45) rfl rfl ?_
  refine Z.getR (σ := σ) B fX12_35_12 dX12_says_65 (hl.n (k := 45) (by decide)) (hl.k (k := 45) (by decide)) (by decide) (j := 52) (hl.r (k := 45) (f := 11) (by decide) (by decide)) ?_
  refine Z.iload_n B dX12_says_68 (x := nI i8) rfl ?_
  refine Z.iald (σ := σ) B dX12_says_69 (n := 8) (hl.n (k := 52) (by decide)) (hl.k (k := 52) (by decide)) (hl.l (k := 52) (by decide)) (by decide) (j := i8) rfl (by omega) (v := nI 1) hw.1 ?_
  refine Z.istore B dX12_says_70 (by decide) (L' := [(0, .ref 45), (1, .int (nI s)), (2, .int (nI 2)), (3, .int (nI i8)), (4, .int (nI 1))]) rfl ?_
  refine Z.iload_n B dX12_says_72 (x := nI 2) rfl ?_
  refine Z.if_eqN B dX12_says_73 (tgt := 112) rfl (by omega) (fun h73 => by exfalso; first | omega | contradiction | simp_all) (fun h73 => ?_)
  refine Z.iload_n B dX12_says_76 (x := nI 2) rfl ?_
  refine Z.iload B dX12_says_77 (x := nI 1) rfl ?_
  refine Z.icmp_eqN B dX12_says_79 (tgt := 112) rfl (by omega) (by omega) (fun h79 => by exfalso; first | omega | contradiction | simp_all) (fun h79 => ?_)
  refine Z.iload_n B dX12_says_82 (x := nI 2) rfl ?_
  refine Z.iconst B dX12_says_83 (v := nI 1) rfl ?_
  refine Z.icmp_neN B dX12_says_84 (tgt := 93) rfl (by omega) (by omega) (fun h84 => ?_) (fun h84 => by exfalso; first | omega | contradiction | simp_all)
  refine Z.iload_n B dX12_says_93 (x := nI 2) rfl ?_
  refine Z.iconst B dX12_says_94 (v := nI 5) rfl ?_
  refine Z.icmp_neN B dX12_says_95 (tgt := 105) rfl (by omega) (by omega) (fun h95 => ?_) (fun h95 => by exfalso; first | omega | contradiction | simp_all)
  refine Z.aload_n B dX12_says_105 (v := .ref 45) rfl rfl ?_
  refine Z.bipush B dX12_says_106 (v := (-2)) rfl ?_
  refine Z.callVI (σ := σ) B (M' := mX12_no) (as := [.int (-2)]) (st := []) (v := .int (-2)) dX12_says_108 wX12_no iX12_no sX12_no kX12_94 (hl.n (k := 45) (by decide)) (hl.k (k := 45) (by decide)) (by decide) rfl rfl (t_X12_no_2 (σ := σ) hl) rfl rfl (by decide) (by decide) (Nat.le_of_ble_eq_true rfl) (by decide) (by decide) ?_
  refine Z.eqσ (τ := (zuX σ 46 (upd (zX σ 46) 2 (zX σ 46 2 + nI 1)))) rfl ?_
  refine Z.iret B Rt dX12_says_111 (ty := .int) rfl rfl (by decide) (by decide) ?_
  exact ⟨rfl, rfl⟩

theorem t_M_says_0_1_3 {σ : zSt} (hl : Lay σ) {n a y : Nat} (H : zMd σ n a y) {od : Nat → Nat} (ho : zMo σ a od) {pos : Nat → Nat} (hpo : zPo a od pos) {s : Nat} (hs : s < 8) {i8 : Nat} (hh : zMa σ s i8) {pa : Nat} (hi : i8 < y) (hw : zMy σ i8 1 pa) (hg : zX σ 45 28 = (-1))  : Dt mX12_says [.ref 45, .int (nI s), .int (nI 3)] σ (some (.int (-2))) (zuX σ 46 (upd (zX σ 46) 2 (zX σ 46 2 + nI 1))) := by
  obtain ⟨-, hn, hn8, ha, ha4, hy, hy8⟩ := id H
  have hi88 := hh.2.2
  have hpa := hw.2.2.2.1
  refine Dt.of (by decide) (Nat.le_of_ble_eq_true rfl) fun κ B Rt => ?_
  show Z κ 0 0 σ 0 [(0, .ref 45), (1, .int (nI s)), (2, .int (nI 3))] []
  refine Z.aload_n B dX12_says_0 (v := .ref 45) rfl rfl ?_
  refine Z.iload_n B dX12_says_1 (x := nI s) rfl ?_
  refine Z.callVI (σ := σ) B (M' := mX12_isShelf) (as := [.int (nI s)]) (st := []) (v := .int (nI 1)) dX12_says_2 wX12_isShelf iX12_isShelf sX12_isShelf kX12_90 (hl.n (k := 45) (by decide)) (hl.k (k := 45) (by decide)) (by decide) rfl rfl (t_X12_isShelf_in (σ := σ) hs) rfl rfl (by decide) (by decide) (Nat.le_of_ble_eq_true rfl) (by decide) (by decide) ?_
  refine Z.if_eqN B dX12_says_5 (tgt := 18) rfl (by omega) (fun h5 => by exfalso; first | omega | contradiction | simp_all) (fun h5 => ?_)
  refine Z.iload_n B dX12_says_8 (x := nI 3) rfl ?_
  refine Z.if_ltN B dX12_says_9 (tgt := 18) rfl (by omega) ?_
  refine Z.iload_n B dX12_says_12 (x := nI 3) rfl ?_
  refine Z.bipush B dX12_says_13 (v := nI 6) rfl ?_
  refine Z.icmp_leN B dX12_says_15 (tgt := 24) rfl (by omega) (by omega) (fun h15 => ?_) (fun h15 => by exfalso; first | omega | contradiction | simp_all)
  refine Z.aload_n B dX12_says_24 (v := .ref 45) rfl rfl ?_
  refine Z.getR (σ := σ) B fX12_41_12 dX12_says_25 (hl.n (k := 45) (by decide)) (hl.k (k := 45) (by decide)) (by decide) (j := 54) (hl.r (k := 45) (f := 13) (by decide) (by decide)) ?_
  refine Z.iload_n B dX12_says_28 (x := nI s) rfl ?_
  refine Z.iald (σ := σ) B dX12_says_29 (n := 8) (hl.n (k := 54) (by decide)) (hl.k (k := 54) (by decide)) (hl.l (k := 54) (by decide)) (by decide) (j := s) rfl (by omega) (v := nI 2) hh.1 ?_
  refine Z.iconst B dX12_says_30 (v := nI 1) rfl ?_
  refine Z.icmp_neN B dX12_says_31 (tgt := 41) rfl (by omega) (by omega) (fun h31 => ?_) (fun h31 => by exfalso; first | omega | contradiction | simp_all)
  refine Z.aload_n B dX12_says_41 (v := .ref 45) rfl rfl ?_
  refine Z.getR (σ := σ) B fX12_41_12 dX12_says_42 (hl.n (k := 45) (by decide)) (hl.k (k := 45) (by decide)) (by decide) (j := 54) (hl.r (k := 45) (f := 13) (by decide) (by decide)) ?_
  refine Z.iload_n B dX12_says_45 (x := nI s) rfl ?_
  refine Z.iald (σ := σ) B dX12_says_46 (n := 8) (hl.n (k := 54) (by decide)) (hl.k (k := 54) (by decide)) (hl.l (k := 54) (by decide)) (by decide) (j := s) rfl (by omega) (v := nI 2) hh.1 ?_
  refine Z.if_neN B dX12_says_47 (tgt := 57) rfl (by omega) (fun h47 => ?_) (fun h47 => by exfalso; first | omega | contradiction | simp_all)
  refine Z.aload_n B dX12_says_57 (v := .ref 45) rfl rfl ?_
  refine Z.getR (σ := σ) B fX12_50_12 dX12_says_58 (hl.n (k := 45) (by decide)) (hl.k (k := 45) (by decide)) (by decide) (j := 57) (hl.r (k := 45) (f := 16) (by decide) (by decide)) ?_
  refine Z.iload_n B dX12_says_61 (x := nI s) rfl ?_
  refine Z.iald (σ := σ) B dX12_says_62 (n := 8) (hl.n (k := 57) (by decide)) (hl.k (k := 57) (by decide)) (hl.l (k := 57) (by decide)) (by decide) (j := s) rfl (by omega) (v := nI i8) hh.2.1 ?_
  refine Z.istore_n B dX12_says_63 (by decide) (L' := [(0, .ref 45), (1, .int (nI s)), (2, .int (nI 3)), (3, .int (nI i8))]) rfl ?_
  refine Z.aload_n B dX12_says_64 (v := .ref 45) rfl rfl ?_
  refine Z.getR (σ := σ) B fX12_35_12 dX12_says_65 (hl.n (k := 45) (by decide)) (hl.k (k := 45) (by decide)) (by decide) (j := 52) (hl.r (k := 45) (f := 11) (by decide) (by decide)) ?_
  refine Z.iload_n B dX12_says_68 (x := nI i8) rfl ?_
  refine Z.iald (σ := σ) B dX12_says_69 (n := 8) (hl.n (k := 52) (by decide)) (hl.k (k := 52) (by decide)) (hl.l (k := 52) (by decide)) (by decide) (j := i8) rfl (by omega) (v := nI 1) hw.1 ?_
  refine Z.istore B dX12_says_70 (by decide) (L' := [(0, .ref 45), (1, .int (nI s)), (2, .int (nI 3)), (3, .int (nI i8)), (4, .int (nI 1))]) rfl ?_
  refine Z.iload_n B dX12_says_72 (x := nI 3) rfl ?_
  refine Z.if_eqN B dX12_says_73 (tgt := 112) rfl (by omega) (fun h73 => by exfalso; first | omega | contradiction | simp_all) (fun h73 => ?_)
  refine Z.iload_n B dX12_says_76 (x := nI 3) rfl ?_
  refine Z.iload B dX12_says_77 (x := nI 1) rfl ?_
  refine Z.icmp_eqN B dX12_says_79 (tgt := 112) rfl (by omega) (by omega) (fun h79 => by exfalso; first | omega | contradiction | simp_all) (fun h79 => ?_)
  refine Z.iload_n B dX12_says_82 (x := nI 3) rfl ?_
  refine Z.iconst B dX12_says_83 (v := nI 1) rfl ?_
  refine Z.icmp_neN B dX12_says_84 (tgt := 93) rfl (by omega) (by omega) (fun h84 => ?_) (fun h84 => by exfalso; first | omega | contradiction | simp_all)
  refine Z.iload_n B dX12_says_93 (x := nI 3) rfl ?_
  refine Z.iconst B dX12_says_94 (v := nI 5) rfl ?_
  refine Z.icmp_neN B dX12_says_95 (tgt := 105) rfl (by omega) (by omega) (fun h95 => ?_) (fun h95 => by exfalso; first | omega | contradiction | simp_all)
  refine Z.aload_n B dX12_says_105 (v := .ref 45) rfl rfl ?_
  refine Z.bipush B dX12_says_106 (v := (-2)) rfl ?_
  refine Z.callVI (σ := σ) B (M' := mX12_no) (as := [.int (-2)]) (st := []) (v := .int (-2)) dX12_says_108 wX12_no iX12_no sX12_no kX12_94 (hl.n (k := 45) (by decide)) (hl.k (k := 45) (by decide)) (by decide) rfl rfl (t_X12_no_2 (σ := σ) hl) rfl rfl (by decide) (by decide) (Nat.le_of_ble_eq_true rfl) (by decide) (by decide) ?_
  refine Z.eqσ (τ := (zuX σ 46 (upd (zX σ 46) 2 (zX σ 46 2 + nI 1)))) rfl ?_
  refine Z.iret B Rt dX12_says_111 (ty := .int) rfl rfl (by decide) (by decide) ?_
  exact ⟨rfl, rfl⟩

theorem t_M_says_0_1_4 {σ : zSt} (hl : Lay σ) {n a y : Nat} (H : zMd σ n a y) {od : Nat → Nat} (ho : zMo σ a od) {pos : Nat → Nat} (hpo : zPo a od pos) {s : Nat} (hs : s < 8) {i8 : Nat} (hh : zMa σ s i8) {pa : Nat} (hi : i8 < y) (hw : zMy σ i8 1 pa) (hg : zX σ 45 28 = (-1))  : Dt mX12_says [.ref 45, .int (nI s), .int (nI 4)] σ (some (.int (-2))) (zuX σ 46 (upd (zX σ 46) 2 (zX σ 46 2 + nI 1))) := by
  obtain ⟨-, hn, hn8, ha, ha4, hy, hy8⟩ := id H
  have hi88 := hh.2.2
  have hpa := hw.2.2.2.1
  refine Dt.of (by decide) (Nat.le_of_ble_eq_true rfl) fun κ B Rt => ?_
  show Z κ 0 0 σ 0 [(0, .ref 45), (1, .int (nI s)), (2, .int (nI 4))] []
  refine Z.aload_n B dX12_says_0 (v := .ref 45) rfl rfl ?_
  refine Z.iload_n B dX12_says_1 (x := nI s) rfl ?_
  refine Z.callVI (σ := σ) B (M' := mX12_isShelf) (as := [.int (nI s)]) (st := []) (v := .int (nI 1)) dX12_says_2 wX12_isShelf iX12_isShelf sX12_isShelf kX12_90 (hl.n (k := 45) (by decide)) (hl.k (k := 45) (by decide)) (by decide) rfl rfl (t_X12_isShelf_in (σ := σ) hs) rfl rfl (by decide) (by decide) (Nat.le_of_ble_eq_true rfl) (by decide) (by decide) ?_
  refine Z.if_eqN B dX12_says_5 (tgt := 18) rfl (by omega) (fun h5 => by exfalso; first | omega | contradiction | simp_all) (fun h5 => ?_)
  refine Z.iload_n B dX12_says_8 (x := nI 4) rfl ?_
  refine Z.if_ltN B dX12_says_9 (tgt := 18) rfl (by omega) ?_
  refine Z.iload_n B dX12_says_12 (x := nI 4) rfl ?_
  refine Z.bipush B dX12_says_13 (v := nI 6) rfl ?_
  refine Z.icmp_leN B dX12_says_15 (tgt := 24) rfl (by omega) (by omega) (fun h15 => ?_) (fun h15 => by exfalso; first | omega | contradiction | simp_all)
  refine Z.aload_n B dX12_says_24 (v := .ref 45) rfl rfl ?_
  refine Z.getR (σ := σ) B fX12_41_12 dX12_says_25 (hl.n (k := 45) (by decide)) (hl.k (k := 45) (by decide)) (by decide) (j := 54) (hl.r (k := 45) (f := 13) (by decide) (by decide)) ?_
  refine Z.iload_n B dX12_says_28 (x := nI s) rfl ?_
  refine Z.iald (σ := σ) B dX12_says_29 (n := 8) (hl.n (k := 54) (by decide)) (hl.k (k := 54) (by decide)) (hl.l (k := 54) (by decide)) (by decide) (j := s) rfl (by omega) (v := nI 2) hh.1 ?_
  refine Z.iconst B dX12_says_30 (v := nI 1) rfl ?_
  refine Z.icmp_neN B dX12_says_31 (tgt := 41) rfl (by omega) (by omega) (fun h31 => ?_) (fun h31 => by exfalso; first | omega | contradiction | simp_all)
  refine Z.aload_n B dX12_says_41 (v := .ref 45) rfl rfl ?_
  refine Z.getR (σ := σ) B fX12_41_12 dX12_says_42 (hl.n (k := 45) (by decide)) (hl.k (k := 45) (by decide)) (by decide) (j := 54) (hl.r (k := 45) (f := 13) (by decide) (by decide)) ?_
  refine Z.iload_n B dX12_says_45 (x := nI s) rfl ?_
  refine Z.iald (σ := σ) B dX12_says_46 (n := 8) (hl.n (k := 54) (by decide)) (hl.k (k := 54) (by decide)) (hl.l (k := 54) (by decide)) (by decide) (j := s) rfl (by omega) (v := nI 2) hh.1 ?_
  refine Z.if_neN B dX12_says_47 (tgt := 57) rfl (by omega) (fun h47 => ?_) (fun h47 => by exfalso; first | omega | contradiction | simp_all)
  refine Z.aload_n B dX12_says_57 (v := .ref 45) rfl rfl ?_
  refine Z.getR (σ := σ) B fX12_50_12 dX12_says_58 (hl.n (k := 45) (by decide)) (hl.k (k := 45) (by decide)) (by decide) (j := 57) (hl.r (k := 45) (f := 16) (by decide) (by decide)) ?_
  refine Z.iload_n B dX12_says_61 (x := nI s) rfl ?_
  refine Z.iald (σ := σ) B dX12_says_62 (n := 8) (hl.n (k := 57) (by decide)) (hl.k (k := 57) (by decide)) (hl.l (k := 57) (by decide)) (by decide) (j := s) rfl (by omega) (v := nI i8) hh.2.1 ?_
  refine Z.istore_n B dX12_says_63 (by decide) (L' := [(0, .ref 45), (1, .int (nI s)), (2, .int (nI 4)), (3, .int (nI i8))]) rfl ?_
  refine Z.aload_n B dX12_says_64 (v := .ref 45) rfl rfl ?_
  refine Z.getR (σ := σ) B fX12_35_12 dX12_says_65 (hl.n (k := 45) (by decide)) (hl.k (k := 45) (by decide)) (by decide) (j := 52) (hl.r (k := 45) (f := 11) (by decide) (by decide)) ?_
  refine Z.iload_n B dX12_says_68 (x := nI i8) rfl ?_
  refine Z.iald (σ := σ) B dX12_says_69 (n := 8) (hl.n (k := 52) (by decide)) (hl.k (k := 52) (by decide)) (hl.l (k := 52) (by decide)) (by decide) (j := i8) rfl (by omega) (v := nI 1) hw.1 ?_
  refine Z.istore B dX12_says_70 (by decide) (L' := [(0, .ref 45), (1, .int (nI s)), (2, .int (nI 4)), (3, .int (nI i8)), (4, .int (nI 1))]) rfl ?_
  refine Z.iload_n B dX12_says_72 (x := nI 4) rfl ?_
  refine Z.if_eqN B dX12_says_73 (tgt := 112) rfl (by omega) (fun h73 => by exfalso; first | omega | contradiction | simp_all) (fun h73 => ?_)
  refine Z.iload_n B dX12_says_76 (x := nI 4) rfl ?_
  refine Z.iload B dX12_says_77 (x := nI 1) rfl ?_
  refine Z.icmp_eqN B dX12_says_79 (tgt := 112) rfl (by omega) (by omega) (fun h79 => by exfalso; first | omega | contradiction | simp_all) (fun h79 => ?_)
  refine Z.iload_n B dX12_says_82 (x := nI 4) rfl ?_
  refine Z.iconst B dX12_says_83 (v := nI 1) rfl ?_
  refine Z.icmp_neN B dX12_says_84 (tgt := 93) rfl (by omega) (by omega) (fun h84 => ?_) (fun h84 => by exfalso; first | omega | contradiction | simp_all)
  refine Z.iload_n B dX12_says_93 (x := nI 4) rfl ?_
  refine Z.iconst B dX12_says_94 (v := nI 5) rfl ?_
  refine Z.icmp_neN B dX12_says_95 (tgt := 105) rfl (by omega) (by omega) (fun h95 => ?_) (fun h95 => by exfalso; first | omega | contradiction | simp_all)
  refine Z.aload_n B dX12_says_105 (v := .ref 45) rfl rfl ?_
  refine Z.bipush B dX12_says_106 (v := (-2)) rfl ?_
  refine Z.callVI (σ := σ) B (M' := mX12_no) (as := [.int (-2)]) (st := []) (v := .int (-2)) dX12_says_108 wX12_no iX12_no sX12_no kX12_94 (hl.n (k := 45) (by decide)) (hl.k (k := 45) (by decide)) (by decide) rfl rfl (t_X12_no_2 (σ := σ) hl) rfl rfl (by decide) (by decide) (Nat.le_of_ble_eq_true rfl) (by decide) (by decide) ?_
  refine Z.eqσ (τ := (zuX σ 46 (upd (zX σ 46) 2 (zX σ 46 2 + nI 1)))) rfl ?_
  refine Z.iret B Rt dX12_says_111 (ty := .int) rfl rfl (by decide) (by decide) ?_
  exact ⟨rfl, rfl⟩

theorem t_M_says_0_1_5 {σ : zSt} (hl : Lay σ) {n a y : Nat} (H : zMd σ n a y) {od : Nat → Nat} (ho : zMo σ a od) {pos : Nat → Nat} (hpo : zPo a od pos) {s : Nat} (hs : s < 8) {i8 : Nat} (hh : zMa σ s i8) {pa : Nat} (hi : i8 < y) (hw : zMy σ i8 1 pa) (hg : zX σ 45 28 = (-1))  : Dt mX12_says [.ref 45, .int (nI s), .int (nI 5)] σ (some (.int (-2))) (zuX σ 46 (upd (zX σ 46) 2 (zX σ 46 2 + nI 1))) := by
  obtain ⟨-, hn, hn8, ha, ha4, hy, hy8⟩ := id H
  have hi88 := hh.2.2
  have hpa := hw.2.2.2.1
  refine Dt.of (by decide) (Nat.le_of_ble_eq_true rfl) fun κ B Rt => ?_
  show Z κ 0 0 σ 0 [(0, .ref 45), (1, .int (nI s)), (2, .int (nI 5))] []
  refine Z.aload_n B dX12_says_0 (v := .ref 45) rfl rfl ?_
  refine Z.iload_n B dX12_says_1 (x := nI s) rfl ?_
  refine Z.callVI (σ := σ) B (M' := mX12_isShelf) (as := [.int (nI s)]) (st := []) (v := .int (nI 1)) dX12_says_2 wX12_isShelf iX12_isShelf sX12_isShelf kX12_90 (hl.n (k := 45) (by decide)) (hl.k (k := 45) (by decide)) (by decide) rfl rfl (t_X12_isShelf_in (σ := σ) hs) rfl rfl (by decide) (by decide) (Nat.le_of_ble_eq_true rfl) (by decide) (by decide) ?_
  refine Z.if_eqN B dX12_says_5 (tgt := 18) rfl (by omega) (fun h5 => by exfalso; first | omega | contradiction | simp_all) (fun h5 => ?_)
  refine Z.iload_n B dX12_says_8 (x := nI 5) rfl ?_
  refine Z.if_ltN B dX12_says_9 (tgt := 18) rfl (by omega) ?_
  refine Z.iload_n B dX12_says_12 (x := nI 5) rfl ?_
  refine Z.bipush B dX12_says_13 (v := nI 6) rfl ?_
  refine Z.icmp_leN B dX12_says_15 (tgt := 24) rfl (by omega) (by omega) (fun h15 => ?_) (fun h15 => by exfalso; first | omega | contradiction | simp_all)
  refine Z.aload_n B dX12_says_24 (v := .ref 45) rfl rfl ?_
  refine Z.getR (σ := σ) B fX12_41_12 dX12_says_25 (hl.n (k := 45) (by decide)) (hl.k (k := 45) (by decide)) (by decide) (j := 54) (hl.r (k := 45) (f := 13) (by decide) (by decide)) ?_
  refine Z.iload_n B dX12_says_28 (x := nI s) rfl ?_
  refine Z.iald (σ := σ) B dX12_says_29 (n := 8) (hl.n (k := 54) (by decide)) (hl.k (k := 54) (by decide)) (hl.l (k := 54) (by decide)) (by decide) (j := s) rfl (by omega) (v := nI 2) hh.1 ?_
  refine Z.iconst B dX12_says_30 (v := nI 1) rfl ?_
  refine Z.icmp_neN B dX12_says_31 (tgt := 41) rfl (by omega) (by omega) (fun h31 => ?_) (fun h31 => by exfalso; first | omega | contradiction | simp_all)
  refine Z.aload_n B dX12_says_41 (v := .ref 45) rfl rfl ?_
  refine Z.getR (σ := σ) B fX12_41_12 dX12_says_42 (hl.n (k := 45) (by decide)) (hl.k (k := 45) (by decide)) (by decide) (j := 54) (hl.r (k := 45) (f := 13) (by decide) (by decide)) ?_
  refine Z.iload_n B dX12_says_45 (x := nI s) rfl ?_
  refine Z.iald (σ := σ) B dX12_says_46 (n := 8) (hl.n (k := 54) (by decide)) (hl.k (k := 54) (by decide)) (hl.l (k := 54) (by decide)) (by decide) (j := s) rfl (by omega) (v := nI 2) hh.1 ?_
  refine Z.if_neN B dX12_says_47 (tgt := 57) rfl (by omega) (fun h47 => ?_) (fun h47 => by exfalso; first | omega | contradiction | simp_all)
  refine Z.aload_n B dX12_says_57 (v := .ref 45) rfl rfl ?_
  refine Z.getR (σ := σ) B fX12_50_12 dX12_says_58 (hl.n (k := 45) (by decide)) (hl.k (k := 45) (by decide)) (by decide) (j := 57) (hl.r (k := 45) (f := 16) (by decide) (by decide)) ?_
  refine Z.iload_n B dX12_says_61 (x := nI s) rfl ?_
  refine Z.iald (σ := σ) B dX12_says_62 (n := 8) (hl.n (k := 57) (by decide)) (hl.k (k := 57) (by decide)) (hl.l (k := 57) (by decide)) (by decide) (j := s) rfl (by omega) (v := nI i8) hh.2.1 ?_
  refine Z.istore_n B dX12_says_63 (by decide) (L' := [(0, .ref 45), (1, .int (nI s)), (2, .int (nI 5)), (3, .int (nI i8))]) rfl ?_
  refine Z.aload_n B dX12_says_64 (v := .ref 45) rfl rfl ?_
  refine Z.getR (σ := σ) B fX12_35_12 dX12_says_65 (hl.n (k := 45) (by decide)) (hl.k (k := 45) (by decide)) (by decide) (j := 52) (hl.r (k := 45) (f := 11) (by decide) (by decide)) ?_
  refine Z.iload_n B dX12_says_68 (x := nI i8) rfl ?_
  refine Z.iald (σ := σ) B dX12_says_69 (n := 8) (hl.n (k := 52) (by decide)) (hl.k (k := 52) (by decide)) (hl.l (k := 52) (by decide)) (by decide) (j := i8) rfl (by omega) (v := nI 1) hw.1 ?_
  refine Z.istore B dX12_says_70 (by decide) (L' := [(0, .ref 45), (1, .int (nI s)), (2, .int (nI 5)), (3, .int (nI i8)), (4, .int (nI 1))]) rfl ?_
  refine Z.iload_n B dX12_says_72 (x := nI 5) rfl ?_
  refine Z.if_eqN B dX12_says_73 (tgt := 112) rfl (by omega) (fun h73 => by exfalso; first | omega | contradiction | simp_all) (fun h73 => ?_)
  refine Z.iload_n B dX12_says_76 (x := nI 5) rfl ?_
  refine Z.iload B dX12_says_77 (x := nI 1) rfl ?_
  refine Z.icmp_eqN B dX12_says_79 (tgt := 112) rfl (by omega) (by omega) (fun h79 => by exfalso; first | omega | contradiction | simp_all) (fun h79 => ?_)
  refine Z.iload_n B dX12_says_82 (x := nI 5) rfl ?_
  refine Z.iconst B dX12_says_83 (v := nI 1) rfl ?_
  refine Z.icmp_neN B dX12_says_84 (tgt := 93) rfl (by omega) (by omega) (fun h84 => ?_) (fun h84 => by exfalso; first | omega | contradiction | simp_all)
  refine Z.iload_n B dX12_says_93 (x := nI 5) rfl ?_
  refine Z.iconst B dX12_says_94 (v := nI 5) rfl ?_
  refine Z.icmp_neN B dX12_says_95 (tgt := 105) rfl (by omega) (by omega) (fun h95 => by exfalso; first | omega | contradiction | simp_all) (fun h95 => ?_)
  refine Z.iload B dX12_says_98 (x := nI 1) rfl ?_
  refine Z.bipush B dX12_says_100 (v := nI 6) rfl ?_
  refine Z.icmp_eqN B dX12_says_102 (tgt := 112) rfl (by omega) (by omega) (fun h102 => by exfalso; first | omega | contradiction | simp_all) (fun h102 => ?_)
  refine Z.aload_n B dX12_says_105 (v := .ref 45) rfl rfl ?_
  refine Z.bipush B dX12_says_106 (v := (-2)) rfl ?_
  refine Z.callVI (σ := σ) B (M' := mX12_no) (as := [.int (-2)]) (st := []) (v := .int (-2)) dX12_says_108 wX12_no iX12_no sX12_no kX12_94 (hl.n (k := 45) (by decide)) (hl.k (k := 45) (by decide)) (by decide) rfl rfl (t_X12_no_2 (σ := σ) hl) rfl rfl (by decide) (by decide) (Nat.le_of_ble_eq_true rfl) (by decide) (by decide) ?_
  refine Z.eqσ (τ := (zuX σ 46 (upd (zX σ 46) 2 (zX σ 46 2 + nI 1)))) rfl ?_
  refine Z.iret B Rt dX12_says_111 (ty := .int) rfl rfl (by decide) (by decide) ?_
  exact ⟨rfl, rfl⟩

theorem t_M_says_0_1_6 {σ : zSt} (hl : Lay σ) {n a y : Nat} (H : zMd σ n a y) {od : Nat → Nat} (ho : zMo σ a od) {pos : Nat → Nat} (hpo : zPo a od pos) {s : Nat} (hs : s < 8) {i8 : Nat} (hh : zMa σ s i8) {pa : Nat} (hi : i8 < y) (hw : zMy σ i8 1 pa) (hg : zX σ 45 28 = (-1))  : Dt mX12_says [.ref 45, .int (nI s), .int (nI 6)] σ (some (.int (-2))) (zuX σ 46 (upd (zX σ 46) 2 (zX σ 46 2 + nI 1))) := by
  obtain ⟨-, hn, hn8, ha, ha4, hy, hy8⟩ := id H
  have hi88 := hh.2.2
  have hpa := hw.2.2.2.1
  refine Dt.of (by decide) (Nat.le_of_ble_eq_true rfl) fun κ B Rt => ?_
  show Z κ 0 0 σ 0 [(0, .ref 45), (1, .int (nI s)), (2, .int (nI 6))] []
  refine Z.aload_n B dX12_says_0 (v := .ref 45) rfl rfl ?_
  refine Z.iload_n B dX12_says_1 (x := nI s) rfl ?_
  refine Z.callVI (σ := σ) B (M' := mX12_isShelf) (as := [.int (nI s)]) (st := []) (v := .int (nI 1)) dX12_says_2 wX12_isShelf iX12_isShelf sX12_isShelf kX12_90 (hl.n (k := 45) (by decide)) (hl.k (k := 45) (by decide)) (by decide) rfl rfl (t_X12_isShelf_in (σ := σ) hs) rfl rfl (by decide) (by decide) (Nat.le_of_ble_eq_true rfl) (by decide) (by decide) ?_
  refine Z.if_eqN B dX12_says_5 (tgt := 18) rfl (by omega) (fun h5 => by exfalso; first | omega | contradiction | simp_all) (fun h5 => ?_)
  refine Z.iload_n B dX12_says_8 (x := nI 6) rfl ?_
  refine Z.if_ltN B dX12_says_9 (tgt := 18) rfl (by omega) ?_
  refine Z.iload_n B dX12_says_12 (x := nI 6) rfl ?_
  refine Z.bipush B dX12_says_13 (v := nI 6) rfl ?_
  refine Z.icmp_leN B dX12_says_15 (tgt := 24) rfl (by omega) (by omega) (fun h15 => ?_) (fun h15 => by exfalso; first | omega | contradiction | simp_all)
  refine Z.aload_n B dX12_says_24 (v := .ref 45) rfl rfl ?_
  refine Z.getR (σ := σ) B fX12_41_12 dX12_says_25 (hl.n (k := 45) (by decide)) (hl.k (k := 45) (by decide)) (by decide) (j := 54) (hl.r (k := 45) (f := 13) (by decide) (by decide)) ?_
  refine Z.iload_n B dX12_says_28 (x := nI s) rfl ?_
  refine Z.iald (σ := σ) B dX12_says_29 (n := 8) (hl.n (k := 54) (by decide)) (hl.k (k := 54) (by decide)) (hl.l (k := 54) (by decide)) (by decide) (j := s) rfl (by omega) (v := nI 2) hh.1 ?_
  refine Z.iconst B dX12_says_30 (v := nI 1) rfl ?_
  refine Z.icmp_neN B dX12_says_31 (tgt := 41) rfl (by omega) (by omega) (fun h31 => ?_) (fun h31 => by exfalso; first | omega | contradiction | simp_all)
  refine Z.aload_n B dX12_says_41 (v := .ref 45) rfl rfl ?_
  refine Z.getR (σ := σ) B fX12_41_12 dX12_says_42 (hl.n (k := 45) (by decide)) (hl.k (k := 45) (by decide)) (by decide) (j := 54) (hl.r (k := 45) (f := 13) (by decide) (by decide)) ?_
  refine Z.iload_n B dX12_says_45 (x := nI s) rfl ?_
  refine Z.iald (σ := σ) B dX12_says_46 (n := 8) (hl.n (k := 54) (by decide)) (hl.k (k := 54) (by decide)) (hl.l (k := 54) (by decide)) (by decide) (j := s) rfl (by omega) (v := nI 2) hh.1 ?_
  refine Z.if_neN B dX12_says_47 (tgt := 57) rfl (by omega) (fun h47 => ?_) (fun h47 => by exfalso; first | omega | contradiction | simp_all)
  refine Z.aload_n B dX12_says_57 (v := .ref 45) rfl rfl ?_
  refine Z.getR (σ := σ) B fX12_50_12 dX12_says_58 (hl.n (k := 45) (by decide)) (hl.k (k := 45) (by decide)) (by decide) (j := 57) (hl.r (k := 45) (f := 16) (by decide) (by decide)) ?_
  refine Z.iload_n B dX12_says_61 (x := nI s) rfl ?_
  refine Z.iald (σ := σ) B dX12_says_62 (n := 8) (hl.n (k := 57) (by decide)) (hl.k (k := 57) (by decide)) (hl.l (k := 57) (by decide)) (by decide) (j := s) rfl (by omega) (v := nI i8) hh.2.1 ?_
  refine Z.istore_n B dX12_says_63 (by decide) (L' := [(0, .ref 45), (1, .int (nI s)), (2, .int (nI 6)), (3, .int (nI i8))]) rfl ?_
  refine Z.aload_n B dX12_says_64 (v := .ref 45) rfl rfl ?_
  refine Z.getR (σ := σ) B fX12_35_12 dX12_says_65 (hl.n (k := 45) (by decide)) (hl.k (k := 45) (by decide)) (by decide) (j := 52) (hl.r (k := 45) (f := 11) (by decide) (by decide)) ?_
  refine Z.iload_n B dX12_says_68 (x := nI i8) rfl ?_
  refine Z.iald (σ := σ) B dX12_says_69 (n := 8) (hl.n (k := 52) (by decide)) (hl.k (k := 52) (by decide)) (hl.l (k := 52) (by decide)) (by decide) (j := i8) rfl (by omega) (v := nI 1) hw.1 ?_
  refine Z.istore B dX12_says_70 (by decide) (L' := [(0, .ref 45), (1, .int (nI s)), (2, .int (nI 6)), (3, .int (nI i8)), (4, .int (nI 1))]) rfl ?_
  refine Z.iload_n B dX12_says_72 (x := nI 6) rfl ?_
  refine Z.if_eqN B dX12_says_73 (tgt := 112) rfl (by omega) (fun h73 => by exfalso; first | omega | contradiction | simp_all) (fun h73 => ?_)
  refine Z.iload_n B dX12_says_76 (x := nI 6) rfl ?_
  refine Z.iload B dX12_says_77 (x := nI 1) rfl ?_
  refine Z.icmp_eqN B dX12_says_79 (tgt := 112) rfl (by omega) (by omega) (fun h79 => by exfalso; first | omega | contradiction | simp_all) (fun h79 => ?_)
  refine Z.iload_n B dX12_says_82 (x := nI 6) rfl ?_
  refine Z.iconst B dX12_says_83 (v := nI 1) rfl ?_
  refine Z.icmp_neN B dX12_says_84 (tgt := 93) rfl (by omega) (by omega) (fun h84 => ?_) (fun h84 => by exfalso; first | omega | contradiction | simp_all)
  refine Z.iload_n B dX12_says_93 (x := nI 6) rfl ?_
  refine Z.iconst B dX12_says_94 (v := nI 5) rfl ?_
  refine Z.icmp_neN B dX12_says_95 (tgt := 105) rfl (by omega) (by omega) (fun h95 => ?_) (fun h95 => by exfalso; first | omega | contradiction | simp_all)
  refine Z.aload_n B dX12_says_105 (v := .ref 45) rfl rfl ?_
  refine Z.bipush B dX12_says_106 (v := (-2)) rfl ?_
  refine Z.callVI (σ := σ) B (M' := mX12_no) (as := [.int (-2)]) (st := []) (v := .int (-2)) dX12_says_108 wX12_no iX12_no sX12_no kX12_94 (hl.n (k := 45) (by decide)) (hl.k (k := 45) (by decide)) (by decide) rfl rfl (t_X12_no_2 (σ := σ) hl) rfl rfl (by decide) (by decide) (Nat.le_of_ble_eq_true rfl) (by decide) (by decide) ?_
  refine Z.eqσ (τ := (zuX σ 46 (upd (zX σ 46) 2 (zX σ 46 2 + nI 1)))) rfl ?_
  refine Z.iret B Rt dX12_says_111 (ty := .int) rfl rfl (by decide) (by decide) ?_
  exact ⟨rfl, rfl⟩

theorem t_M_says_0_2_0 {σ : zSt} (hl : Lay σ) {n a y : Nat} (H : zMd σ n a y) {od : Nat → Nat} (ho : zMo σ a od) {pos : Nat → Nat} (hpo : zPo a od pos) {s : Nat} (hs : s < 8) {i8 : Nat} (hh : zMa σ s i8) {pa : Nat} (hi : i8 < y) (hw : zMy σ i8 2 pa) (hg : zX σ 45 28 = (-1))  : Dt mX12_says [.ref 45, .int (nI s), .int (nI 0)] σ (some (.int (nI pa))) σ := by
  obtain ⟨-, hn, hn8, ha, ha4, hy, hy8⟩ := id H
  have hi88 := hh.2.2
  have hpa := hw.2.2.2.1
  refine Dt.of (by decide) (Nat.le_of_ble_eq_true rfl) fun κ B Rt => ?_
  show Z κ 0 0 σ 0 [(0, .ref 45), (1, .int (nI s)), (2, .int (nI 0))] []
  refine Z.aload_n B dX12_says_0 (v := .ref 45) rfl rfl ?_
  refine Z.iload_n B dX12_says_1 (x := nI s) rfl ?_
  refine Z.callVI (σ := σ) B (M' := mX12_isShelf) (as := [.int (nI s)]) (st := []) (v := .int (nI 1)) dX12_says_2 wX12_isShelf iX12_isShelf sX12_isShelf kX12_90 (hl.n (k := 45) (by decide)) (hl.k (k := 45) (by decide)) (by decide) rfl rfl (t_X12_isShelf_in (σ := σ) hs) rfl rfl (by decide) (by decide) (Nat.le_of_ble_eq_true rfl) (by decide) (by decide) ?_
  refine Z.if_eqN B dX12_says_5 (tgt := 18) rfl (by omega) (fun h5 => by exfalso; first | omega | contradiction | simp_all) (fun h5 => ?_)
  refine Z.iload_n B dX12_says_8 (x := nI 0) rfl ?_
  refine Z.if_ltN B dX12_says_9 (tgt := 18) rfl (by omega) ?_
  refine Z.iload_n B dX12_says_12 (x := nI 0) rfl ?_
  refine Z.bipush B dX12_says_13 (v := nI 6) rfl ?_
  refine Z.icmp_leN B dX12_says_15 (tgt := 24) rfl (by omega) (by omega) (fun h15 => ?_) (fun h15 => by exfalso; first | omega | contradiction | simp_all)
  refine Z.aload_n B dX12_says_24 (v := .ref 45) rfl rfl ?_
  refine Z.getR (σ := σ) B fX12_41_12 dX12_says_25 (hl.n (k := 45) (by decide)) (hl.k (k := 45) (by decide)) (by decide) (j := 54) (hl.r (k := 45) (f := 13) (by decide) (by decide)) ?_
  refine Z.iload_n B dX12_says_28 (x := nI s) rfl ?_
  refine Z.iald (σ := σ) B dX12_says_29 (n := 8) (hl.n (k := 54) (by decide)) (hl.k (k := 54) (by decide)) (hl.l (k := 54) (by decide)) (by decide) (j := s) rfl (by omega) (v := nI 2) hh.1 ?_
  refine Z.iconst B dX12_says_30 (v := nI 1) rfl ?_
  refine Z.icmp_neN B dX12_says_31 (tgt := 41) rfl (by omega) (by omega) (fun h31 => ?_) (fun h31 => by exfalso; first | omega | contradiction | simp_all)
  refine Z.aload_n B dX12_says_41 (v := .ref 45) rfl rfl ?_
  refine Z.getR (σ := σ) B fX12_41_12 dX12_says_42 (hl.n (k := 45) (by decide)) (hl.k (k := 45) (by decide)) (by decide) (j := 54) (hl.r (k := 45) (f := 13) (by decide) (by decide)) ?_
  refine Z.iload_n B dX12_says_45 (x := nI s) rfl ?_
  refine Z.iald (σ := σ) B dX12_says_46 (n := 8) (hl.n (k := 54) (by decide)) (hl.k (k := 54) (by decide)) (hl.l (k := 54) (by decide)) (by decide) (j := s) rfl (by omega) (v := nI 2) hh.1 ?_
  refine Z.if_neN B dX12_says_47 (tgt := 57) rfl (by omega) (fun h47 => ?_) (fun h47 => by exfalso; first | omega | contradiction | simp_all)
  refine Z.aload_n B dX12_says_57 (v := .ref 45) rfl rfl ?_
  refine Z.getR (σ := σ) B fX12_50_12 dX12_says_58 (hl.n (k := 45) (by decide)) (hl.k (k := 45) (by decide)) (by decide) (j := 57) (hl.r (k := 45) (f := 16) (by decide) (by decide)) ?_
  refine Z.iload_n B dX12_says_61 (x := nI s) rfl ?_
  refine Z.iald (σ := σ) B dX12_says_62 (n := 8) (hl.n (k := 57) (by decide)) (hl.k (k := 57) (by decide)) (hl.l (k := 57) (by decide)) (by decide) (j := s) rfl (by omega) (v := nI i8) hh.2.1 ?_
  refine Z.istore_n B dX12_says_63 (by decide) (L' := [(0, .ref 45), (1, .int (nI s)), (2, .int (nI 0)), (3, .int (nI i8))]) rfl ?_
  refine Z.aload_n B dX12_says_64 (v := .ref 45) rfl rfl ?_
  refine Z.getR (σ := σ) B fX12_35_12 dX12_says_65 (hl.n (k := 45) (by decide)) (hl.k (k := 45) (by decide)) (by decide) (j := 52) (hl.r (k := 45) (f := 11) (by decide) (by decide)) ?_
  refine Z.iload_n B dX12_says_68 (x := nI i8) rfl ?_
  refine Z.iald (σ := σ) B dX12_says_69 (n := 8) (hl.n (k := 52) (by decide)) (hl.k (k := 52) (by decide)) (hl.l (k := 52) (by decide)) (by decide) (j := i8) rfl (by omega) (v := nI 2) hw.1 ?_
  refine Z.istore B dX12_says_70 (by decide) (L' := [(0, .ref 45), (1, .int (nI s)), (2, .int (nI 0)), (3, .int (nI i8)), (4, .int (nI 2))]) rfl ?_
  refine Z.iload_n B dX12_says_72 (x := nI 0) rfl ?_
  refine Z.if_eqN B dX12_says_73 (tgt := 112) rfl (by omega) (fun h73 => ?_) (fun h73 => by exfalso; first | omega | contradiction | simp_all)
  refine Z.iload_n B dX12_says_112 (x := nI 0) rfl ?_
  refine Z.tabIn B dX12_says_113 (by decide) (by decide) (off := 43) (by decide) (tgt := 156) rfl ?_
  refine Z.aload_n B dX12_says_156 (v := .ref 45) rfl rfl ?_
  refine Z.getR (σ := σ) B fX12_38_12 dX12_says_157 (hl.n (k := 45) (by decide)) (hl.k (k := 45) (by decide)) (by decide) (j := 53) (hl.r (k := 45) (f := 12) (by decide) (by decide)) ?_
  refine Z.iload_n B dX12_says_160 (x := nI i8) rfl ?_
  refine Z.iald (σ := σ) B dX12_says_161 (n := 8) (hl.n (k := 53) (by decide)) (hl.k (k := 53) (by decide)) (hl.l (k := 53) (by decide)) (by decide) (j := i8) rfl (by omega) (v := nI pa) hw.2.1 ?_
  refine Z.iret B Rt dX12_says_162 (ty := .int) rfl rfl (by decide) (by decide) ?_
  exact ⟨rfl, rfl⟩

theorem t_M_says_0_2_1 {σ : zSt} (hl : Lay σ) {n a y : Nat} (H : zMd σ n a y) {od : Nat → Nat} (ho : zMo σ a od) {pos : Nat → Nat} (hpo : zPo a od pos) {s : Nat} (hs : s < 8) {i8 : Nat} (hh : zMa σ s i8) {pa : Nat} (hi : i8 < y) (hw : zMy σ i8 2 pa) (hg : zX σ 45 28 = (-1))  : Dt mX12_says [.ref 45, .int (nI s), .int (nI 1)] σ (some (.int (nI (pa % 11 / 2)))) σ := by
  obtain ⟨-, hn, hn8, ha, ha4, hy, hy8⟩ := id H
  have hi88 := hh.2.2
  have hpa := hw.2.2.2.1
  refine Dt.of (by decide) (Nat.le_of_ble_eq_true rfl) fun κ B Rt => ?_
  show Z κ 0 0 σ 0 [(0, .ref 45), (1, .int (nI s)), (2, .int (nI 1))] []
  refine Z.aload_n B dX12_says_0 (v := .ref 45) rfl rfl ?_
  refine Z.iload_n B dX12_says_1 (x := nI s) rfl ?_
  refine Z.callVI (σ := σ) B (M' := mX12_isShelf) (as := [.int (nI s)]) (st := []) (v := .int (nI 1)) dX12_says_2 wX12_isShelf iX12_isShelf sX12_isShelf kX12_90 (hl.n (k := 45) (by decide)) (hl.k (k := 45) (by decide)) (by decide) rfl rfl (t_X12_isShelf_in (σ := σ) hs) rfl rfl (by decide) (by decide) (Nat.le_of_ble_eq_true rfl) (by decide) (by decide) ?_
  refine Z.if_eqN B dX12_says_5 (tgt := 18) rfl (by omega) (fun h5 => by exfalso; first | omega | contradiction | simp_all) (fun h5 => ?_)
  refine Z.iload_n B dX12_says_8 (x := nI 1) rfl ?_
  refine Z.if_ltN B dX12_says_9 (tgt := 18) rfl (by omega) ?_
  refine Z.iload_n B dX12_says_12 (x := nI 1) rfl ?_
  refine Z.bipush B dX12_says_13 (v := nI 6) rfl ?_
  refine Z.icmp_leN B dX12_says_15 (tgt := 24) rfl (by omega) (by omega) (fun h15 => ?_) (fun h15 => by exfalso; first | omega | contradiction | simp_all)
  refine Z.aload_n B dX12_says_24 (v := .ref 45) rfl rfl ?_
  refine Z.getR (σ := σ) B fX12_41_12 dX12_says_25 (hl.n (k := 45) (by decide)) (hl.k (k := 45) (by decide)) (by decide) (j := 54) (hl.r (k := 45) (f := 13) (by decide) (by decide)) ?_
  refine Z.iload_n B dX12_says_28 (x := nI s) rfl ?_
  refine Z.iald (σ := σ) B dX12_says_29 (n := 8) (hl.n (k := 54) (by decide)) (hl.k (k := 54) (by decide)) (hl.l (k := 54) (by decide)) (by decide) (j := s) rfl (by omega) (v := nI 2) hh.1 ?_
  refine Z.iconst B dX12_says_30 (v := nI 1) rfl ?_
  refine Z.icmp_neN B dX12_says_31 (tgt := 41) rfl (by omega) (by omega) (fun h31 => ?_) (fun h31 => by exfalso; first | omega | contradiction | simp_all)
  refine Z.aload_n B dX12_says_41 (v := .ref 45) rfl rfl ?_
  refine Z.getR (σ := σ) B fX12_41_12 dX12_says_42 (hl.n (k := 45) (by decide)) (hl.k (k := 45) (by decide)) (by decide) (j := 54) (hl.r (k := 45) (f := 13) (by decide) (by decide)) ?_
  refine Z.iload_n B dX12_says_45 (x := nI s) rfl ?_
  refine Z.iald (σ := σ) B dX12_says_46 (n := 8) (hl.n (k := 54) (by decide)) (hl.k (k := 54) (by decide)) (hl.l (k := 54) (by decide)) (by decide) (j := s) rfl (by omega) (v := nI 2) hh.1 ?_
  refine Z.if_neN B dX12_says_47 (tgt := 57) rfl (by omega) (fun h47 => ?_) (fun h47 => by exfalso; first | omega | contradiction | simp_all)
  refine Z.aload_n B dX12_says_57 (v := .ref 45) rfl rfl ?_
  refine Z.getR (σ := σ) B fX12_50_12 dX12_says_58 (hl.n (k := 45) (by decide)) (hl.k (k := 45) (by decide)) (by decide) (j := 57) (hl.r (k := 45) (f := 16) (by decide) (by decide)) ?_
  refine Z.iload_n B dX12_says_61 (x := nI s) rfl ?_
  refine Z.iald (σ := σ) B dX12_says_62 (n := 8) (hl.n (k := 57) (by decide)) (hl.k (k := 57) (by decide)) (hl.l (k := 57) (by decide)) (by decide) (j := s) rfl (by omega) (v := nI i8) hh.2.1 ?_
  refine Z.istore_n B dX12_says_63 (by decide) (L' := [(0, .ref 45), (1, .int (nI s)), (2, .int (nI 1)), (3, .int (nI i8))]) rfl ?_
  refine Z.aload_n B dX12_says_64 (v := .ref 45) rfl rfl ?_
  refine Z.getR (σ := σ) B fX12_35_12 dX12_says_65 (hl.n (k := 45) (by decide)) (hl.k (k := 45) (by decide)) (by decide) (j := 52) (hl.r (k := 45) (f := 11) (by decide) (by decide)) ?_
  refine Z.iload_n B dX12_says_68 (x := nI i8) rfl ?_
  refine Z.iald (σ := σ) B dX12_says_69 (n := 8) (hl.n (k := 52) (by decide)) (hl.k (k := 52) (by decide)) (hl.l (k := 52) (by decide)) (by decide) (j := i8) rfl (by omega) (v := nI 2) hw.1 ?_
  refine Z.istore B dX12_says_70 (by decide) (L' := [(0, .ref 45), (1, .int (nI s)), (2, .int (nI 1)), (3, .int (nI i8)), (4, .int (nI 2))]) rfl ?_
  refine Z.iload_n B dX12_says_72 (x := nI 1) rfl ?_
  refine Z.if_eqN B dX12_says_73 (tgt := 112) rfl (by omega) (fun h73 => by exfalso; first | omega | contradiction | simp_all) (fun h73 => ?_)
  refine Z.iload_n B dX12_says_76 (x := nI 1) rfl ?_
  refine Z.iload B dX12_says_77 (x := nI 2) rfl ?_
  refine Z.icmp_eqN B dX12_says_79 (tgt := 112) rfl (by omega) (by omega) (fun h79 => by exfalso; first | omega | contradiction | simp_all) (fun h79 => ?_)
  refine Z.iload_n B dX12_says_82 (x := nI 1) rfl ?_
  refine Z.iconst B dX12_says_83 (v := nI 1) rfl ?_
  refine Z.icmp_neN B dX12_says_84 (tgt := 93) rfl (by omega) (by omega) (fun h84 => by exfalso; first | omega | contradiction | simp_all) (fun h84 => ?_)
  refine Z.iload B dX12_says_87 (x := nI 2) rfl ?_
  refine Z.iconst B dX12_says_89 (v := nI 2) rfl ?_
  refine Z.icmp_eqN B dX12_says_90 (tgt := 112) rfl (by omega) (by omega) (fun h90 => ?_) (fun h90 => by exfalso; first | omega | contradiction | simp_all)
  refine Z.iload_n B dX12_says_112 (x := nI 1) rfl ?_
  refine Z.tabIn B dX12_says_113 (by decide) (by decide) (off := 206) (by decide) (tgt := 319) rfl ?_
  refine Z.aload_n B dX12_says_319 (v := .ref 45) rfl rfl ?_
  refine Z.iload_n B dX12_says_320 (x := nI i8) rfl ?_
  refine Z.callVI (σ := σ) B (M' := mX12_feeling) (as := [.int (nI i8)]) (st := []) (v := .int (nI (pa % 11 / 2))) dX12_says_321 wX12_feeling iX12_feeling sX12_feeling kX12_108 (hl.n (k := 45) (by decide)) (hl.k (k := 45) (by decide)) (by decide) rfl rfl (t_X12_feeling_2 (σ := σ) H hw) rfl rfl (by decide) (by decide) (Nat.le_of_ble_eq_true rfl) (by decide) (by decide) ?_
  refine Z.iret B Rt dX12_says_324 (ty := .int) rfl rfl (by decide) (by decide) ?_
  exact ⟨rfl, rfl⟩

theorem t_M_says_0_2_2 {σ : zSt} (hl : Lay σ) {n a y : Nat} (H : zMd σ n a y) {od : Nat → Nat} (ho : zMo σ a od) {pos : Nat → Nat} (hpo : zPo a od pos) {s : Nat} (hs : s < 8) {i8 : Nat} (hh : zMa σ s i8) {pa : Nat} (hi : i8 < y) (hw : zMy σ i8 2 pa) (hg : zX σ 45 28 = (-1))  : Dt mX12_says [.ref 45, .int (nI s), .int (nI 2)] σ (some (.int (nI (pa % 11 / 2)))) σ := by
  obtain ⟨-, hn, hn8, ha, ha4, hy, hy8⟩ := id H
  have hi88 := hh.2.2
  have hpa := hw.2.2.2.1
  refine Dt.of (by decide) (Nat.le_of_ble_eq_true rfl) fun κ B Rt => ?_
  show Z κ 0 0 σ 0 [(0, .ref 45), (1, .int (nI s)), (2, .int (nI 2))] []
  refine Z.aload_n B dX12_says_0 (v := .ref 45) rfl rfl ?_
  refine Z.iload_n B dX12_says_1 (x := nI s) rfl ?_
  refine Z.callVI (σ := σ) B (M' := mX12_isShelf) (as := [.int (nI s)]) (st := []) (v := .int (nI 1)) dX12_says_2 wX12_isShelf iX12_isShelf sX12_isShelf kX12_90 (hl.n (k := 45) (by decide)) (hl.k (k := 45) (by decide)) (by decide) rfl rfl (t_X12_isShelf_in (σ := σ) hs) rfl rfl (by decide) (by decide) (Nat.le_of_ble_eq_true rfl) (by decide) (by decide) ?_
  refine Z.if_eqN B dX12_says_5 (tgt := 18) rfl (by omega) (fun h5 => by exfalso; first | omega | contradiction | simp_all) (fun h5 => ?_)
  refine Z.iload_n B dX12_says_8 (x := nI 2) rfl ?_
  refine Z.if_ltN B dX12_says_9 (tgt := 18) rfl (by omega) ?_
  refine Z.iload_n B dX12_says_12 (x := nI 2) rfl ?_
  refine Z.bipush B dX12_says_13 (v := nI 6) rfl ?_
  refine Z.icmp_leN B dX12_says_15 (tgt := 24) rfl (by omega) (by omega) (fun h15 => ?_) (fun h15 => by exfalso; first | omega | contradiction | simp_all)
  refine Z.aload_n B dX12_says_24 (v := .ref 45) rfl rfl ?_
  refine Z.getR (σ := σ) B fX12_41_12 dX12_says_25 (hl.n (k := 45) (by decide)) (hl.k (k := 45) (by decide)) (by decide) (j := 54) (hl.r (k := 45) (f := 13) (by decide) (by decide)) ?_
  refine Z.iload_n B dX12_says_28 (x := nI s) rfl ?_
  refine Z.iald (σ := σ) B dX12_says_29 (n := 8) (hl.n (k := 54) (by decide)) (hl.k (k := 54) (by decide)) (hl.l (k := 54) (by decide)) (by decide) (j := s) rfl (by omega) (v := nI 2) hh.1 ?_
  refine Z.iconst B dX12_says_30 (v := nI 1) rfl ?_
  refine Z.icmp_neN B dX12_says_31 (tgt := 41) rfl (by omega) (by omega) (fun h31 => ?_) (fun h31 => by exfalso; first | omega | contradiction | simp_all)
  refine Z.aload_n B dX12_says_41 (v := .ref 45) rfl rfl ?_
  refine Z.getR (σ := σ) B fX12_41_12 dX12_says_42 (hl.n (k := 45) (by decide)) (hl.k (k := 45) (by decide)) (by decide) (j := 54) (hl.r (k := 45) (f := 13) (by decide) (by decide)) ?_
  refine Z.iload_n B dX12_says_45 (x := nI s) rfl ?_
  refine Z.iald (σ := σ) B dX12_says_46 (n := 8) (hl.n (k := 54) (by decide)) (hl.k (k := 54) (by decide)) (hl.l (k := 54) (by decide)) (by decide) (j := s) rfl (by omega) (v := nI 2) hh.1 ?_
  refine Z.if_neN B dX12_says_47 (tgt := 57) rfl (by omega) (fun h47 => ?_) (fun h47 => by exfalso; first | omega | contradiction | simp_all)
  refine Z.aload_n B dX12_says_57 (v := .ref 45) rfl rfl ?_
  refine Z.getR (σ := σ) B fX12_50_12 dX12_says_58 (hl.n (k := 45) (by decide)) (hl.k (k := 45) (by decide)) (by decide) (j := 57) (hl.r (k := 45) (f := 16) (by decide) (by decide)) ?_
  refine Z.iload_n B dX12_says_61 (x := nI s) rfl ?_
  refine Z.iald (σ := σ) B dX12_says_62 (n := 8) (hl.n (k := 57) (by decide)) (hl.k (k := 57) (by decide)) (hl.l (k := 57) (by decide)) (by decide) (j := s) rfl (by omega) (v := nI i8) hh.2.1 ?_
  refine Z.istore_n B dX12_says_63 (by decide) (L' := [(0, .ref 45), (1, .int (nI s)), (2, .int (nI 2)), (3, .int (nI i8))]) rfl ?_
  refine Z.aload_n B dX12_says_64 (v := .ref 45) rfl rfl ?_
  refine Z.getR (σ := σ) B fX12_35_12 dX12_says_65 (hl.n (k := 45) (by decide)) (hl.k (k := 45) (by decide)) (by decide) (j := 52) (hl.r (k := 45) (f := 11) (by decide) (by decide)) ?_
  refine Z.iload_n B dX12_says_68 (x := nI i8) rfl ?_
  refine Z.iald (σ := σ) B dX12_says_69 (n := 8) (hl.n (k := 52) (by decide)) (hl.k (k := 52) (by decide)) (hl.l (k := 52) (by decide)) (by decide) (j := i8) rfl (by omega) (v := nI 2) hw.1 ?_
  refine Z.istore B dX12_says_70 (by decide) (L' := [(0, .ref 45), (1, .int (nI s)), (2, .int (nI 2)), (3, .int (nI i8)), (4, .int (nI 2))]) rfl ?_
  refine Z.iload_n B dX12_says_72 (x := nI 2) rfl ?_
  refine Z.if_eqN B dX12_says_73 (tgt := 112) rfl (by omega) (fun h73 => by exfalso; first | omega | contradiction | simp_all) (fun h73 => ?_)
  refine Z.iload_n B dX12_says_76 (x := nI 2) rfl ?_
  refine Z.iload B dX12_says_77 (x := nI 2) rfl ?_
  refine Z.icmp_eqN B dX12_says_79 (tgt := 112) rfl (by omega) (by omega) (fun h79 => ?_) (fun h79 => by exfalso; first | omega | contradiction | simp_all)
  refine Z.iload_n B dX12_says_112 (x := nI 2) rfl ?_
  refine Z.tabIn B dX12_says_113 (by decide) (by decide) (off := 206) (by decide) (tgt := 319) rfl ?_
  refine Z.aload_n B dX12_says_319 (v := .ref 45) rfl rfl ?_
  refine Z.iload_n B dX12_says_320 (x := nI i8) rfl ?_
  refine Z.callVI (σ := σ) B (M' := mX12_feeling) (as := [.int (nI i8)]) (st := []) (v := .int (nI (pa % 11 / 2))) dX12_says_321 wX12_feeling iX12_feeling sX12_feeling kX12_108 (hl.n (k := 45) (by decide)) (hl.k (k := 45) (by decide)) (by decide) rfl rfl (t_X12_feeling_2 (σ := σ) H hw) rfl rfl (by decide) (by decide) (Nat.le_of_ble_eq_true rfl) (by decide) (by decide) ?_
  refine Z.iret B Rt dX12_says_324 (ty := .int) rfl rfl (by decide) (by decide) ?_
  exact ⟨rfl, rfl⟩

theorem t_M_says_0_2_3 {σ : zSt} (hl : Lay σ) {n a y : Nat} (H : zMd σ n a y) {od : Nat → Nat} (ho : zMo σ a od) {pos : Nat → Nat} (hpo : zPo a od pos) {s : Nat} (hs : s < 8) {i8 : Nat} (hh : zMa σ s i8) {pa : Nat} (hi : i8 < y) (hw : zMy σ i8 2 pa) (hg : zX σ 45 28 = (-1))  : Dt mX12_says [.ref 45, .int (nI s), .int (nI 3)] σ (some (.int (-2))) (zuX σ 46 (upd (zX σ 46) 2 (zX σ 46 2 + nI 1))) := by
  obtain ⟨-, hn, hn8, ha, ha4, hy, hy8⟩ := id H
  have hi88 := hh.2.2
  have hpa := hw.2.2.2.1
  refine Dt.of (by decide) (Nat.le_of_ble_eq_true rfl) fun κ B Rt => ?_
  show Z κ 0 0 σ 0 [(0, .ref 45), (1, .int (nI s)), (2, .int (nI 3))] []
  refine Z.aload_n B dX12_says_0 (v := .ref 45) rfl rfl ?_
  refine Z.iload_n B dX12_says_1 (x := nI s) rfl ?_
  refine Z.callVI (σ := σ) B (M' := mX12_isShelf) (as := [.int (nI s)]) (st := []) (v := .int (nI 1)) dX12_says_2 wX12_isShelf iX12_isShelf sX12_isShelf kX12_90 (hl.n (k := 45) (by decide)) (hl.k (k := 45) (by decide)) (by decide) rfl rfl (t_X12_isShelf_in (σ := σ) hs) rfl rfl (by decide) (by decide) (Nat.le_of_ble_eq_true rfl) (by decide) (by decide) ?_
  refine Z.if_eqN B dX12_says_5 (tgt := 18) rfl (by omega) (fun h5 => by exfalso; first | omega | contradiction | simp_all) (fun h5 => ?_)
  refine Z.iload_n B dX12_says_8 (x := nI 3) rfl ?_
  refine Z.if_ltN B dX12_says_9 (tgt := 18) rfl (by omega) ?_
  refine Z.iload_n B dX12_says_12 (x := nI 3) rfl ?_
  refine Z.bipush B dX12_says_13 (v := nI 6) rfl ?_
  refine Z.icmp_leN B dX12_says_15 (tgt := 24) rfl (by omega) (by omega) (fun h15 => ?_) (fun h15 => by exfalso; first | omega | contradiction | simp_all)
  refine Z.aload_n B dX12_says_24 (v := .ref 45) rfl rfl ?_
  refine Z.getR (σ := σ) B fX12_41_12 dX12_says_25 (hl.n (k := 45) (by decide)) (hl.k (k := 45) (by decide)) (by decide) (j := 54) (hl.r (k := 45) (f := 13) (by decide) (by decide)) ?_
  refine Z.iload_n B dX12_says_28 (x := nI s) rfl ?_
  refine Z.iald (σ := σ) B dX12_says_29 (n := 8) (hl.n (k := 54) (by decide)) (hl.k (k := 54) (by decide)) (hl.l (k := 54) (by decide)) (by decide) (j := s) rfl (by omega) (v := nI 2) hh.1 ?_
  refine Z.iconst B dX12_says_30 (v := nI 1) rfl ?_
  refine Z.icmp_neN B dX12_says_31 (tgt := 41) rfl (by omega) (by omega) (fun h31 => ?_) (fun h31 => by exfalso; first | omega | contradiction | simp_all)
  refine Z.aload_n B dX12_says_41 (v := .ref 45) rfl rfl ?_
  refine Z.getR (σ := σ) B fX12_41_12 dX12_says_42 (hl.n (k := 45) (by decide)) (hl.k (k := 45) (by decide)) (by decide) (j := 54) (hl.r (k := 45) (f := 13) (by decide) (by decide)) ?_
  refine Z.iload_n B dX12_says_45 (x := nI s) rfl ?_
  refine Z.iald (σ := σ) B dX12_says_46 (n := 8) (hl.n (k := 54) (by decide)) (hl.k (k := 54) (by decide)) (hl.l (k := 54) (by decide)) (by decide) (j := s) rfl (by omega) (v := nI 2) hh.1 ?_
  refine Z.if_neN B dX12_says_47 (tgt := 57) rfl (by omega) (fun h47 => ?_) (fun h47 => by exfalso; first | omega | contradiction | simp_all)
  refine Z.aload_n B dX12_says_57 (v := .ref 45) rfl rfl ?_
  refine Z.getR (σ := σ) B fX12_50_12 dX12_says_58 (hl.n (k := 45) (by decide)) (hl.k (k := 45) (by decide)) (by decide) (j := 57) (hl.r (k := 45) (f := 16) (by decide) (by decide)) ?_
  refine Z.iload_n B dX12_says_61 (x := nI s) rfl ?_
  refine Z.iald (σ := σ) B dX12_says_62 (n := 8) (hl.n (k := 57) (by decide)) (hl.k (k := 57) (by decide)) (hl.l (k := 57) (by decide)) (by decide) (j := s) rfl (by omega) (v := nI i8) hh.2.1 ?_
  refine Z.istore_n B dX12_says_63 (by decide) (L' := [(0, .ref 45), (1, .int (nI s)), (2, .int (nI 3)), (3, .int (nI i8))]) rfl ?_
  refine Z.aload_n B dX12_says_64 (v := .ref 45) rfl rfl ?_
  refine Z.getR (σ := σ) B fX12_35_12 dX12_says_65 (hl.n (k := 45) (by decide)) (hl.k (k := 45) (by decide)) (by decide) (j := 52) (hl.r (k := 45) (f := 11) (by decide) (by decide)) ?_
  refine Z.iload_n B dX12_says_68 (x := nI i8) rfl ?_
  refine Z.iald (σ := σ) B dX12_says_69 (n := 8) (hl.n (k := 52) (by decide)) (hl.k (k := 52) (by decide)) (hl.l (k := 52) (by decide)) (by decide) (j := i8) rfl (by omega) (v := nI 2) hw.1 ?_
  refine Z.istore B dX12_says_70 (by decide) (L' := [(0, .ref 45), (1, .int (nI s)), (2, .int (nI 3)), (3, .int (nI i8)), (4, .int (nI 2))]) rfl ?_
  refine Z.iload_n B dX12_says_72 (x := nI 3) rfl ?_
  refine Z.if_eqN B dX12_says_73 (tgt := 112) rfl (by omega) (fun h73 => by exfalso; first | omega | contradiction | simp_all) (fun h73 => ?_)
  refine Z.iload_n B dX12_says_76 (x := nI 3) rfl ?_
  refine Z.iload B dX12_says_77 (x := nI 2) rfl ?_
  refine Z.icmp_eqN B dX12_says_79 (tgt := 112) rfl (by omega) (by omega) (fun h79 => by exfalso; first | omega | contradiction | simp_all) (fun h79 => ?_)
  refine Z.iload_n B dX12_says_82 (x := nI 3) rfl ?_
  refine Z.iconst B dX12_says_83 (v := nI 1) rfl ?_
  refine Z.icmp_neN B dX12_says_84 (tgt := 93) rfl (by omega) (by omega) (fun h84 => ?_) (fun h84 => by exfalso; first | omega | contradiction | simp_all)
  refine Z.iload_n B dX12_says_93 (x := nI 3) rfl ?_
  refine Z.iconst B dX12_says_94 (v := nI 5) rfl ?_
  refine Z.icmp_neN B dX12_says_95 (tgt := 105) rfl (by omega) (by omega) (fun h95 => ?_) (fun h95 => by exfalso; first | omega | contradiction | simp_all)
  refine Z.aload_n B dX12_says_105 (v := .ref 45) rfl rfl ?_
  refine Z.bipush B dX12_says_106 (v := (-2)) rfl ?_
  refine Z.callVI (σ := σ) B (M' := mX12_no) (as := [.int (-2)]) (st := []) (v := .int (-2)) dX12_says_108 wX12_no iX12_no sX12_no kX12_94 (hl.n (k := 45) (by decide)) (hl.k (k := 45) (by decide)) (by decide) rfl rfl (t_X12_no_2 (σ := σ) hl) rfl rfl (by decide) (by decide) (Nat.le_of_ble_eq_true rfl) (by decide) (by decide) ?_
  refine Z.eqσ (τ := (zuX σ 46 (upd (zX σ 46) 2 (zX σ 46 2 + nI 1)))) rfl ?_
  refine Z.iret B Rt dX12_says_111 (ty := .int) rfl rfl (by decide) (by decide) ?_
  exact ⟨rfl, rfl⟩

theorem t_M_says_0_2_4 {σ : zSt} (hl : Lay σ) {n a y : Nat} (H : zMd σ n a y) {od : Nat → Nat} (ho : zMo σ a od) {pos : Nat → Nat} (hpo : zPo a od pos) {s : Nat} (hs : s < 8) {i8 : Nat} (hh : zMa σ s i8) {pa : Nat} (hi : i8 < y) (hw : zMy σ i8 2 pa) (hg : zX σ 45 28 = (-1))  : Dt mX12_says [.ref 45, .int (nI s), .int (nI 4)] σ (some (.int (-2))) (zuX σ 46 (upd (zX σ 46) 2 (zX σ 46 2 + nI 1))) := by
  obtain ⟨-, hn, hn8, ha, ha4, hy, hy8⟩ := id H
  have hi88 := hh.2.2
  have hpa := hw.2.2.2.1
  refine Dt.of (by decide) (Nat.le_of_ble_eq_true rfl) fun κ B Rt => ?_
  show Z κ 0 0 σ 0 [(0, .ref 45), (1, .int (nI s)), (2, .int (nI 4))] []
  refine Z.aload_n B dX12_says_0 (v := .ref 45) rfl rfl ?_
  refine Z.iload_n B dX12_says_1 (x := nI s) rfl ?_
  refine Z.callVI (σ := σ) B (M' := mX12_isShelf) (as := [.int (nI s)]) (st := []) (v := .int (nI 1)) dX12_says_2 wX12_isShelf iX12_isShelf sX12_isShelf kX12_90 (hl.n (k := 45) (by decide)) (hl.k (k := 45) (by decide)) (by decide) rfl rfl (t_X12_isShelf_in (σ := σ) hs) rfl rfl (by decide) (by decide) (Nat.le_of_ble_eq_true rfl) (by decide) (by decide) ?_
  refine Z.if_eqN B dX12_says_5 (tgt := 18) rfl (by omega) (fun h5 => by exfalso; first | omega | contradiction | simp_all) (fun h5 => ?_)
  refine Z.iload_n B dX12_says_8 (x := nI 4) rfl ?_
  refine Z.if_ltN B dX12_says_9 (tgt := 18) rfl (by omega) ?_
  refine Z.iload_n B dX12_says_12 (x := nI 4) rfl ?_
  refine Z.bipush B dX12_says_13 (v := nI 6) rfl ?_
  refine Z.icmp_leN B dX12_says_15 (tgt := 24) rfl (by omega) (by omega) (fun h15 => ?_) (fun h15 => by exfalso; first | omega | contradiction | simp_all)
  refine Z.aload_n B dX12_says_24 (v := .ref 45) rfl rfl ?_
  refine Z.getR (σ := σ) B fX12_41_12 dX12_says_25 (hl.n (k := 45) (by decide)) (hl.k (k := 45) (by decide)) (by decide) (j := 54) (hl.r (k := 45) (f := 13) (by decide) (by decide)) ?_
  refine Z.iload_n B dX12_says_28 (x := nI s) rfl ?_
  refine Z.iald (σ := σ) B dX12_says_29 (n := 8) (hl.n (k := 54) (by decide)) (hl.k (k := 54) (by decide)) (hl.l (k := 54) (by decide)) (by decide) (j := s) rfl (by omega) (v := nI 2) hh.1 ?_
  refine Z.iconst B dX12_says_30 (v := nI 1) rfl ?_
  refine Z.icmp_neN B dX12_says_31 (tgt := 41) rfl (by omega) (by omega) (fun h31 => ?_) (fun h31 => by exfalso; first | omega | contradiction | simp_all)
  refine Z.aload_n B dX12_says_41 (v := .ref 45) rfl rfl ?_
  refine Z.getR (σ := σ) B fX12_41_12 dX12_says_42 (hl.n (k := 45) (by decide)) (hl.k (k := 45) (by decide)) (by decide) (j := 54) (hl.r (k := 45) (f := 13) (by decide) (by decide)) ?_
  refine Z.iload_n B dX12_says_45 (x := nI s) rfl ?_
  refine Z.iald (σ := σ) B dX12_says_46 (n := 8) (hl.n (k := 54) (by decide)) (hl.k (k := 54) (by decide)) (hl.l (k := 54) (by decide)) (by decide) (j := s) rfl (by omega) (v := nI 2) hh.1 ?_
  refine Z.if_neN B dX12_says_47 (tgt := 57) rfl (by omega) (fun h47 => ?_) (fun h47 => by exfalso; first | omega | contradiction | simp_all)
  refine Z.aload_n B dX12_says_57 (v := .ref 45) rfl rfl ?_
  refine Z.getR (σ := σ) B fX12_50_12 dX12_says_58 (hl.n (k := 45) (by decide)) (hl.k (k := 45) (by decide)) (by decide) (j := 57) (hl.r (k := 45) (f := 16) (by decide) (by decide)) ?_
  refine Z.iload_n B dX12_says_61 (x := nI s) rfl ?_
  refine Z.iald (σ := σ) B dX12_says_62 (n := 8) (hl.n (k := 57) (by decide)) (hl.k (k := 57) (by decide)) (hl.l (k := 57) (by decide)) (by decide) (j := s) rfl (by omega) (v := nI i8) hh.2.1 ?_
  refine Z.istore_n B dX12_says_63 (by decide) (L' := [(0, .ref 45), (1, .int (nI s)), (2, .int (nI 4)), (3, .int (nI i8))]) rfl ?_
  refine Z.aload_n B dX12_says_64 (v := .ref 45) rfl rfl ?_
  refine Z.getR (σ := σ) B fX12_35_12 dX12_says_65 (hl.n (k := 45) (by decide)) (hl.k (k := 45) (by decide)) (by decide) (j := 52) (hl.r (k := 45) (f := 11) (by decide) (by decide)) ?_
  refine Z.iload_n B dX12_says_68 (x := nI i8) rfl ?_
  refine Z.iald (σ := σ) B dX12_says_69 (n := 8) (hl.n (k := 52) (by decide)) (hl.k (k := 52) (by decide)) (hl.l (k := 52) (by decide)) (by decide) (j := i8) rfl (by omega) (v := nI 2) hw.1 ?_
  refine Z.istore B dX12_says_70 (by decide) (L' := [(0, .ref 45), (1, .int (nI s)), (2, .int (nI 4)), (3, .int (nI i8)), (4, .int (nI 2))]) rfl ?_
  refine Z.iload_n B dX12_says_72 (x := nI 4) rfl ?_
  refine Z.if_eqN B dX12_says_73 (tgt := 112) rfl (by omega) (fun h73 => by exfalso; first | omega | contradiction | simp_all) (fun h73 => ?_)
  refine Z.iload_n B dX12_says_76 (x := nI 4) rfl ?_
  refine Z.iload B dX12_says_77 (x := nI 2) rfl ?_
  refine Z.icmp_eqN B dX12_says_79 (tgt := 112) rfl (by omega) (by omega) (fun h79 => by exfalso; first | omega | contradiction | simp_all) (fun h79 => ?_)
  refine Z.iload_n B dX12_says_82 (x := nI 4) rfl ?_
  refine Z.iconst B dX12_says_83 (v := nI 1) rfl ?_
  refine Z.icmp_neN B dX12_says_84 (tgt := 93) rfl (by omega) (by omega) (fun h84 => ?_) (fun h84 => by exfalso; first | omega | contradiction | simp_all)
  refine Z.iload_n B dX12_says_93 (x := nI 4) rfl ?_
  refine Z.iconst B dX12_says_94 (v := nI 5) rfl ?_
  refine Z.icmp_neN B dX12_says_95 (tgt := 105) rfl (by omega) (by omega) (fun h95 => ?_) (fun h95 => by exfalso; first | omega | contradiction | simp_all)
  refine Z.aload_n B dX12_says_105 (v := .ref 45) rfl rfl ?_
  refine Z.bipush B dX12_says_106 (v := (-2)) rfl ?_
  refine Z.callVI (σ := σ) B (M' := mX12_no) (as := [.int (-2)]) (st := []) (v := .int (-2)) dX12_says_108 wX12_no iX12_no sX12_no kX12_94 (hl.n (k := 45) (by decide)) (hl.k (k := 45) (by decide)) (by decide) rfl rfl (t_X12_no_2 (σ := σ) hl) rfl rfl (by decide) (by decide) (Nat.le_of_ble_eq_true rfl) (by decide) (by decide) ?_
  refine Z.eqσ (τ := (zuX σ 46 (upd (zX σ 46) 2 (zX σ 46 2 + nI 1)))) rfl ?_
  refine Z.iret B Rt dX12_says_111 (ty := .int) rfl rfl (by decide) (by decide) ?_
  exact ⟨rfl, rfl⟩

theorem t_M_says_0_2_5 {σ : zSt} (hl : Lay σ) {n a y : Nat} (H : zMd σ n a y) {od : Nat → Nat} (ho : zMo σ a od) {pos : Nat → Nat} (hpo : zPo a od pos) {s : Nat} (hs : s < 8) {i8 : Nat} (hh : zMa σ s i8) {pa : Nat} (hi : i8 < y) (hw : zMy σ i8 2 pa) (hg : zX σ 45 28 = (-1))  : Dt mX12_says [.ref 45, .int (nI s), .int (nI 5)] σ (some (.int (-2))) (zuX σ 46 (upd (zX σ 46) 2 (zX σ 46 2 + nI 1))) := by
  obtain ⟨-, hn, hn8, ha, ha4, hy, hy8⟩ := id H
  have hi88 := hh.2.2
  have hpa := hw.2.2.2.1
  refine Dt.of (by decide) (Nat.le_of_ble_eq_true rfl) fun κ B Rt => ?_
  show Z κ 0 0 σ 0 [(0, .ref 45), (1, .int (nI s)), (2, .int (nI 5))] []
  refine Z.aload_n B dX12_says_0 (v := .ref 45) rfl rfl ?_
  refine Z.iload_n B dX12_says_1 (x := nI s) rfl ?_
  refine Z.callVI (σ := σ) B (M' := mX12_isShelf) (as := [.int (nI s)]) (st := []) (v := .int (nI 1)) dX12_says_2 wX12_isShelf iX12_isShelf sX12_isShelf kX12_90 (hl.n (k := 45) (by decide)) (hl.k (k := 45) (by decide)) (by decide) rfl rfl (t_X12_isShelf_in (σ := σ) hs) rfl rfl (by decide) (by decide) (Nat.le_of_ble_eq_true rfl) (by decide) (by decide) ?_
  refine Z.if_eqN B dX12_says_5 (tgt := 18) rfl (by omega) (fun h5 => by exfalso; first | omega | contradiction | simp_all) (fun h5 => ?_)
  refine Z.iload_n B dX12_says_8 (x := nI 5) rfl ?_
  refine Z.if_ltN B dX12_says_9 (tgt := 18) rfl (by omega) ?_
  refine Z.iload_n B dX12_says_12 (x := nI 5) rfl ?_
  refine Z.bipush B dX12_says_13 (v := nI 6) rfl ?_
  refine Z.icmp_leN B dX12_says_15 (tgt := 24) rfl (by omega) (by omega) (fun h15 => ?_) (fun h15 => by exfalso; first | omega | contradiction | simp_all)
  refine Z.aload_n B dX12_says_24 (v := .ref 45) rfl rfl ?_
  refine Z.getR (σ := σ) B fX12_41_12 dX12_says_25 (hl.n (k := 45) (by decide)) (hl.k (k := 45) (by decide)) (by decide) (j := 54) (hl.r (k := 45) (f := 13) (by decide) (by decide)) ?_
  refine Z.iload_n B dX12_says_28 (x := nI s) rfl ?_
  refine Z.iald (σ := σ) B dX12_says_29 (n := 8) (hl.n (k := 54) (by decide)) (hl.k (k := 54) (by decide)) (hl.l (k := 54) (by decide)) (by decide) (j := s) rfl (by omega) (v := nI 2) hh.1 ?_
  refine Z.iconst B dX12_says_30 (v := nI 1) rfl ?_
  refine Z.icmp_neN B dX12_says_31 (tgt := 41) rfl (by omega) (by omega) (fun h31 => ?_) (fun h31 => by exfalso; first | omega | contradiction | simp_all)
  refine Z.aload_n B dX12_says_41 (v := .ref 45) rfl rfl ?_
  refine Z.getR (σ := σ) B fX12_41_12 dX12_says_42 (hl.n (k := 45) (by decide)) (hl.k (k := 45) (by decide)) (by decide) (j := 54) (hl.r (k := 45) (f := 13) (by decide) (by decide)) ?_
  refine Z.iload_n B dX12_says_45 (x := nI s) rfl ?_
  refine Z.iald (σ := σ) B dX12_says_46 (n := 8) (hl.n (k := 54) (by decide)) (hl.k (k := 54) (by decide)) (hl.l (k := 54) (by decide)) (by decide) (j := s) rfl (by omega) (v := nI 2) hh.1 ?_
  refine Z.if_neN B dX12_says_47 (tgt := 57) rfl (by omega) (fun h47 => ?_) (fun h47 => by exfalso; first | omega | contradiction | simp_all)
  refine Z.aload_n B dX12_says_57 (v := .ref 45) rfl rfl ?_
  refine Z.getR (σ := σ) B fX12_50_12 dX12_says_58 (hl.n (k := 45) (by decide)) (hl.k (k := 45) (by decide)) (by decide) (j := 57) (hl.r (k := 45) (f := 16) (by decide) (by decide)) ?_
  refine Z.iload_n B dX12_says_61 (x := nI s) rfl ?_
  refine Z.iald (σ := σ) B dX12_says_62 (n := 8) (hl.n (k := 57) (by decide)) (hl.k (k := 57) (by decide)) (hl.l (k := 57) (by decide)) (by decide) (j := s) rfl (by omega) (v := nI i8) hh.2.1 ?_
  refine Z.istore_n B dX12_says_63 (by decide) (L' := [(0, .ref 45), (1, .int (nI s)), (2, .int (nI 5)), (3, .int (nI i8))]) rfl ?_
  refine Z.aload_n B dX12_says_64 (v := .ref 45) rfl rfl ?_
  refine Z.getR (σ := σ) B fX12_35_12 dX12_says_65 (hl.n (k := 45) (by decide)) (hl.k (k := 45) (by decide)) (by decide) (j := 52) (hl.r (k := 45) (f := 11) (by decide) (by decide)) ?_
  refine Z.iload_n B dX12_says_68 (x := nI i8) rfl ?_
  refine Z.iald (σ := σ) B dX12_says_69 (n := 8) (hl.n (k := 52) (by decide)) (hl.k (k := 52) (by decide)) (hl.l (k := 52) (by decide)) (by decide) (j := i8) rfl (by omega) (v := nI 2) hw.1 ?_
  refine Z.istore B dX12_says_70 (by decide) (L' := [(0, .ref 45), (1, .int (nI s)), (2, .int (nI 5)), (3, .int (nI i8)), (4, .int (nI 2))]) rfl ?_
  refine Z.iload_n B dX12_says_72 (x := nI 5) rfl ?_
  refine Z.if_eqN B dX12_says_73 (tgt := 112) rfl (by omega) (fun h73 => by exfalso; first | omega | contradiction | simp_all) (fun h73 => ?_)
  refine Z.iload_n B dX12_says_76 (x := nI 5) rfl ?_
  refine Z.iload B dX12_says_77 (x := nI 2) rfl ?_
  refine Z.icmp_eqN B dX12_says_79 (tgt := 112) rfl (by omega) (by omega) (fun h79 => by exfalso; first | omega | contradiction | simp_all) (fun h79 => ?_)
  refine Z.iload_n B dX12_says_82 (x := nI 5) rfl ?_
  refine Z.iconst B dX12_says_83 (v := nI 1) rfl ?_
  refine Z.icmp_neN B dX12_says_84 (tgt := 93) rfl (by omega) (by omega) (fun h84 => ?_) (fun h84 => by exfalso; first | omega | contradiction | simp_all)
  refine Z.iload_n B dX12_says_93 (x := nI 5) rfl ?_
  refine Z.iconst B dX12_says_94 (v := nI 5) rfl ?_
  refine Z.icmp_neN B dX12_says_95 (tgt := 105) rfl (by omega) (by omega) (fun h95 => by exfalso; first | omega | contradiction | simp_all) (fun h95 => ?_)
  refine Z.iload B dX12_says_98 (x := nI 2) rfl ?_
  refine Z.bipush B dX12_says_100 (v := nI 6) rfl ?_
  refine Z.icmp_eqN B dX12_says_102 (tgt := 112) rfl (by omega) (by omega) (fun h102 => by exfalso; first | omega | contradiction | simp_all) (fun h102 => ?_)
  refine Z.aload_n B dX12_says_105 (v := .ref 45) rfl rfl ?_
  refine Z.bipush B dX12_says_106 (v := (-2)) rfl ?_
  refine Z.callVI (σ := σ) B (M' := mX12_no) (as := [.int (-2)]) (st := []) (v := .int (-2)) dX12_says_108 wX12_no iX12_no sX12_no kX12_94 (hl.n (k := 45) (by decide)) (hl.k (k := 45) (by decide)) (by decide) rfl rfl (t_X12_no_2 (σ := σ) hl) rfl rfl (by decide) (by decide) (Nat.le_of_ble_eq_true rfl) (by decide) (by decide) ?_
  refine Z.eqσ (τ := (zuX σ 46 (upd (zX σ 46) 2 (zX σ 46 2 + nI 1)))) rfl ?_
  refine Z.iret B Rt dX12_says_111 (ty := .int) rfl rfl (by decide) (by decide) ?_
  exact ⟨rfl, rfl⟩

theorem t_M_says_0_2_6 {σ : zSt} (hl : Lay σ) {n a y : Nat} (H : zMd σ n a y) {od : Nat → Nat} (ho : zMo σ a od) {pos : Nat → Nat} (hpo : zPo a od pos) {s : Nat} (hs : s < 8) {i8 : Nat} (hh : zMa σ s i8) {pa : Nat} (hi : i8 < y) (hw : zMy σ i8 2 pa) (hg : zX σ 45 28 = (-1))  : Dt mX12_says [.ref 45, .int (nI s), .int (nI 6)] σ (some (.int (-2))) (zuX σ 46 (upd (zX σ 46) 2 (zX σ 46 2 + nI 1))) := by
  obtain ⟨-, hn, hn8, ha, ha4, hy, hy8⟩ := id H
  have hi88 := hh.2.2
  have hpa := hw.2.2.2.1
  refine Dt.of (by decide) (Nat.le_of_ble_eq_true rfl) fun κ B Rt => ?_
  show Z κ 0 0 σ 0 [(0, .ref 45), (1, .int (nI s)), (2, .int (nI 6))] []
  refine Z.aload_n B dX12_says_0 (v := .ref 45) rfl rfl ?_
  refine Z.iload_n B dX12_says_1 (x := nI s) rfl ?_
  refine Z.callVI (σ := σ) B (M' := mX12_isShelf) (as := [.int (nI s)]) (st := []) (v := .int (nI 1)) dX12_says_2 wX12_isShelf iX12_isShelf sX12_isShelf kX12_90 (hl.n (k := 45) (by decide)) (hl.k (k := 45) (by decide)) (by decide) rfl rfl (t_X12_isShelf_in (σ := σ) hs) rfl rfl (by decide) (by decide) (Nat.le_of_ble_eq_true rfl) (by decide) (by decide) ?_
  refine Z.if_eqN B dX12_says_5 (tgt := 18) rfl (by omega) (fun h5 => by exfalso; first | omega | contradiction | simp_all) (fun h5 => ?_)
  refine Z.iload_n B dX12_says_8 (x := nI 6) rfl ?_
  refine Z.if_ltN B dX12_says_9 (tgt := 18) rfl (by omega) ?_
  refine Z.iload_n B dX12_says_12 (x := nI 6) rfl ?_
  refine Z.bipush B dX12_says_13 (v := nI 6) rfl ?_
  refine Z.icmp_leN B dX12_says_15 (tgt := 24) rfl (by omega) (by omega) (fun h15 => ?_) (fun h15 => by exfalso; first | omega | contradiction | simp_all)
  refine Z.aload_n B dX12_says_24 (v := .ref 45) rfl rfl ?_
  refine Z.getR (σ := σ) B fX12_41_12 dX12_says_25 (hl.n (k := 45) (by decide)) (hl.k (k := 45) (by decide)) (by decide) (j := 54) (hl.r (k := 45) (f := 13) (by decide) (by decide)) ?_
  refine Z.iload_n B dX12_says_28 (x := nI s) rfl ?_
  refine Z.iald (σ := σ) B dX12_says_29 (n := 8) (hl.n (k := 54) (by decide)) (hl.k (k := 54) (by decide)) (hl.l (k := 54) (by decide)) (by decide) (j := s) rfl (by omega) (v := nI 2) hh.1 ?_
  refine Z.iconst B dX12_says_30 (v := nI 1) rfl ?_
  refine Z.icmp_neN B dX12_says_31 (tgt := 41) rfl (by omega) (by omega) (fun h31 => ?_) (fun h31 => by exfalso; first | omega | contradiction | simp_all)
  refine Z.aload_n B dX12_says_41 (v := .ref 45) rfl rfl ?_
  refine Z.getR (σ := σ) B fX12_41_12 dX12_says_42 (hl.n (k := 45) (by decide)) (hl.k (k := 45) (by decide)) (by decide) (j := 54) (hl.r (k := 45) (f := 13) (by decide) (by decide)) ?_
  refine Z.iload_n B dX12_says_45 (x := nI s) rfl ?_
  refine Z.iald (σ := σ) B dX12_says_46 (n := 8) (hl.n (k := 54) (by decide)) (hl.k (k := 54) (by decide)) (hl.l (k := 54) (by decide)) (by decide) (j := s) rfl (by omega) (v := nI 2) hh.1 ?_
  refine Z.if_neN B dX12_says_47 (tgt := 57) rfl (by omega) (fun h47 => ?_) (fun h47 => by exfalso; first | omega | contradiction | simp_all)
  refine Z.aload_n B dX12_says_57 (v := .ref 45) rfl rfl ?_
  refine Z.getR (σ := σ) B fX12_50_12 dX12_says_58 (hl.n (k := 45) (by decide)) (hl.k (k := 45) (by decide)) (by decide) (j := 57) (hl.r (k := 45) (f := 16) (by decide) (by decide)) ?_
  refine Z.iload_n B dX12_says_61 (x := nI s) rfl ?_
  refine Z.iald (σ := σ) B dX12_says_62 (n := 8) (hl.n (k := 57) (by decide)) (hl.k (k := 57) (by decide)) (hl.l (k := 57) (by decide)) (by decide) (j := s) rfl (by omega) (v := nI i8) hh.2.1 ?_
  refine Z.istore_n B dX12_says_63 (by decide) (L' := [(0, .ref 45), (1, .int (nI s)), (2, .int (nI 6)), (3, .int (nI i8))]) rfl ?_
  refine Z.aload_n B dX12_says_64 (v := .ref 45) rfl rfl ?_
  refine Z.getR (σ := σ) B fX12_35_12 dX12_says_65 (hl.n (k := 45) (by decide)) (hl.k (k := 45) (by decide)) (by decide) (j := 52) (hl.r (k := 45) (f := 11) (by decide) (by decide)) ?_
  refine Z.iload_n B dX12_says_68 (x := nI i8) rfl ?_
  refine Z.iald (σ := σ) B dX12_says_69 (n := 8) (hl.n (k := 52) (by decide)) (hl.k (k := 52) (by decide)) (hl.l (k := 52) (by decide)) (by decide) (j := i8) rfl (by omega) (v := nI 2) hw.1 ?_
  refine Z.istore B dX12_says_70 (by decide) (L' := [(0, .ref 45), (1, .int (nI s)), (2, .int (nI 6)), (3, .int (nI i8)), (4, .int (nI 2))]) rfl ?_
  refine Z.iload_n B dX12_says_72 (x := nI 6) rfl ?_
  refine Z.if_eqN B dX12_says_73 (tgt := 112) rfl (by omega) (fun h73 => by exfalso; first | omega | contradiction | simp_all) (fun h73 => ?_)
  refine Z.iload_n B dX12_says_76 (x := nI 6) rfl ?_
  refine Z.iload B dX12_says_77 (x := nI 2) rfl ?_
  refine Z.icmp_eqN B dX12_says_79 (tgt := 112) rfl (by omega) (by omega) (fun h79 => by exfalso; first | omega | contradiction | simp_all) (fun h79 => ?_)
  refine Z.iload_n B dX12_says_82 (x := nI 6) rfl ?_
  refine Z.iconst B dX12_says_83 (v := nI 1) rfl ?_
  refine Z.icmp_neN B dX12_says_84 (tgt := 93) rfl (by omega) (by omega) (fun h84 => ?_) (fun h84 => by exfalso; first | omega | contradiction | simp_all)
  refine Z.iload_n B dX12_says_93 (x := nI 6) rfl ?_
  refine Z.iconst B dX12_says_94 (v := nI 5) rfl ?_
  refine Z.icmp_neN B dX12_says_95 (tgt := 105) rfl (by omega) (by omega) (fun h95 => ?_) (fun h95 => by exfalso; first | omega | contradiction | simp_all)
  refine Z.aload_n B dX12_says_105 (v := .ref 45) rfl rfl ?_
  refine Z.bipush B dX12_says_106 (v := (-2)) rfl ?_
  refine Z.callVI (σ := σ) B (M' := mX12_no) (as := [.int (-2)]) (st := []) (v := .int (-2)) dX12_says_108 wX12_no iX12_no sX12_no kX12_94 (hl.n (k := 45) (by decide)) (hl.k (k := 45) (by decide)) (by decide) rfl rfl (t_X12_no_2 (σ := σ) hl) rfl rfl (by decide) (by decide) (Nat.le_of_ble_eq_true rfl) (by decide) (by decide) ?_
  refine Z.eqσ (τ := (zuX σ 46 (upd (zX σ 46) 2 (zX σ 46 2 + nI 1)))) rfl ?_
  refine Z.iret B Rt dX12_says_111 (ty := .int) rfl rfl (by decide) (by decide) ?_
  exact ⟨rfl, rfl⟩

theorem t_M_says_0_3_0 {σ : zSt} (hl : Lay σ) {n a y : Nat} (H : zMd σ n a y) {od : Nat → Nat} (ho : zMo σ a od) {pos : Nat → Nat} (hpo : zPo a od pos) {s : Nat} (hs : s < 8) {i8 : Nat} (hh : zMa σ s i8) {pa : Nat} (hi : i8 < y) (hw : zMy σ i8 3 pa) (hg : zX σ 45 28 = (-1))  : Dt mX12_says [.ref 45, .int (nI s), .int (nI 0)] σ (some (.int (nI pa))) σ := by
  obtain ⟨-, hn, hn8, ha, ha4, hy, hy8⟩ := id H
  have hi88 := hh.2.2
  have hpa := hw.2.2.2.1
  refine Dt.of (by decide) (Nat.le_of_ble_eq_true rfl) fun κ B Rt => ?_
  show Z κ 0 0 σ 0 [(0, .ref 45), (1, .int (nI s)), (2, .int (nI 0))] []
  refine Z.aload_n B dX12_says_0 (v := .ref 45) rfl rfl ?_
  refine Z.iload_n B dX12_says_1 (x := nI s) rfl ?_
  refine Z.callVI (σ := σ) B (M' := mX12_isShelf) (as := [.int (nI s)]) (st := []) (v := .int (nI 1)) dX12_says_2 wX12_isShelf iX12_isShelf sX12_isShelf kX12_90 (hl.n (k := 45) (by decide)) (hl.k (k := 45) (by decide)) (by decide) rfl rfl (t_X12_isShelf_in (σ := σ) hs) rfl rfl (by decide) (by decide) (Nat.le_of_ble_eq_true rfl) (by decide) (by decide) ?_
  refine Z.if_eqN B dX12_says_5 (tgt := 18) rfl (by omega) (fun h5 => by exfalso; first | omega | contradiction | simp_all) (fun h5 => ?_)
  refine Z.iload_n B dX12_says_8 (x := nI 0) rfl ?_
  refine Z.if_ltN B dX12_says_9 (tgt := 18) rfl (by omega) ?_
  refine Z.iload_n B dX12_says_12 (x := nI 0) rfl ?_
  refine Z.bipush B dX12_says_13 (v := nI 6) rfl ?_
  refine Z.icmp_leN B dX12_says_15 (tgt := 24) rfl (by omega) (by omega) (fun h15 => ?_) (fun h15 => by exfalso; first | omega | contradiction | simp_all)
  refine Z.aload_n B dX12_says_24 (v := .ref 45) rfl rfl ?_
  refine Z.getR (σ := σ) B fX12_41_12 dX12_says_25 (hl.n (k := 45) (by decide)) (hl.k (k := 45) (by decide)) (by decide) (j := 54) (hl.r (k := 45) (f := 13) (by decide) (by decide)) ?_
  refine Z.iload_n B dX12_says_28 (x := nI s) rfl ?_
  refine Z.iald (σ := σ) B dX12_says_29 (n := 8) (hl.n (k := 54) (by decide)) (hl.k (k := 54) (by decide)) (hl.l (k := 54) (by decide)) (by decide) (j := s) rfl (by omega) (v := nI 2) hh.1 ?_
  refine Z.iconst B dX12_says_30 (v := nI 1) rfl ?_
  refine Z.icmp_neN B dX12_says_31 (tgt := 41) rfl (by omega) (by omega) (fun h31 => ?_) (fun h31 => by exfalso; first | omega | contradiction | simp_all)
  refine Z.aload_n B dX12_says_41 (v := .ref 45) rfl rfl ?_
  refine Z.getR (σ := σ) B fX12_41_12 dX12_says_42 (hl.n (k := 45) (by decide)) (hl.k (k := 45) (by decide)) (by decide) (j := 54) (hl.r (k := 45) (f := 13) (by decide) (by decide)) ?_
  refine Z.iload_n B dX12_says_45 (x := nI s) rfl ?_
  refine Z.iald (σ := σ) B dX12_says_46 (n := 8) (hl.n (k := 54) (by decide)) (hl.k (k := 54) (by decide)) (hl.l (k := 54) (by decide)) (by decide) (j := s) rfl (by omega) (v := nI 2) hh.1 ?_
  refine Z.if_neN B dX12_says_47 (tgt := 57) rfl (by omega) (fun h47 => ?_) (fun h47 => by exfalso; first | omega | contradiction | simp_all)
  refine Z.aload_n B dX12_says_57 (v := .ref 45) rfl rfl ?_
  refine Z.getR (σ := σ) B fX12_50_12 dX12_says_58 (hl.n (k := 45) (by decide)) (hl.k (k := 45) (by decide)) (by decide) (j := 57) (hl.r (k := 45) (f := 16) (by decide) (by decide)) ?_
  refine Z.iload_n B dX12_says_61 (x := nI s) rfl ?_
  refine Z.iald (σ := σ) B dX12_says_62 (n := 8) (hl.n (k := 57) (by decide)) (hl.k (k := 57) (by decide)) (hl.l (k := 57) (by decide)) (by decide) (j := s) rfl (by omega) (v := nI i8) hh.2.1 ?_
  refine Z.istore_n B dX12_says_63 (by decide) (L' := [(0, .ref 45), (1, .int (nI s)), (2, .int (nI 0)), (3, .int (nI i8))]) rfl ?_
  refine Z.aload_n B dX12_says_64 (v := .ref 45) rfl rfl ?_
  refine Z.getR (σ := σ) B fX12_35_12 dX12_says_65 (hl.n (k := 45) (by decide)) (hl.k (k := 45) (by decide)) (by decide) (j := 52) (hl.r (k := 45) (f := 11) (by decide) (by decide)) ?_
  refine Z.iload_n B dX12_says_68 (x := nI i8) rfl ?_
  refine Z.iald (σ := σ) B dX12_says_69 (n := 8) (hl.n (k := 52) (by decide)) (hl.k (k := 52) (by decide)) (hl.l (k := 52) (by decide)) (by decide) (j := i8) rfl (by omega) (v := nI 3) hw.1 ?_
  refine Z.istore B dX12_says_70 (by decide) (L' := [(0, .ref 45), (1, .int (nI s)), (2, .int (nI 0)), (3, .int (nI i8)), (4, .int (nI 3))]) rfl ?_
  refine Z.iload_n B dX12_says_72 (x := nI 0) rfl ?_
  refine Z.if_eqN B dX12_says_73 (tgt := 112) rfl (by omega) (fun h73 => ?_) (fun h73 => by exfalso; first | omega | contradiction | simp_all)
  refine Z.iload_n B dX12_says_112 (x := nI 0) rfl ?_
  refine Z.tabIn B dX12_says_113 (by decide) (by decide) (off := 43) (by decide) (tgt := 156) rfl ?_
  refine Z.aload_n B dX12_says_156 (v := .ref 45) rfl rfl ?_
  refine Z.getR (σ := σ) B fX12_38_12 dX12_says_157 (hl.n (k := 45) (by decide)) (hl.k (k := 45) (by decide)) (by decide) (j := 53) (hl.r (k := 45) (f := 12) (by decide) (by decide)) ?_
  refine Z.iload_n B dX12_says_160 (x := nI i8) rfl ?_
  refine Z.iald (σ := σ) B dX12_says_161 (n := 8) (hl.n (k := 53) (by decide)) (hl.k (k := 53) (by decide)) (hl.l (k := 53) (by decide)) (by decide) (j := i8) rfl (by omega) (v := nI pa) hw.2.1 ?_
  refine Z.iret B Rt dX12_says_162 (ty := .int) rfl rfl (by decide) (by decide) ?_
  exact ⟨rfl, rfl⟩

theorem t_M_says_0_3_1 {σ : zSt} (hl : Lay σ) {n a y : Nat} (H : zMd σ n a y) {od : Nat → Nat} (ho : zMo σ a od) {pos : Nat → Nat} (hpo : zPo a od pos) {s : Nat} (hs : s < 8) {i8 : Nat} (hh : zMa σ s i8) {pa : Nat} (hi : i8 < y) (hw : zMy σ i8 3 pa) (hg : zX σ 45 28 = (-1))  : Dt mX12_says [.ref 45, .int (nI s), .int (nI 1)] σ (some (.int (-2))) (zuX σ 46 (upd (zX σ 46) 2 (zX σ 46 2 + nI 1))) := by
  obtain ⟨-, hn, hn8, ha, ha4, hy, hy8⟩ := id H
  have hi88 := hh.2.2
  have hpa := hw.2.2.2.1
  refine Dt.of (by decide) (Nat.le_of_ble_eq_true rfl) fun κ B Rt => ?_
  show Z κ 0 0 σ 0 [(0, .ref 45), (1, .int (nI s)), (2, .int (nI 1))] []
  refine Z.aload_n B dX12_says_0 (v := .ref 45) rfl rfl ?_
  refine Z.iload_n B dX12_says_1 (x := nI s) rfl ?_
  refine Z.callVI (σ := σ) B (M' := mX12_isShelf) (as := [.int (nI s)]) (st := []) (v := .int (nI 1)) dX12_says_2 wX12_isShelf iX12_isShelf sX12_isShelf kX12_90 (hl.n (k := 45) (by decide)) (hl.k (k := 45) (by decide)) (by decide) rfl rfl (t_X12_isShelf_in (σ := σ) hs) rfl rfl (by decide) (by decide) (Nat.le_of_ble_eq_true rfl) (by decide) (by decide) ?_
  refine Z.if_eqN B dX12_says_5 (tgt := 18) rfl (by omega) (fun h5 => by exfalso; first | omega | contradiction | simp_all) (fun h5 => ?_)
  refine Z.iload_n B dX12_says_8 (x := nI 1) rfl ?_
  refine Z.if_ltN B dX12_says_9 (tgt := 18) rfl (by omega) ?_
  refine Z.iload_n B dX12_says_12 (x := nI 1) rfl ?_
  refine Z.bipush B dX12_says_13 (v := nI 6) rfl ?_
  refine Z.icmp_leN B dX12_says_15 (tgt := 24) rfl (by omega) (by omega) (fun h15 => ?_) (fun h15 => by exfalso; first | omega | contradiction | simp_all)
  refine Z.aload_n B dX12_says_24 (v := .ref 45) rfl rfl ?_
  refine Z.getR (σ := σ) B fX12_41_12 dX12_says_25 (hl.n (k := 45) (by decide)) (hl.k (k := 45) (by decide)) (by decide) (j := 54) (hl.r (k := 45) (f := 13) (by decide) (by decide)) ?_
  refine Z.iload_n B dX12_says_28 (x := nI s) rfl ?_
  refine Z.iald (σ := σ) B dX12_says_29 (n := 8) (hl.n (k := 54) (by decide)) (hl.k (k := 54) (by decide)) (hl.l (k := 54) (by decide)) (by decide) (j := s) rfl (by omega) (v := nI 2) hh.1 ?_
  refine Z.iconst B dX12_says_30 (v := nI 1) rfl ?_
  refine Z.icmp_neN B dX12_says_31 (tgt := 41) rfl (by omega) (by omega) (fun h31 => ?_) (fun h31 => by exfalso; first | omega | contradiction | simp_all)
  refine Z.aload_n B dX12_says_41 (v := .ref 45) rfl rfl ?_
  refine Z.getR (σ := σ) B fX12_41_12 dX12_says_42 (hl.n (k := 45) (by decide)) (hl.k (k := 45) (by decide)) (by decide) (j := 54) (hl.r (k := 45) (f := 13) (by decide) (by decide)) ?_
  refine Z.iload_n B dX12_says_45 (x := nI s) rfl ?_
  refine Z.iald (σ := σ) B dX12_says_46 (n := 8) (hl.n (k := 54) (by decide)) (hl.k (k := 54) (by decide)) (hl.l (k := 54) (by decide)) (by decide) (j := s) rfl (by omega) (v := nI 2) hh.1 ?_
  refine Z.if_neN B dX12_says_47 (tgt := 57) rfl (by omega) (fun h47 => ?_) (fun h47 => by exfalso; first | omega | contradiction | simp_all)
  refine Z.aload_n B dX12_says_57 (v := .ref 45) rfl rfl ?_
  refine Z.getR (σ := σ) B fX12_50_12 dX12_says_58 (hl.n (k := 45) (by decide)) (hl.k (k := 45) (by decide)) (by decide) (j := 57) (hl.r (k := 45) (f := 16) (by decide) (by decide)) ?_
  refine Z.iload_n B dX12_says_61 (x := nI s) rfl ?_
  refine Z.iald (σ := σ) B dX12_says_62 (n := 8) (hl.n (k := 57) (by decide)) (hl.k (k := 57) (by decide)) (hl.l (k := 57) (by decide)) (by decide) (j := s) rfl (by omega) (v := nI i8) hh.2.1 ?_
  refine Z.istore_n B dX12_says_63 (by decide) (L' := [(0, .ref 45), (1, .int (nI s)), (2, .int (nI 1)), (3, .int (nI i8))]) rfl ?_
  refine Z.aload_n B dX12_says_64 (v := .ref 45) rfl rfl ?_
  refine Z.getR (σ := σ) B fX12_35_12 dX12_says_65 (hl.n (k := 45) (by decide)) (hl.k (k := 45) (by decide)) (by decide) (j := 52) (hl.r (k := 45) (f := 11) (by decide) (by decide)) ?_
  refine Z.iload_n B dX12_says_68 (x := nI i8) rfl ?_
  refine Z.iald (σ := σ) B dX12_says_69 (n := 8) (hl.n (k := 52) (by decide)) (hl.k (k := 52) (by decide)) (hl.l (k := 52) (by decide)) (by decide) (j := i8) rfl (by omega) (v := nI 3) hw.1 ?_
  refine Z.istore B dX12_says_70 (by decide) (L' := [(0, .ref 45), (1, .int (nI s)), (2, .int (nI 1)), (3, .int (nI i8)), (4, .int (nI 3))]) rfl ?_
  refine Z.iload_n B dX12_says_72 (x := nI 1) rfl ?_
  refine Z.if_eqN B dX12_says_73 (tgt := 112) rfl (by omega) (fun h73 => by exfalso; first | omega | contradiction | simp_all) (fun h73 => ?_)
  refine Z.iload_n B dX12_says_76 (x := nI 1) rfl ?_
  refine Z.iload B dX12_says_77 (x := nI 3) rfl ?_
  refine Z.icmp_eqN B dX12_says_79 (tgt := 112) rfl (by omega) (by omega) (fun h79 => by exfalso; first | omega | contradiction | simp_all) (fun h79 => ?_)
  refine Z.iload_n B dX12_says_82 (x := nI 1) rfl ?_
  refine Z.iconst B dX12_says_83 (v := nI 1) rfl ?_
  refine Z.icmp_neN B dX12_says_84 (tgt := 93) rfl (by omega) (by omega) (fun h84 => by exfalso; first | omega | contradiction | simp_all) (fun h84 => ?_)
  refine Z.iload B dX12_says_87 (x := nI 3) rfl ?_
  refine Z.iconst B dX12_says_89 (v := nI 2) rfl ?_
  refine Z.icmp_eqN B dX12_says_90 (tgt := 112) rfl (by omega) (by omega) (fun h90 => by exfalso; first | omega | contradiction | simp_all) (fun h90 => ?_)
  refine Z.iload_n B dX12_says_93 (x := nI 1) rfl ?_
  refine Z.iconst B dX12_says_94 (v := nI 5) rfl ?_
  refine Z.icmp_neN B dX12_says_95 (tgt := 105) rfl (by omega) (by omega) (fun h95 => ?_) (fun h95 => by exfalso; first | omega | contradiction | simp_all)
  refine Z.aload_n B dX12_says_105 (v := .ref 45) rfl rfl ?_
  refine Z.bipush B dX12_says_106 (v := (-2)) rfl ?_
  refine Z.callVI (σ := σ) B (M' := mX12_no) (as := [.int (-2)]) (st := []) (v := .int (-2)) dX12_says_108 wX12_no iX12_no sX12_no kX12_94 (hl.n (k := 45) (by decide)) (hl.k (k := 45) (by decide)) (by decide) rfl rfl (t_X12_no_2 (σ := σ) hl) rfl rfl (by decide) (by decide) (Nat.le_of_ble_eq_true rfl) (by decide) (by decide) ?_
  refine Z.eqσ (τ := (zuX σ 46 (upd (zX σ 46) 2 (zX σ 46 2 + nI 1)))) rfl ?_
  refine Z.iret B Rt dX12_says_111 (ty := .int) rfl rfl (by decide) (by decide) ?_
  exact ⟨rfl, rfl⟩

theorem t_M_says_0_3_2 {σ : zSt} (hl : Lay σ) {n a y : Nat} (H : zMd σ n a y) {od : Nat → Nat} (ho : zMo σ a od) {pos : Nat → Nat} (hpo : zPo a od pos) {s : Nat} (hs : s < 8) {i8 : Nat} (hh : zMa σ s i8) {pa : Nat} (hi : i8 < y) (hw : zMy σ i8 3 pa) (hg : zX σ 45 28 = (-1))  : Dt mX12_says [.ref 45, .int (nI s), .int (nI 2)] σ (some (.int (-2))) (zuX σ 46 (upd (zX σ 46) 2 (zX σ 46 2 + nI 1))) := by
  obtain ⟨-, hn, hn8, ha, ha4, hy, hy8⟩ := id H
  have hi88 := hh.2.2
  have hpa := hw.2.2.2.1
  refine Dt.of (by decide) (Nat.le_of_ble_eq_true rfl) fun κ B Rt => ?_
  show Z κ 0 0 σ 0 [(0, .ref 45), (1, .int (nI s)), (2, .int (nI 2))] []
  refine Z.aload_n B dX12_says_0 (v := .ref 45) rfl rfl ?_
  refine Z.iload_n B dX12_says_1 (x := nI s) rfl ?_
  refine Z.callVI (σ := σ) B (M' := mX12_isShelf) (as := [.int (nI s)]) (st := []) (v := .int (nI 1)) dX12_says_2 wX12_isShelf iX12_isShelf sX12_isShelf kX12_90 (hl.n (k := 45) (by decide)) (hl.k (k := 45) (by decide)) (by decide) rfl rfl (t_X12_isShelf_in (σ := σ) hs) rfl rfl (by decide) (by decide) (Nat.le_of_ble_eq_true rfl) (by decide) (by decide) ?_
  refine Z.if_eqN B dX12_says_5 (tgt := 18) rfl (by omega) (fun h5 => by exfalso; first | omega | contradiction | simp_all) (fun h5 => ?_)
  refine Z.iload_n B dX12_says_8 (x := nI 2) rfl ?_
  refine Z.if_ltN B dX12_says_9 (tgt := 18) rfl (by omega) ?_
  refine Z.iload_n B dX12_says_12 (x := nI 2) rfl ?_
  refine Z.bipush B dX12_says_13 (v := nI 6) rfl ?_
  refine Z.icmp_leN B dX12_says_15 (tgt := 24) rfl (by omega) (by omega) (fun h15 => ?_) (fun h15 => by exfalso; first | omega | contradiction | simp_all)
  refine Z.aload_n B dX12_says_24 (v := .ref 45) rfl rfl ?_
  refine Z.getR (σ := σ) B fX12_41_12 dX12_says_25 (hl.n (k := 45) (by decide)) (hl.k (k := 45) (by decide)) (by decide) (j := 54) (hl.r (k := 45) (f := 13) (by decide) (by decide)) ?_
  refine Z.iload_n B dX12_says_28 (x := nI s) rfl ?_
  refine Z.iald (σ := σ) B dX12_says_29 (n := 8) (hl.n (k := 54) (by decide)) (hl.k (k := 54) (by decide)) (hl.l (k := 54) (by decide)) (by decide) (j := s) rfl (by omega) (v := nI 2) hh.1 ?_
  refine Z.iconst B dX12_says_30 (v := nI 1) rfl ?_
  refine Z.icmp_neN B dX12_says_31 (tgt := 41) rfl (by omega) (by omega) (fun h31 => ?_) (fun h31 => by exfalso; first | omega | contradiction | simp_all)
  refine Z.aload_n B dX12_says_41 (v := .ref 45) rfl rfl ?_
  refine Z.getR (σ := σ) B fX12_41_12 dX12_says_42 (hl.n (k := 45) (by decide)) (hl.k (k := 45) (by decide)) (by decide) (j := 54) (hl.r (k := 45) (f := 13) (by decide) (by decide)) ?_
  refine Z.iload_n B dX12_says_45 (x := nI s) rfl ?_
  refine Z.iald (σ := σ) B dX12_says_46 (n := 8) (hl.n (k := 54) (by decide)) (hl.k (k := 54) (by decide)) (hl.l (k := 54) (by decide)) (by decide) (j := s) rfl (by omega) (v := nI 2) hh.1 ?_
  refine Z.if_neN B dX12_says_47 (tgt := 57) rfl (by omega) (fun h47 => ?_) (fun h47 => by exfalso; first | omega | contradiction | simp_all)
  refine Z.aload_n B dX12_says_57 (v := .ref 45) rfl rfl ?_
  refine Z.getR (σ := σ) B fX12_50_12 dX12_says_58 (hl.n (k := 45) (by decide)) (hl.k (k := 45) (by decide)) (by decide) (j := 57) (hl.r (k := 45) (f := 16) (by decide) (by decide)) ?_
  refine Z.iload_n B dX12_says_61 (x := nI s) rfl ?_
  refine Z.iald (σ := σ) B dX12_says_62 (n := 8) (hl.n (k := 57) (by decide)) (hl.k (k := 57) (by decide)) (hl.l (k := 57) (by decide)) (by decide) (j := s) rfl (by omega) (v := nI i8) hh.2.1 ?_
  refine Z.istore_n B dX12_says_63 (by decide) (L' := [(0, .ref 45), (1, .int (nI s)), (2, .int (nI 2)), (3, .int (nI i8))]) rfl ?_
  refine Z.aload_n B dX12_says_64 (v := .ref 45) rfl rfl ?_
  refine Z.getR (σ := σ) B fX12_35_12 dX12_says_65 (hl.n (k := 45) (by decide)) (hl.k (k := 45) (by decide)) (by decide) (j := 52) (hl.r (k := 45) (f := 11) (by decide) (by decide)) ?_
  refine Z.iload_n B dX12_says_68 (x := nI i8) rfl ?_
  refine Z.iald (σ := σ) B dX12_says_69 (n := 8) (hl.n (k := 52) (by decide)) (hl.k (k := 52) (by decide)) (hl.l (k := 52) (by decide)) (by decide) (j := i8) rfl (by omega) (v := nI 3) hw.1 ?_
  refine Z.istore B dX12_says_70 (by decide) (L' := [(0, .ref 45), (1, .int (nI s)), (2, .int (nI 2)), (3, .int (nI i8)), (4, .int (nI 3))]) rfl ?_
  refine Z.iload_n B dX12_says_72 (x := nI 2) rfl ?_
  refine Z.if_eqN B dX12_says_73 (tgt := 112) rfl (by omega) (fun h73 => by exfalso; first | omega | contradiction | simp_all) (fun h73 => ?_)
  refine Z.iload_n B dX12_says_76 (x := nI 2) rfl ?_
  refine Z.iload B dX12_says_77 (x := nI 3) rfl ?_
  refine Z.icmp_eqN B dX12_says_79 (tgt := 112) rfl (by omega) (by omega) (fun h79 => by exfalso; first | omega | contradiction | simp_all) (fun h79 => ?_)
  refine Z.iload_n B dX12_says_82 (x := nI 2) rfl ?_
  refine Z.iconst B dX12_says_83 (v := nI 1) rfl ?_
  refine Z.icmp_neN B dX12_says_84 (tgt := 93) rfl (by omega) (by omega) (fun h84 => ?_) (fun h84 => by exfalso; first | omega | contradiction | simp_all)
  refine Z.iload_n B dX12_says_93 (x := nI 2) rfl ?_
  refine Z.iconst B dX12_says_94 (v := nI 5) rfl ?_
  refine Z.icmp_neN B dX12_says_95 (tgt := 105) rfl (by omega) (by omega) (fun h95 => ?_) (fun h95 => by exfalso; first | omega | contradiction | simp_all)
  refine Z.aload_n B dX12_says_105 (v := .ref 45) rfl rfl ?_
  refine Z.bipush B dX12_says_106 (v := (-2)) rfl ?_
  refine Z.callVI (σ := σ) B (M' := mX12_no) (as := [.int (-2)]) (st := []) (v := .int (-2)) dX12_says_108 wX12_no iX12_no sX12_no kX12_94 (hl.n (k := 45) (by decide)) (hl.k (k := 45) (by decide)) (by decide) rfl rfl (t_X12_no_2 (σ := σ) hl) rfl rfl (by decide) (by decide) (Nat.le_of_ble_eq_true rfl) (by decide) (by decide) ?_
  refine Z.eqσ (τ := (zuX σ 46 (upd (zX σ 46) 2 (zX σ 46 2 + nI 1)))) rfl ?_
  refine Z.iret B Rt dX12_says_111 (ty := .int) rfl rfl (by decide) (by decide) ?_
  exact ⟨rfl, rfl⟩

theorem t_M_says_0_3_3 {σ : zSt} (hl : Lay σ) {n a y : Nat} (H : zMd σ n a y) {od : Nat → Nat} (ho : zMo σ a od) {pos : Nat → Nat} (hpo : zPo a od pos) {s : Nat} (hs : s < 8) {i8 : Nat} (hh : zMa σ s i8) {pa : Nat} (hi : i8 < y) (hw : zMy σ i8 3 pa) (hg : zX σ 45 28 = (-1))  : Dt mX12_says [.ref 45, .int (nI s), .int (nI 3)] σ (some (.int (nI (pa % 3)))) σ := by
  obtain ⟨-, hn, hn8, ha, ha4, hy, hy8⟩ := id H
  have hi88 := hh.2.2
  have hpa := hw.2.2.2.1
  refine Dt.of (by decide) (Nat.le_of_ble_eq_true rfl) fun κ B Rt => ?_
  show Z κ 0 0 σ 0 [(0, .ref 45), (1, .int (nI s)), (2, .int (nI 3))] []
  refine Z.aload_n B dX12_says_0 (v := .ref 45) rfl rfl ?_
  refine Z.iload_n B dX12_says_1 (x := nI s) rfl ?_
  refine Z.callVI (σ := σ) B (M' := mX12_isShelf) (as := [.int (nI s)]) (st := []) (v := .int (nI 1)) dX12_says_2 wX12_isShelf iX12_isShelf sX12_isShelf kX12_90 (hl.n (k := 45) (by decide)) (hl.k (k := 45) (by decide)) (by decide) rfl rfl (t_X12_isShelf_in (σ := σ) hs) rfl rfl (by decide) (by decide) (Nat.le_of_ble_eq_true rfl) (by decide) (by decide) ?_
  refine Z.if_eqN B dX12_says_5 (tgt := 18) rfl (by omega) (fun h5 => by exfalso; first | omega | contradiction | simp_all) (fun h5 => ?_)
  refine Z.iload_n B dX12_says_8 (x := nI 3) rfl ?_
  refine Z.if_ltN B dX12_says_9 (tgt := 18) rfl (by omega) ?_
  refine Z.iload_n B dX12_says_12 (x := nI 3) rfl ?_
  refine Z.bipush B dX12_says_13 (v := nI 6) rfl ?_
  refine Z.icmp_leN B dX12_says_15 (tgt := 24) rfl (by omega) (by omega) (fun h15 => ?_) (fun h15 => by exfalso; first | omega | contradiction | simp_all)
  refine Z.aload_n B dX12_says_24 (v := .ref 45) rfl rfl ?_
  refine Z.getR (σ := σ) B fX12_41_12 dX12_says_25 (hl.n (k := 45) (by decide)) (hl.k (k := 45) (by decide)) (by decide) (j := 54) (hl.r (k := 45) (f := 13) (by decide) (by decide)) ?_
  refine Z.iload_n B dX12_says_28 (x := nI s) rfl ?_
  refine Z.iald (σ := σ) B dX12_says_29 (n := 8) (hl.n (k := 54) (by decide)) (hl.k (k := 54) (by decide)) (hl.l (k := 54) (by decide)) (by decide) (j := s) rfl (by omega) (v := nI 2) hh.1 ?_
  refine Z.iconst B dX12_says_30 (v := nI 1) rfl ?_
  refine Z.icmp_neN B dX12_says_31 (tgt := 41) rfl (by omega) (by omega) (fun h31 => ?_) (fun h31 => by exfalso; first | omega | contradiction | simp_all)
  refine Z.aload_n B dX12_says_41 (v := .ref 45) rfl rfl ?_
  refine Z.getR (σ := σ) B fX12_41_12 dX12_says_42 (hl.n (k := 45) (by decide)) (hl.k (k := 45) (by decide)) (by decide) (j := 54) (hl.r (k := 45) (f := 13) (by decide) (by decide)) ?_
  refine Z.iload_n B dX12_says_45 (x := nI s) rfl ?_
  refine Z.iald (σ := σ) B dX12_says_46 (n := 8) (hl.n (k := 54) (by decide)) (hl.k (k := 54) (by decide)) (hl.l (k := 54) (by decide)) (by decide) (j := s) rfl (by omega) (v := nI 2) hh.1 ?_
  refine Z.if_neN B dX12_says_47 (tgt := 57) rfl (by omega) (fun h47 => ?_) (fun h47 => by exfalso; first | omega | contradiction | simp_all)
  refine Z.aload_n B dX12_says_57 (v := .ref 45) rfl rfl ?_
  refine Z.getR (σ := σ) B fX12_50_12 dX12_says_58 (hl.n (k := 45) (by decide)) (hl.k (k := 45) (by decide)) (by decide) (j := 57) (hl.r (k := 45) (f := 16) (by decide) (by decide)) ?_
  refine Z.iload_n B dX12_says_61 (x := nI s) rfl ?_
  refine Z.iald (σ := σ) B dX12_says_62 (n := 8) (hl.n (k := 57) (by decide)) (hl.k (k := 57) (by decide)) (hl.l (k := 57) (by decide)) (by decide) (j := s) rfl (by omega) (v := nI i8) hh.2.1 ?_
  refine Z.istore_n B dX12_says_63 (by decide) (L' := [(0, .ref 45), (1, .int (nI s)), (2, .int (nI 3)), (3, .int (nI i8))]) rfl ?_
  refine Z.aload_n B dX12_says_64 (v := .ref 45) rfl rfl ?_
  refine Z.getR (σ := σ) B fX12_35_12 dX12_says_65 (hl.n (k := 45) (by decide)) (hl.k (k := 45) (by decide)) (by decide) (j := 52) (hl.r (k := 45) (f := 11) (by decide) (by decide)) ?_
  refine Z.iload_n B dX12_says_68 (x := nI i8) rfl ?_
  refine Z.iald (σ := σ) B dX12_says_69 (n := 8) (hl.n (k := 52) (by decide)) (hl.k (k := 52) (by decide)) (hl.l (k := 52) (by decide)) (by decide) (j := i8) rfl (by omega) (v := nI 3) hw.1 ?_
  refine Z.istore B dX12_says_70 (by decide) (L' := [(0, .ref 45), (1, .int (nI s)), (2, .int (nI 3)), (3, .int (nI i8)), (4, .int (nI 3))]) rfl ?_
  refine Z.iload_n B dX12_says_72 (x := nI 3) rfl ?_
  refine Z.if_eqN B dX12_says_73 (tgt := 112) rfl (by omega) (fun h73 => by exfalso; first | omega | contradiction | simp_all) (fun h73 => ?_)
  refine Z.iload_n B dX12_says_76 (x := nI 3) rfl ?_
  refine Z.iload B dX12_says_77 (x := nI 3) rfl ?_
  refine Z.icmp_eqN B dX12_says_79 (tgt := 112) rfl (by omega) (by omega) (fun h79 => ?_) (fun h79 => by exfalso; first | omega | contradiction | simp_all)
  refine Z.iload_n B dX12_says_112 (x := nI 3) rfl ?_
  refine Z.tabIn B dX12_says_113 (by decide) (by decide) (off := 50) (by decide) (tgt := 163) rfl ?_
  refine Z.aload_n B dX12_says_163 (v := .ref 45) rfl rfl ?_
  refine Z.getR (σ := σ) B fX12_38_12 dX12_says_164 (hl.n (k := 45) (by decide)) (hl.k (k := 45) (by decide)) (by decide) (j := 53) (hl.r (k := 45) (f := 12) (by decide) (by decide)) ?_
  refine Z.iload_n B dX12_says_167 (x := nI i8) rfl ?_
  refine Z.iald (σ := σ) B dX12_says_168 (n := 8) (hl.n (k := 53) (by decide)) (hl.k (k := 53) (by decide)) (hl.l (k := 53) (by decide)) (by decide) (j := i8) rfl (by omega) (v := nI pa) hw.2.1 ?_
  refine Z.iconst B dX12_says_169 (v := nI 3) rfl ?_
  refine Z.irem B dX12_says_170 (by decide) ?_
  refine Z.eqS (st' := [.int (nI (pa % 3))]) (by rw [pk_rem (by omega) (by decide) (by decide)]) ?_
  refine Z.iret B Rt dX12_says_171 (ty := .int) rfl rfl (by decide) (by decide) ?_
  exact ⟨rfl, rfl⟩

theorem t_M_says_0_3_4 {σ : zSt} (hl : Lay σ) {n a y : Nat} (H : zMd σ n a y) {od : Nat → Nat} (ho : zMo σ a od) {pos : Nat → Nat} (hpo : zPo a od pos) {s : Nat} (hs : s < 8) {i8 : Nat} (hh : zMa σ s i8) {pa : Nat} (hi : i8 < y) (hw : zMy σ i8 3 pa) (hg : zX σ 45 28 = (-1))  : Dt mX12_says [.ref 45, .int (nI s), .int (nI 4)] σ (some (.int (-2))) (zuX σ 46 (upd (zX σ 46) 2 (zX σ 46 2 + nI 1))) := by
  obtain ⟨-, hn, hn8, ha, ha4, hy, hy8⟩ := id H
  have hi88 := hh.2.2
  have hpa := hw.2.2.2.1
  refine Dt.of (by decide) (Nat.le_of_ble_eq_true rfl) fun κ B Rt => ?_
  show Z κ 0 0 σ 0 [(0, .ref 45), (1, .int (nI s)), (2, .int (nI 4))] []
  refine Z.aload_n B dX12_says_0 (v := .ref 45) rfl rfl ?_
  refine Z.iload_n B dX12_says_1 (x := nI s) rfl ?_
  refine Z.callVI (σ := σ) B (M' := mX12_isShelf) (as := [.int (nI s)]) (st := []) (v := .int (nI 1)) dX12_says_2 wX12_isShelf iX12_isShelf sX12_isShelf kX12_90 (hl.n (k := 45) (by decide)) (hl.k (k := 45) (by decide)) (by decide) rfl rfl (t_X12_isShelf_in (σ := σ) hs) rfl rfl (by decide) (by decide) (Nat.le_of_ble_eq_true rfl) (by decide) (by decide) ?_
  refine Z.if_eqN B dX12_says_5 (tgt := 18) rfl (by omega) (fun h5 => by exfalso; first | omega | contradiction | simp_all) (fun h5 => ?_)
  refine Z.iload_n B dX12_says_8 (x := nI 4) rfl ?_
  refine Z.if_ltN B dX12_says_9 (tgt := 18) rfl (by omega) ?_
  refine Z.iload_n B dX12_says_12 (x := nI 4) rfl ?_
  refine Z.bipush B dX12_says_13 (v := nI 6) rfl ?_
  refine Z.icmp_leN B dX12_says_15 (tgt := 24) rfl (by omega) (by omega) (fun h15 => ?_) (fun h15 => by exfalso; first | omega | contradiction | simp_all)
  refine Z.aload_n B dX12_says_24 (v := .ref 45) rfl rfl ?_
  refine Z.getR (σ := σ) B fX12_41_12 dX12_says_25 (hl.n (k := 45) (by decide)) (hl.k (k := 45) (by decide)) (by decide) (j := 54) (hl.r (k := 45) (f := 13) (by decide) (by decide)) ?_
  refine Z.iload_n B dX12_says_28 (x := nI s) rfl ?_
  refine Z.iald (σ := σ) B dX12_says_29 (n := 8) (hl.n (k := 54) (by decide)) (hl.k (k := 54) (by decide)) (hl.l (k := 54) (by decide)) (by decide) (j := s) rfl (by omega) (v := nI 2) hh.1 ?_
  refine Z.iconst B dX12_says_30 (v := nI 1) rfl ?_
  refine Z.icmp_neN B dX12_says_31 (tgt := 41) rfl (by omega) (by omega) (fun h31 => ?_) (fun h31 => by exfalso; first | omega | contradiction | simp_all)
  refine Z.aload_n B dX12_says_41 (v := .ref 45) rfl rfl ?_
  refine Z.getR (σ := σ) B fX12_41_12 dX12_says_42 (hl.n (k := 45) (by decide)) (hl.k (k := 45) (by decide)) (by decide) (j := 54) (hl.r (k := 45) (f := 13) (by decide) (by decide)) ?_
  refine Z.iload_n B dX12_says_45 (x := nI s) rfl ?_
  refine Z.iald (σ := σ) B dX12_says_46 (n := 8) (hl.n (k := 54) (by decide)) (hl.k (k := 54) (by decide)) (hl.l (k := 54) (by decide)) (by decide) (j := s) rfl (by omega) (v := nI 2) hh.1 ?_
  refine Z.if_neN B dX12_says_47 (tgt := 57) rfl (by omega) (fun h47 => ?_) (fun h47 => by exfalso; first | omega | contradiction | simp_all)
  refine Z.aload_n B dX12_says_57 (v := .ref 45) rfl rfl ?_
  refine Z.getR (σ := σ) B fX12_50_12 dX12_says_58 (hl.n (k := 45) (by decide)) (hl.k (k := 45) (by decide)) (by decide) (j := 57) (hl.r (k := 45) (f := 16) (by decide) (by decide)) ?_
  refine Z.iload_n B dX12_says_61 (x := nI s) rfl ?_
  refine Z.iald (σ := σ) B dX12_says_62 (n := 8) (hl.n (k := 57) (by decide)) (hl.k (k := 57) (by decide)) (hl.l (k := 57) (by decide)) (by decide) (j := s) rfl (by omega) (v := nI i8) hh.2.1 ?_
  refine Z.istore_n B dX12_says_63 (by decide) (L' := [(0, .ref 45), (1, .int (nI s)), (2, .int (nI 4)), (3, .int (nI i8))]) rfl ?_
  refine Z.aload_n B dX12_says_64 (v := .ref 45) rfl rfl ?_
  refine Z.getR (σ := σ) B fX12_35_12 dX12_says_65 (hl.n (k := 45) (by decide)) (hl.k (k := 45) (by decide)) (by decide) (j := 52) (hl.r (k := 45) (f := 11) (by decide) (by decide)) ?_
  refine Z.iload_n B dX12_says_68 (x := nI i8) rfl ?_
  refine Z.iald (σ := σ) B dX12_says_69 (n := 8) (hl.n (k := 52) (by decide)) (hl.k (k := 52) (by decide)) (hl.l (k := 52) (by decide)) (by decide) (j := i8) rfl (by omega) (v := nI 3) hw.1 ?_
  refine Z.istore B dX12_says_70 (by decide) (L' := [(0, .ref 45), (1, .int (nI s)), (2, .int (nI 4)), (3, .int (nI i8)), (4, .int (nI 3))]) rfl ?_
  refine Z.iload_n B dX12_says_72 (x := nI 4) rfl ?_
  refine Z.if_eqN B dX12_says_73 (tgt := 112) rfl (by omega) (fun h73 => by exfalso; first | omega | contradiction | simp_all) (fun h73 => ?_)
  refine Z.iload_n B dX12_says_76 (x := nI 4) rfl ?_
  refine Z.iload B dX12_says_77 (x := nI 3) rfl ?_
  refine Z.icmp_eqN B dX12_says_79 (tgt := 112) rfl (by omega) (by omega) (fun h79 => by exfalso; first | omega | contradiction | simp_all) (fun h79 => ?_)
  refine Z.iload_n B dX12_says_82 (x := nI 4) rfl ?_
  refine Z.iconst B dX12_says_83 (v := nI 1) rfl ?_
  refine Z.icmp_neN B dX12_says_84 (tgt := 93) rfl (by omega) (by omega) (fun h84 => ?_) (fun h84 => by exfalso; first | omega | contradiction | simp_all)
  refine Z.iload_n B dX12_says_93 (x := nI 4) rfl ?_
  refine Z.iconst B dX12_says_94 (v := nI 5) rfl ?_
  refine Z.icmp_neN B dX12_says_95 (tgt := 105) rfl (by omega) (by omega) (fun h95 => ?_) (fun h95 => by exfalso; first | omega | contradiction | simp_all)
  refine Z.aload_n B dX12_says_105 (v := .ref 45) rfl rfl ?_
  refine Z.bipush B dX12_says_106 (v := (-2)) rfl ?_
  refine Z.callVI (σ := σ) B (M' := mX12_no) (as := [.int (-2)]) (st := []) (v := .int (-2)) dX12_says_108 wX12_no iX12_no sX12_no kX12_94 (hl.n (k := 45) (by decide)) (hl.k (k := 45) (by decide)) (by decide) rfl rfl (t_X12_no_2 (σ := σ) hl) rfl rfl (by decide) (by decide) (Nat.le_of_ble_eq_true rfl) (by decide) (by decide) ?_
  refine Z.eqσ (τ := (zuX σ 46 (upd (zX σ 46) 2 (zX σ 46 2 + nI 1)))) rfl ?_
  refine Z.iret B Rt dX12_says_111 (ty := .int) rfl rfl (by decide) (by decide) ?_
  exact ⟨rfl, rfl⟩

theorem t_M_says_0_3_5 {σ : zSt} (hl : Lay σ) {n a y : Nat} (H : zMd σ n a y) {od : Nat → Nat} (ho : zMo σ a od) {pos : Nat → Nat} (hpo : zPo a od pos) {s : Nat} (hs : s < 8) {i8 : Nat} (hh : zMa σ s i8) {pa : Nat} (hi : i8 < y) (hw : zMy σ i8 3 pa) (hg : zX σ 45 28 = (-1))  : Dt mX12_says [.ref 45, .int (nI s), .int (nI 5)] σ (some (.int (-2))) (zuX σ 46 (upd (zX σ 46) 2 (zX σ 46 2 + nI 1))) := by
  obtain ⟨-, hn, hn8, ha, ha4, hy, hy8⟩ := id H
  have hi88 := hh.2.2
  have hpa := hw.2.2.2.1
  refine Dt.of (by decide) (Nat.le_of_ble_eq_true rfl) fun κ B Rt => ?_
  show Z κ 0 0 σ 0 [(0, .ref 45), (1, .int (nI s)), (2, .int (nI 5))] []
  refine Z.aload_n B dX12_says_0 (v := .ref 45) rfl rfl ?_
  refine Z.iload_n B dX12_says_1 (x := nI s) rfl ?_
  refine Z.callVI (σ := σ) B (M' := mX12_isShelf) (as := [.int (nI s)]) (st := []) (v := .int (nI 1)) dX12_says_2 wX12_isShelf iX12_isShelf sX12_isShelf kX12_90 (hl.n (k := 45) (by decide)) (hl.k (k := 45) (by decide)) (by decide) rfl rfl (t_X12_isShelf_in (σ := σ) hs) rfl rfl (by decide) (by decide) (Nat.le_of_ble_eq_true rfl) (by decide) (by decide) ?_
  refine Z.if_eqN B dX12_says_5 (tgt := 18) rfl (by omega) (fun h5 => by exfalso; first | omega | contradiction | simp_all) (fun h5 => ?_)
  refine Z.iload_n B dX12_says_8 (x := nI 5) rfl ?_
  refine Z.if_ltN B dX12_says_9 (tgt := 18) rfl (by omega) ?_
  refine Z.iload_n B dX12_says_12 (x := nI 5) rfl ?_
  refine Z.bipush B dX12_says_13 (v := nI 6) rfl ?_
  refine Z.icmp_leN B dX12_says_15 (tgt := 24) rfl (by omega) (by omega) (fun h15 => ?_) (fun h15 => by exfalso; first | omega | contradiction | simp_all)
  refine Z.aload_n B dX12_says_24 (v := .ref 45) rfl rfl ?_
  refine Z.getR (σ := σ) B fX12_41_12 dX12_says_25 (hl.n (k := 45) (by decide)) (hl.k (k := 45) (by decide)) (by decide) (j := 54) (hl.r (k := 45) (f := 13) (by decide) (by decide)) ?_
  refine Z.iload_n B dX12_says_28 (x := nI s) rfl ?_
  refine Z.iald (σ := σ) B dX12_says_29 (n := 8) (hl.n (k := 54) (by decide)) (hl.k (k := 54) (by decide)) (hl.l (k := 54) (by decide)) (by decide) (j := s) rfl (by omega) (v := nI 2) hh.1 ?_
  refine Z.iconst B dX12_says_30 (v := nI 1) rfl ?_
  refine Z.icmp_neN B dX12_says_31 (tgt := 41) rfl (by omega) (by omega) (fun h31 => ?_) (fun h31 => by exfalso; first | omega | contradiction | simp_all)
  refine Z.aload_n B dX12_says_41 (v := .ref 45) rfl rfl ?_
  refine Z.getR (σ := σ) B fX12_41_12 dX12_says_42 (hl.n (k := 45) (by decide)) (hl.k (k := 45) (by decide)) (by decide) (j := 54) (hl.r (k := 45) (f := 13) (by decide) (by decide)) ?_
  refine Z.iload_n B dX12_says_45 (x := nI s) rfl ?_
  refine Z.iald (σ := σ) B dX12_says_46 (n := 8) (hl.n (k := 54) (by decide)) (hl.k (k := 54) (by decide)) (hl.l (k := 54) (by decide)) (by decide) (j := s) rfl (by omega) (v := nI 2) hh.1 ?_
  refine Z.if_neN B dX12_says_47 (tgt := 57) rfl (by omega) (fun h47 => ?_) (fun h47 => by exfalso; first | omega | contradiction | simp_all)
  refine Z.aload_n B dX12_says_57 (v := .ref 45) rfl rfl ?_
  refine Z.getR (σ := σ) B fX12_50_12 dX12_says_58 (hl.n (k := 45) (by decide)) (hl.k (k := 45) (by decide)) (by decide) (j := 57) (hl.r (k := 45) (f := 16) (by decide) (by decide)) ?_
  refine Z.iload_n B dX12_says_61 (x := nI s) rfl ?_
  refine Z.iald (σ := σ) B dX12_says_62 (n := 8) (hl.n (k := 57) (by decide)) (hl.k (k := 57) (by decide)) (hl.l (k := 57) (by decide)) (by decide) (j := s) rfl (by omega) (v := nI i8) hh.2.1 ?_
  refine Z.istore_n B dX12_says_63 (by decide) (L' := [(0, .ref 45), (1, .int (nI s)), (2, .int (nI 5)), (3, .int (nI i8))]) rfl ?_
  refine Z.aload_n B dX12_says_64 (v := .ref 45) rfl rfl ?_
  refine Z.getR (σ := σ) B fX12_35_12 dX12_says_65 (hl.n (k := 45) (by decide)) (hl.k (k := 45) (by decide)) (by decide) (j := 52) (hl.r (k := 45) (f := 11) (by decide) (by decide)) ?_
  refine Z.iload_n B dX12_says_68 (x := nI i8) rfl ?_
  refine Z.iald (σ := σ) B dX12_says_69 (n := 8) (hl.n (k := 52) (by decide)) (hl.k (k := 52) (by decide)) (hl.l (k := 52) (by decide)) (by decide) (j := i8) rfl (by omega) (v := nI 3) hw.1 ?_
  refine Z.istore B dX12_says_70 (by decide) (L' := [(0, .ref 45), (1, .int (nI s)), (2, .int (nI 5)), (3, .int (nI i8)), (4, .int (nI 3))]) rfl ?_
  refine Z.iload_n B dX12_says_72 (x := nI 5) rfl ?_
  refine Z.if_eqN B dX12_says_73 (tgt := 112) rfl (by omega) (fun h73 => by exfalso; first | omega | contradiction | simp_all) (fun h73 => ?_)
  refine Z.iload_n B dX12_says_76 (x := nI 5) rfl ?_
  refine Z.iload B dX12_says_77 (x := nI 3) rfl ?_
  refine Z.icmp_eqN B dX12_says_79 (tgt := 112) rfl (by omega) (by omega) (fun h79 => by exfalso; first | omega | contradiction | simp_all) (fun h79 => ?_)
  refine Z.iload_n B dX12_says_82 (x := nI 5) rfl ?_
  refine Z.iconst B dX12_says_83 (v := nI 1) rfl ?_
  refine Z.icmp_neN B dX12_says_84 (tgt := 93) rfl (by omega) (by omega) (fun h84 => ?_) (fun h84 => by exfalso; first | omega | contradiction | simp_all)
  refine Z.iload_n B dX12_says_93 (x := nI 5) rfl ?_
  refine Z.iconst B dX12_says_94 (v := nI 5) rfl ?_
  refine Z.icmp_neN B dX12_says_95 (tgt := 105) rfl (by omega) (by omega) (fun h95 => by exfalso; first | omega | contradiction | simp_all) (fun h95 => ?_)
  refine Z.iload B dX12_says_98 (x := nI 3) rfl ?_
  refine Z.bipush B dX12_says_100 (v := nI 6) rfl ?_
  refine Z.icmp_eqN B dX12_says_102 (tgt := 112) rfl (by omega) (by omega) (fun h102 => by exfalso; first | omega | contradiction | simp_all) (fun h102 => ?_)
  refine Z.aload_n B dX12_says_105 (v := .ref 45) rfl rfl ?_
  refine Z.bipush B dX12_says_106 (v := (-2)) rfl ?_
  refine Z.callVI (σ := σ) B (M' := mX12_no) (as := [.int (-2)]) (st := []) (v := .int (-2)) dX12_says_108 wX12_no iX12_no sX12_no kX12_94 (hl.n (k := 45) (by decide)) (hl.k (k := 45) (by decide)) (by decide) rfl rfl (t_X12_no_2 (σ := σ) hl) rfl rfl (by decide) (by decide) (Nat.le_of_ble_eq_true rfl) (by decide) (by decide) ?_
  refine Z.eqσ (τ := (zuX σ 46 (upd (zX σ 46) 2 (zX σ 46 2 + nI 1)))) rfl ?_
  refine Z.iret B Rt dX12_says_111 (ty := .int) rfl rfl (by decide) (by decide) ?_
  exact ⟨rfl, rfl⟩

theorem t_M_says_0_3_6 {σ : zSt} (hl : Lay σ) {n a y : Nat} (H : zMd σ n a y) {od : Nat → Nat} (ho : zMo σ a od) {pos : Nat → Nat} (hpo : zPo a od pos) {s : Nat} (hs : s < 8) {i8 : Nat} (hh : zMa σ s i8) {pa : Nat} (hi : i8 < y) (hw : zMy σ i8 3 pa) (hg : zX σ 45 28 = (-1))  : Dt mX12_says [.ref 45, .int (nI s), .int (nI 6)] σ (some (.int (-2))) (zuX σ 46 (upd (zX σ 46) 2 (zX σ 46 2 + nI 1))) := by
  obtain ⟨-, hn, hn8, ha, ha4, hy, hy8⟩ := id H
  have hi88 := hh.2.2
  have hpa := hw.2.2.2.1
  refine Dt.of (by decide) (Nat.le_of_ble_eq_true rfl) fun κ B Rt => ?_
  show Z κ 0 0 σ 0 [(0, .ref 45), (1, .int (nI s)), (2, .int (nI 6))] []
  refine Z.aload_n B dX12_says_0 (v := .ref 45) rfl rfl ?_
  refine Z.iload_n B dX12_says_1 (x := nI s) rfl ?_
  refine Z.callVI (σ := σ) B (M' := mX12_isShelf) (as := [.int (nI s)]) (st := []) (v := .int (nI 1)) dX12_says_2 wX12_isShelf iX12_isShelf sX12_isShelf kX12_90 (hl.n (k := 45) (by decide)) (hl.k (k := 45) (by decide)) (by decide) rfl rfl (t_X12_isShelf_in (σ := σ) hs) rfl rfl (by decide) (by decide) (Nat.le_of_ble_eq_true rfl) (by decide) (by decide) ?_
  refine Z.if_eqN B dX12_says_5 (tgt := 18) rfl (by omega) (fun h5 => by exfalso; first | omega | contradiction | simp_all) (fun h5 => ?_)
  refine Z.iload_n B dX12_says_8 (x := nI 6) rfl ?_
  refine Z.if_ltN B dX12_says_9 (tgt := 18) rfl (by omega) ?_
  refine Z.iload_n B dX12_says_12 (x := nI 6) rfl ?_
  refine Z.bipush B dX12_says_13 (v := nI 6) rfl ?_
  refine Z.icmp_leN B dX12_says_15 (tgt := 24) rfl (by omega) (by omega) (fun h15 => ?_) (fun h15 => by exfalso; first | omega | contradiction | simp_all)
  refine Z.aload_n B dX12_says_24 (v := .ref 45) rfl rfl ?_
  refine Z.getR (σ := σ) B fX12_41_12 dX12_says_25 (hl.n (k := 45) (by decide)) (hl.k (k := 45) (by decide)) (by decide) (j := 54) (hl.r (k := 45) (f := 13) (by decide) (by decide)) ?_
  refine Z.iload_n B dX12_says_28 (x := nI s) rfl ?_
  refine Z.iald (σ := σ) B dX12_says_29 (n := 8) (hl.n (k := 54) (by decide)) (hl.k (k := 54) (by decide)) (hl.l (k := 54) (by decide)) (by decide) (j := s) rfl (by omega) (v := nI 2) hh.1 ?_
  refine Z.iconst B dX12_says_30 (v := nI 1) rfl ?_
  refine Z.icmp_neN B dX12_says_31 (tgt := 41) rfl (by omega) (by omega) (fun h31 => ?_) (fun h31 => by exfalso; first | omega | contradiction | simp_all)
  refine Z.aload_n B dX12_says_41 (v := .ref 45) rfl rfl ?_
  refine Z.getR (σ := σ) B fX12_41_12 dX12_says_42 (hl.n (k := 45) (by decide)) (hl.k (k := 45) (by decide)) (by decide) (j := 54) (hl.r (k := 45) (f := 13) (by decide) (by decide)) ?_
  refine Z.iload_n B dX12_says_45 (x := nI s) rfl ?_
  refine Z.iald (σ := σ) B dX12_says_46 (n := 8) (hl.n (k := 54) (by decide)) (hl.k (k := 54) (by decide)) (hl.l (k := 54) (by decide)) (by decide) (j := s) rfl (by omega) (v := nI 2) hh.1 ?_
  refine Z.if_neN B dX12_says_47 (tgt := 57) rfl (by omega) (fun h47 => ?_) (fun h47 => by exfalso; first | omega | contradiction | simp_all)
  refine Z.aload_n B dX12_says_57 (v := .ref 45) rfl rfl ?_
  refine Z.getR (σ := σ) B fX12_50_12 dX12_says_58 (hl.n (k := 45) (by decide)) (hl.k (k := 45) (by decide)) (by decide) (j := 57) (hl.r (k := 45) (f := 16) (by decide) (by decide)) ?_
  refine Z.iload_n B dX12_says_61 (x := nI s) rfl ?_
  refine Z.iald (σ := σ) B dX12_says_62 (n := 8) (hl.n (k := 57) (by decide)) (hl.k (k := 57) (by decide)) (hl.l (k := 57) (by decide)) (by decide) (j := s) rfl (by omega) (v := nI i8) hh.2.1 ?_
  refine Z.istore_n B dX12_says_63 (by decide) (L' := [(0, .ref 45), (1, .int (nI s)), (2, .int (nI 6)), (3, .int (nI i8))]) rfl ?_
  refine Z.aload_n B dX12_says_64 (v := .ref 45) rfl rfl ?_
  refine Z.getR (σ := σ) B fX12_35_12 dX12_says_65 (hl.n (k := 45) (by decide)) (hl.k (k := 45) (by decide)) (by decide) (j := 52) (hl.r (k := 45) (f := 11) (by decide) (by decide)) ?_
  refine Z.iload_n B dX12_says_68 (x := nI i8) rfl ?_
  refine Z.iald (σ := σ) B dX12_says_69 (n := 8) (hl.n (k := 52) (by decide)) (hl.k (k := 52) (by decide)) (hl.l (k := 52) (by decide)) (by decide) (j := i8) rfl (by omega) (v := nI 3) hw.1 ?_
  refine Z.istore B dX12_says_70 (by decide) (L' := [(0, .ref 45), (1, .int (nI s)), (2, .int (nI 6)), (3, .int (nI i8)), (4, .int (nI 3))]) rfl ?_
  refine Z.iload_n B dX12_says_72 (x := nI 6) rfl ?_
  refine Z.if_eqN B dX12_says_73 (tgt := 112) rfl (by omega) (fun h73 => by exfalso; first | omega | contradiction | simp_all) (fun h73 => ?_)
  refine Z.iload_n B dX12_says_76 (x := nI 6) rfl ?_
  refine Z.iload B dX12_says_77 (x := nI 3) rfl ?_
  refine Z.icmp_eqN B dX12_says_79 (tgt := 112) rfl (by omega) (by omega) (fun h79 => by exfalso; first | omega | contradiction | simp_all) (fun h79 => ?_)
  refine Z.iload_n B dX12_says_82 (x := nI 6) rfl ?_
  refine Z.iconst B dX12_says_83 (v := nI 1) rfl ?_
  refine Z.icmp_neN B dX12_says_84 (tgt := 93) rfl (by omega) (by omega) (fun h84 => ?_) (fun h84 => by exfalso; first | omega | contradiction | simp_all)
  refine Z.iload_n B dX12_says_93 (x := nI 6) rfl ?_
  refine Z.iconst B dX12_says_94 (v := nI 5) rfl ?_
  refine Z.icmp_neN B dX12_says_95 (tgt := 105) rfl (by omega) (by omega) (fun h95 => ?_) (fun h95 => by exfalso; first | omega | contradiction | simp_all)
  refine Z.aload_n B dX12_says_105 (v := .ref 45) rfl rfl ?_
  refine Z.bipush B dX12_says_106 (v := (-2)) rfl ?_
  refine Z.callVI (σ := σ) B (M' := mX12_no) (as := [.int (-2)]) (st := []) (v := .int (-2)) dX12_says_108 wX12_no iX12_no sX12_no kX12_94 (hl.n (k := 45) (by decide)) (hl.k (k := 45) (by decide)) (by decide) rfl rfl (t_X12_no_2 (σ := σ) hl) rfl rfl (by decide) (by decide) (Nat.le_of_ble_eq_true rfl) (by decide) (by decide) ?_
  refine Z.eqσ (τ := (zuX σ 46 (upd (zX σ 46) 2 (zX σ 46 2 + nI 1)))) rfl ?_
  refine Z.iret B Rt dX12_says_111 (ty := .int) rfl rfl (by decide) (by decide) ?_
  exact ⟨rfl, rfl⟩

theorem t_M_says_0_4_0 {σ : zSt} (hl : Lay σ) {n a y : Nat} (H : zMd σ n a y) {od : Nat → Nat} (ho : zMo σ a od) {pos : Nat → Nat} (hpo : zPo a od pos) {s : Nat} (hs : s < 8) {i8 : Nat} (hh : zMa σ s i8) {pa : Nat} (hi : i8 < y) (hw : zMy σ i8 4 pa) (hg : zX σ 45 28 = (-1))  : Dt mX12_says [.ref 45, .int (nI s), .int (nI 0)] σ (some (.int (nI pa))) σ := by
  obtain ⟨-, hn, hn8, ha, ha4, hy, hy8⟩ := id H
  have hi88 := hh.2.2
  have hpa := hw.2.2.2.1
  refine Dt.of (by decide) (Nat.le_of_ble_eq_true rfl) fun κ B Rt => ?_
  show Z κ 0 0 σ 0 [(0, .ref 45), (1, .int (nI s)), (2, .int (nI 0))] []
  refine Z.aload_n B dX12_says_0 (v := .ref 45) rfl rfl ?_
  refine Z.iload_n B dX12_says_1 (x := nI s) rfl ?_
  refine Z.callVI (σ := σ) B (M' := mX12_isShelf) (as := [.int (nI s)]) (st := []) (v := .int (nI 1)) dX12_says_2 wX12_isShelf iX12_isShelf sX12_isShelf kX12_90 (hl.n (k := 45) (by decide)) (hl.k (k := 45) (by decide)) (by decide) rfl rfl (t_X12_isShelf_in (σ := σ) hs) rfl rfl (by decide) (by decide) (Nat.le_of_ble_eq_true rfl) (by decide) (by decide) ?_
  refine Z.if_eqN B dX12_says_5 (tgt := 18) rfl (by omega) (fun h5 => by exfalso; first | omega | contradiction | simp_all) (fun h5 => ?_)
  refine Z.iload_n B dX12_says_8 (x := nI 0) rfl ?_
  refine Z.if_ltN B dX12_says_9 (tgt := 18) rfl (by omega) ?_
  refine Z.iload_n B dX12_says_12 (x := nI 0) rfl ?_
  refine Z.bipush B dX12_says_13 (v := nI 6) rfl ?_
  refine Z.icmp_leN B dX12_says_15 (tgt := 24) rfl (by omega) (by omega) (fun h15 => ?_) (fun h15 => by exfalso; first | omega | contradiction | simp_all)
  refine Z.aload_n B dX12_says_24 (v := .ref 45) rfl rfl ?_
  refine Z.getR (σ := σ) B fX12_41_12 dX12_says_25 (hl.n (k := 45) (by decide)) (hl.k (k := 45) (by decide)) (by decide) (j := 54) (hl.r (k := 45) (f := 13) (by decide) (by decide)) ?_
  refine Z.iload_n B dX12_says_28 (x := nI s) rfl ?_
  refine Z.iald (σ := σ) B dX12_says_29 (n := 8) (hl.n (k := 54) (by decide)) (hl.k (k := 54) (by decide)) (hl.l (k := 54) (by decide)) (by decide) (j := s) rfl (by omega) (v := nI 2) hh.1 ?_
  refine Z.iconst B dX12_says_30 (v := nI 1) rfl ?_
  refine Z.icmp_neN B dX12_says_31 (tgt := 41) rfl (by omega) (by omega) (fun h31 => ?_) (fun h31 => by exfalso; first | omega | contradiction | simp_all)
  refine Z.aload_n B dX12_says_41 (v := .ref 45) rfl rfl ?_
  refine Z.getR (σ := σ) B fX12_41_12 dX12_says_42 (hl.n (k := 45) (by decide)) (hl.k (k := 45) (by decide)) (by decide) (j := 54) (hl.r (k := 45) (f := 13) (by decide) (by decide)) ?_
  refine Z.iload_n B dX12_says_45 (x := nI s) rfl ?_
  refine Z.iald (σ := σ) B dX12_says_46 (n := 8) (hl.n (k := 54) (by decide)) (hl.k (k := 54) (by decide)) (hl.l (k := 54) (by decide)) (by decide) (j := s) rfl (by omega) (v := nI 2) hh.1 ?_
  refine Z.if_neN B dX12_says_47 (tgt := 57) rfl (by omega) (fun h47 => ?_) (fun h47 => by exfalso; first | omega | contradiction | simp_all)
  refine Z.aload_n B dX12_says_57 (v := .ref 45) rfl rfl ?_
  refine Z.getR (σ := σ) B fX12_50_12 dX12_says_58 (hl.n (k := 45) (by decide)) (hl.k (k := 45) (by decide)) (by decide) (j := 57) (hl.r (k := 45) (f := 16) (by decide) (by decide)) ?_
  refine Z.iload_n B dX12_says_61 (x := nI s) rfl ?_
  refine Z.iald (σ := σ) B dX12_says_62 (n := 8) (hl.n (k := 57) (by decide)) (hl.k (k := 57) (by decide)) (hl.l (k := 57) (by decide)) (by decide) (j := s) rfl (by omega) (v := nI i8) hh.2.1 ?_
  refine Z.istore_n B dX12_says_63 (by decide) (L' := [(0, .ref 45), (1, .int (nI s)), (2, .int (nI 0)), (3, .int (nI i8))]) rfl ?_
  refine Z.aload_n B dX12_says_64 (v := .ref 45) rfl rfl ?_
  refine Z.getR (σ := σ) B fX12_35_12 dX12_says_65 (hl.n (k := 45) (by decide)) (hl.k (k := 45) (by decide)) (by decide) (j := 52) (hl.r (k := 45) (f := 11) (by decide) (by decide)) ?_
  refine Z.iload_n B dX12_says_68 (x := nI i8) rfl ?_
  refine Z.iald (σ := σ) B dX12_says_69 (n := 8) (hl.n (k := 52) (by decide)) (hl.k (k := 52) (by decide)) (hl.l (k := 52) (by decide)) (by decide) (j := i8) rfl (by omega) (v := nI 4) hw.1 ?_
  refine Z.istore B dX12_says_70 (by decide) (L' := [(0, .ref 45), (1, .int (nI s)), (2, .int (nI 0)), (3, .int (nI i8)), (4, .int (nI 4))]) rfl ?_
  refine Z.iload_n B dX12_says_72 (x := nI 0) rfl ?_
  refine Z.if_eqN B dX12_says_73 (tgt := 112) rfl (by omega) (fun h73 => ?_) (fun h73 => by exfalso; first | omega | contradiction | simp_all)
  refine Z.iload_n B dX12_says_112 (x := nI 0) rfl ?_
  refine Z.tabIn B dX12_says_113 (by decide) (by decide) (off := 43) (by decide) (tgt := 156) rfl ?_
  refine Z.aload_n B dX12_says_156 (v := .ref 45) rfl rfl ?_
  refine Z.getR (σ := σ) B fX12_38_12 dX12_says_157 (hl.n (k := 45) (by decide)) (hl.k (k := 45) (by decide)) (by decide) (j := 53) (hl.r (k := 45) (f := 12) (by decide) (by decide)) ?_
  refine Z.iload_n B dX12_says_160 (x := nI i8) rfl ?_
  refine Z.iald (σ := σ) B dX12_says_161 (n := 8) (hl.n (k := 53) (by decide)) (hl.k (k := 53) (by decide)) (hl.l (k := 53) (by decide)) (by decide) (j := i8) rfl (by omega) (v := nI pa) hw.2.1 ?_
  refine Z.iret B Rt dX12_says_162 (ty := .int) rfl rfl (by decide) (by decide) ?_
  exact ⟨rfl, rfl⟩

theorem t_M_says_0_4_1 {σ : zSt} (hl : Lay σ) {n a y : Nat} (H : zMd σ n a y) {od : Nat → Nat} (ho : zMo σ a od) {pos : Nat → Nat} (hpo : zPo a od pos) {s : Nat} (hs : s < 8) {i8 : Nat} (hh : zMa σ s i8) {pa : Nat} (hi : i8 < y) (hw : zMy σ i8 4 pa) (hg : zX σ 45 28 = (-1))  : Dt mX12_says [.ref 45, .int (nI s), .int (nI 1)] σ (some (.int (-2))) (zuX σ 46 (upd (zX σ 46) 2 (zX σ 46 2 + nI 1))) := by
  obtain ⟨-, hn, hn8, ha, ha4, hy, hy8⟩ := id H
  have hi88 := hh.2.2
  have hpa := hw.2.2.2.1
  refine Dt.of (by decide) (Nat.le_of_ble_eq_true rfl) fun κ B Rt => ?_
  show Z κ 0 0 σ 0 [(0, .ref 45), (1, .int (nI s)), (2, .int (nI 1))] []
  refine Z.aload_n B dX12_says_0 (v := .ref 45) rfl rfl ?_
  refine Z.iload_n B dX12_says_1 (x := nI s) rfl ?_
  refine Z.callVI (σ := σ) B (M' := mX12_isShelf) (as := [.int (nI s)]) (st := []) (v := .int (nI 1)) dX12_says_2 wX12_isShelf iX12_isShelf sX12_isShelf kX12_90 (hl.n (k := 45) (by decide)) (hl.k (k := 45) (by decide)) (by decide) rfl rfl (t_X12_isShelf_in (σ := σ) hs) rfl rfl (by decide) (by decide) (Nat.le_of_ble_eq_true rfl) (by decide) (by decide) ?_
  refine Z.if_eqN B dX12_says_5 (tgt := 18) rfl (by omega) (fun h5 => by exfalso; first | omega | contradiction | simp_all) (fun h5 => ?_)
  refine Z.iload_n B dX12_says_8 (x := nI 1) rfl ?_
  refine Z.if_ltN B dX12_says_9 (tgt := 18) rfl (by omega) ?_
  refine Z.iload_n B dX12_says_12 (x := nI 1) rfl ?_
  refine Z.bipush B dX12_says_13 (v := nI 6) rfl ?_
  refine Z.icmp_leN B dX12_says_15 (tgt := 24) rfl (by omega) (by omega) (fun h15 => ?_) (fun h15 => by exfalso; first | omega | contradiction | simp_all)
  refine Z.aload_n B dX12_says_24 (v := .ref 45) rfl rfl ?_
  refine Z.getR (σ := σ) B fX12_41_12 dX12_says_25 (hl.n (k := 45) (by decide)) (hl.k (k := 45) (by decide)) (by decide) (j := 54) (hl.r (k := 45) (f := 13) (by decide) (by decide)) ?_
  refine Z.iload_n B dX12_says_28 (x := nI s) rfl ?_
  refine Z.iald (σ := σ) B dX12_says_29 (n := 8) (hl.n (k := 54) (by decide)) (hl.k (k := 54) (by decide)) (hl.l (k := 54) (by decide)) (by decide) (j := s) rfl (by omega) (v := nI 2) hh.1 ?_
  refine Z.iconst B dX12_says_30 (v := nI 1) rfl ?_
  refine Z.icmp_neN B dX12_says_31 (tgt := 41) rfl (by omega) (by omega) (fun h31 => ?_) (fun h31 => by exfalso; first | omega | contradiction | simp_all)
  refine Z.aload_n B dX12_says_41 (v := .ref 45) rfl rfl ?_
  refine Z.getR (σ := σ) B fX12_41_12 dX12_says_42 (hl.n (k := 45) (by decide)) (hl.k (k := 45) (by decide)) (by decide) (j := 54) (hl.r (k := 45) (f := 13) (by decide) (by decide)) ?_
  refine Z.iload_n B dX12_says_45 (x := nI s) rfl ?_
  refine Z.iald (σ := σ) B dX12_says_46 (n := 8) (hl.n (k := 54) (by decide)) (hl.k (k := 54) (by decide)) (hl.l (k := 54) (by decide)) (by decide) (j := s) rfl (by omega) (v := nI 2) hh.1 ?_
  refine Z.if_neN B dX12_says_47 (tgt := 57) rfl (by omega) (fun h47 => ?_) (fun h47 => by exfalso; first | omega | contradiction | simp_all)
  refine Z.aload_n B dX12_says_57 (v := .ref 45) rfl rfl ?_
  refine Z.getR (σ := σ) B fX12_50_12 dX12_says_58 (hl.n (k := 45) (by decide)) (hl.k (k := 45) (by decide)) (by decide) (j := 57) (hl.r (k := 45) (f := 16) (by decide) (by decide)) ?_
  refine Z.iload_n B dX12_says_61 (x := nI s) rfl ?_
  refine Z.iald (σ := σ) B dX12_says_62 (n := 8) (hl.n (k := 57) (by decide)) (hl.k (k := 57) (by decide)) (hl.l (k := 57) (by decide)) (by decide) (j := s) rfl (by omega) (v := nI i8) hh.2.1 ?_
  refine Z.istore_n B dX12_says_63 (by decide) (L' := [(0, .ref 45), (1, .int (nI s)), (2, .int (nI 1)), (3, .int (nI i8))]) rfl ?_
  refine Z.aload_n B dX12_says_64 (v := .ref 45) rfl rfl ?_
  refine Z.getR (σ := σ) B fX12_35_12 dX12_says_65 (hl.n (k := 45) (by decide)) (hl.k (k := 45) (by decide)) (by decide) (j := 52) (hl.r (k := 45) (f := 11) (by decide) (by decide)) ?_
  refine Z.iload_n B dX12_says_68 (x := nI i8) rfl ?_
  refine Z.iald (σ := σ) B dX12_says_69 (n := 8) (hl.n (k := 52) (by decide)) (hl.k (k := 52) (by decide)) (hl.l (k := 52) (by decide)) (by decide) (j := i8) rfl (by omega) (v := nI 4) hw.1 ?_
  refine Z.istore B dX12_says_70 (by decide) (L' := [(0, .ref 45), (1, .int (nI s)), (2, .int (nI 1)), (3, .int (nI i8)), (4, .int (nI 4))]) rfl ?_
  refine Z.iload_n B dX12_says_72 (x := nI 1) rfl ?_
  refine Z.if_eqN B dX12_says_73 (tgt := 112) rfl (by omega) (fun h73 => by exfalso; first | omega | contradiction | simp_all) (fun h73 => ?_)
  refine Z.iload_n B dX12_says_76 (x := nI 1) rfl ?_
  refine Z.iload B dX12_says_77 (x := nI 4) rfl ?_
  refine Z.icmp_eqN B dX12_says_79 (tgt := 112) rfl (by omega) (by omega) (fun h79 => by exfalso; first | omega | contradiction | simp_all) (fun h79 => ?_)
  refine Z.iload_n B dX12_says_82 (x := nI 1) rfl ?_
  refine Z.iconst B dX12_says_83 (v := nI 1) rfl ?_
  refine Z.icmp_neN B dX12_says_84 (tgt := 93) rfl (by omega) (by omega) (fun h84 => by exfalso; first | omega | contradiction | simp_all) (fun h84 => ?_)
  refine Z.iload B dX12_says_87 (x := nI 4) rfl ?_
  refine Z.iconst B dX12_says_89 (v := nI 2) rfl ?_
  refine Z.icmp_eqN B dX12_says_90 (tgt := 112) rfl (by omega) (by omega) (fun h90 => by exfalso; first | omega | contradiction | simp_all) (fun h90 => ?_)
  refine Z.iload_n B dX12_says_93 (x := nI 1) rfl ?_
  refine Z.iconst B dX12_says_94 (v := nI 5) rfl ?_
  refine Z.icmp_neN B dX12_says_95 (tgt := 105) rfl (by omega) (by omega) (fun h95 => ?_) (fun h95 => by exfalso; first | omega | contradiction | simp_all)
  refine Z.aload_n B dX12_says_105 (v := .ref 45) rfl rfl ?_
  refine Z.bipush B dX12_says_106 (v := (-2)) rfl ?_
  refine Z.callVI (σ := σ) B (M' := mX12_no) (as := [.int (-2)]) (st := []) (v := .int (-2)) dX12_says_108 wX12_no iX12_no sX12_no kX12_94 (hl.n (k := 45) (by decide)) (hl.k (k := 45) (by decide)) (by decide) rfl rfl (t_X12_no_2 (σ := σ) hl) rfl rfl (by decide) (by decide) (Nat.le_of_ble_eq_true rfl) (by decide) (by decide) ?_
  refine Z.eqσ (τ := (zuX σ 46 (upd (zX σ 46) 2 (zX σ 46 2 + nI 1)))) rfl ?_
  refine Z.iret B Rt dX12_says_111 (ty := .int) rfl rfl (by decide) (by decide) ?_
  exact ⟨rfl, rfl⟩

theorem t_M_says_0_4_2 {σ : zSt} (hl : Lay σ) {n a y : Nat} (H : zMd σ n a y) {od : Nat → Nat} (ho : zMo σ a od) {pos : Nat → Nat} (hpo : zPo a od pos) {s : Nat} (hs : s < 8) {i8 : Nat} (hh : zMa σ s i8) {pa : Nat} (hi : i8 < y) (hw : zMy σ i8 4 pa) (hg : zX σ 45 28 = (-1))  : Dt mX12_says [.ref 45, .int (nI s), .int (nI 2)] σ (some (.int (-2))) (zuX σ 46 (upd (zX σ 46) 2 (zX σ 46 2 + nI 1))) := by
  obtain ⟨-, hn, hn8, ha, ha4, hy, hy8⟩ := id H
  have hi88 := hh.2.2
  have hpa := hw.2.2.2.1
  refine Dt.of (by decide) (Nat.le_of_ble_eq_true rfl) fun κ B Rt => ?_
  show Z κ 0 0 σ 0 [(0, .ref 45), (1, .int (nI s)), (2, .int (nI 2))] []
  refine Z.aload_n B dX12_says_0 (v := .ref 45) rfl rfl ?_
  refine Z.iload_n B dX12_says_1 (x := nI s) rfl ?_
  refine Z.callVI (σ := σ) B (M' := mX12_isShelf) (as := [.int (nI s)]) (st := []) (v := .int (nI 1)) dX12_says_2 wX12_isShelf iX12_isShelf sX12_isShelf kX12_90 (hl.n (k := 45) (by decide)) (hl.k (k := 45) (by decide)) (by decide) rfl rfl (t_X12_isShelf_in (σ := σ) hs) rfl rfl (by decide) (by decide) (Nat.le_of_ble_eq_true rfl) (by decide) (by decide) ?_
  refine Z.if_eqN B dX12_says_5 (tgt := 18) rfl (by omega) (fun h5 => by exfalso; first | omega | contradiction | simp_all) (fun h5 => ?_)
  refine Z.iload_n B dX12_says_8 (x := nI 2) rfl ?_
  refine Z.if_ltN B dX12_says_9 (tgt := 18) rfl (by omega) ?_
  refine Z.iload_n B dX12_says_12 (x := nI 2) rfl ?_
  refine Z.bipush B dX12_says_13 (v := nI 6) rfl ?_
  refine Z.icmp_leN B dX12_says_15 (tgt := 24) rfl (by omega) (by omega) (fun h15 => ?_) (fun h15 => by exfalso; first | omega | contradiction | simp_all)
  refine Z.aload_n B dX12_says_24 (v := .ref 45) rfl rfl ?_
  refine Z.getR (σ := σ) B fX12_41_12 dX12_says_25 (hl.n (k := 45) (by decide)) (hl.k (k := 45) (by decide)) (by decide) (j := 54) (hl.r (k := 45) (f := 13) (by decide) (by decide)) ?_
  refine Z.iload_n B dX12_says_28 (x := nI s) rfl ?_
  refine Z.iald (σ := σ) B dX12_says_29 (n := 8) (hl.n (k := 54) (by decide)) (hl.k (k := 54) (by decide)) (hl.l (k := 54) (by decide)) (by decide) (j := s) rfl (by omega) (v := nI 2) hh.1 ?_
  refine Z.iconst B dX12_says_30 (v := nI 1) rfl ?_
  refine Z.icmp_neN B dX12_says_31 (tgt := 41) rfl (by omega) (by omega) (fun h31 => ?_) (fun h31 => by exfalso; first | omega | contradiction | simp_all)
  refine Z.aload_n B dX12_says_41 (v := .ref 45) rfl rfl ?_
  refine Z.getR (σ := σ) B fX12_41_12 dX12_says_42 (hl.n (k := 45) (by decide)) (hl.k (k := 45) (by decide)) (by decide) (j := 54) (hl.r (k := 45) (f := 13) (by decide) (by decide)) ?_
  refine Z.iload_n B dX12_says_45 (x := nI s) rfl ?_
  refine Z.iald (σ := σ) B dX12_says_46 (n := 8) (hl.n (k := 54) (by decide)) (hl.k (k := 54) (by decide)) (hl.l (k := 54) (by decide)) (by decide) (j := s) rfl (by omega) (v := nI 2) hh.1 ?_
  refine Z.if_neN B dX12_says_47 (tgt := 57) rfl (by omega) (fun h47 => ?_) (fun h47 => by exfalso; first | omega | contradiction | simp_all)
  refine Z.aload_n B dX12_says_57 (v := .ref 45) rfl rfl ?_
  refine Z.getR (σ := σ) B fX12_50_12 dX12_says_58 (hl.n (k := 45) (by decide)) (hl.k (k := 45) (by decide)) (by decide) (j := 57) (hl.r (k := 45) (f := 16) (by decide) (by decide)) ?_
  refine Z.iload_n B dX12_says_61 (x := nI s) rfl ?_
  refine Z.iald (σ := σ) B dX12_says_62 (n := 8) (hl.n (k := 57) (by decide)) (hl.k (k := 57) (by decide)) (hl.l (k := 57) (by decide)) (by decide) (j := s) rfl (by omega) (v := nI i8) hh.2.1 ?_
  refine Z.istore_n B dX12_says_63 (by decide) (L' := [(0, .ref 45), (1, .int (nI s)), (2, .int (nI 2)), (3, .int (nI i8))]) rfl ?_
  refine Z.aload_n B dX12_says_64 (v := .ref 45) rfl rfl ?_
  refine Z.getR (σ := σ) B fX12_35_12 dX12_says_65 (hl.n (k := 45) (by decide)) (hl.k (k := 45) (by decide)) (by decide) (j := 52) (hl.r (k := 45) (f := 11) (by decide) (by decide)) ?_
  refine Z.iload_n B dX12_says_68 (x := nI i8) rfl ?_
  refine Z.iald (σ := σ) B dX12_says_69 (n := 8) (hl.n (k := 52) (by decide)) (hl.k (k := 52) (by decide)) (hl.l (k := 52) (by decide)) (by decide) (j := i8) rfl (by omega) (v := nI 4) hw.1 ?_
  refine Z.istore B dX12_says_70 (by decide) (L' := [(0, .ref 45), (1, .int (nI s)), (2, .int (nI 2)), (3, .int (nI i8)), (4, .int (nI 4))]) rfl ?_
  refine Z.iload_n B dX12_says_72 (x := nI 2) rfl ?_
  refine Z.if_eqN B dX12_says_73 (tgt := 112) rfl (by omega) (fun h73 => by exfalso; first | omega | contradiction | simp_all) (fun h73 => ?_)
  refine Z.iload_n B dX12_says_76 (x := nI 2) rfl ?_
  refine Z.iload B dX12_says_77 (x := nI 4) rfl ?_
  refine Z.icmp_eqN B dX12_says_79 (tgt := 112) rfl (by omega) (by omega) (fun h79 => by exfalso; first | omega | contradiction | simp_all) (fun h79 => ?_)
  refine Z.iload_n B dX12_says_82 (x := nI 2) rfl ?_
  refine Z.iconst B dX12_says_83 (v := nI 1) rfl ?_
  refine Z.icmp_neN B dX12_says_84 (tgt := 93) rfl (by omega) (by omega) (fun h84 => ?_) (fun h84 => by exfalso; first | omega | contradiction | simp_all)
  refine Z.iload_n B dX12_says_93 (x := nI 2) rfl ?_
  refine Z.iconst B dX12_says_94 (v := nI 5) rfl ?_
  refine Z.icmp_neN B dX12_says_95 (tgt := 105) rfl (by omega) (by omega) (fun h95 => ?_) (fun h95 => by exfalso; first | omega | contradiction | simp_all)
  refine Z.aload_n B dX12_says_105 (v := .ref 45) rfl rfl ?_
  refine Z.bipush B dX12_says_106 (v := (-2)) rfl ?_
  refine Z.callVI (σ := σ) B (M' := mX12_no) (as := [.int (-2)]) (st := []) (v := .int (-2)) dX12_says_108 wX12_no iX12_no sX12_no kX12_94 (hl.n (k := 45) (by decide)) (hl.k (k := 45) (by decide)) (by decide) rfl rfl (t_X12_no_2 (σ := σ) hl) rfl rfl (by decide) (by decide) (Nat.le_of_ble_eq_true rfl) (by decide) (by decide) ?_
  refine Z.eqσ (τ := (zuX σ 46 (upd (zX σ 46) 2 (zX σ 46 2 + nI 1)))) rfl ?_
  refine Z.iret B Rt dX12_says_111 (ty := .int) rfl rfl (by decide) (by decide) ?_
  exact ⟨rfl, rfl⟩

theorem t_M_says_0_4_3 {σ : zSt} (hl : Lay σ) {n a y : Nat} (H : zMd σ n a y) {od : Nat → Nat} (ho : zMo σ a od) {pos : Nat → Nat} (hpo : zPo a od pos) {s : Nat} (hs : s < 8) {i8 : Nat} (hh : zMa σ s i8) {pa : Nat} (hi : i8 < y) (hw : zMy σ i8 4 pa) (hg : zX σ 45 28 = (-1))  : Dt mX12_says [.ref 45, .int (nI s), .int (nI 3)] σ (some (.int (-2))) (zuX σ 46 (upd (zX σ 46) 2 (zX σ 46 2 + nI 1))) := by
  obtain ⟨-, hn, hn8, ha, ha4, hy, hy8⟩ := id H
  have hi88 := hh.2.2
  have hpa := hw.2.2.2.1
  refine Dt.of (by decide) (Nat.le_of_ble_eq_true rfl) fun κ B Rt => ?_
  show Z κ 0 0 σ 0 [(0, .ref 45), (1, .int (nI s)), (2, .int (nI 3))] []
  refine Z.aload_n B dX12_says_0 (v := .ref 45) rfl rfl ?_
  refine Z.iload_n B dX12_says_1 (x := nI s) rfl ?_
  refine Z.callVI (σ := σ) B (M' := mX12_isShelf) (as := [.int (nI s)]) (st := []) (v := .int (nI 1)) dX12_says_2 wX12_isShelf iX12_isShelf sX12_isShelf kX12_90 (hl.n (k := 45) (by decide)) (hl.k (k := 45) (by decide)) (by decide) rfl rfl (t_X12_isShelf_in (σ := σ) hs) rfl rfl (by decide) (by decide) (Nat.le_of_ble_eq_true rfl) (by decide) (by decide) ?_
  refine Z.if_eqN B dX12_says_5 (tgt := 18) rfl (by omega) (fun h5 => by exfalso; first | omega | contradiction | simp_all) (fun h5 => ?_)
  refine Z.iload_n B dX12_says_8 (x := nI 3) rfl ?_
  refine Z.if_ltN B dX12_says_9 (tgt := 18) rfl (by omega) ?_
  refine Z.iload_n B dX12_says_12 (x := nI 3) rfl ?_
  refine Z.bipush B dX12_says_13 (v := nI 6) rfl ?_
  refine Z.icmp_leN B dX12_says_15 (tgt := 24) rfl (by omega) (by omega) (fun h15 => ?_) (fun h15 => by exfalso; first | omega | contradiction | simp_all)
  refine Z.aload_n B dX12_says_24 (v := .ref 45) rfl rfl ?_
  refine Z.getR (σ := σ) B fX12_41_12 dX12_says_25 (hl.n (k := 45) (by decide)) (hl.k (k := 45) (by decide)) (by decide) (j := 54) (hl.r (k := 45) (f := 13) (by decide) (by decide)) ?_
  refine Z.iload_n B dX12_says_28 (x := nI s) rfl ?_
  refine Z.iald (σ := σ) B dX12_says_29 (n := 8) (hl.n (k := 54) (by decide)) (hl.k (k := 54) (by decide)) (hl.l (k := 54) (by decide)) (by decide) (j := s) rfl (by omega) (v := nI 2) hh.1 ?_
  refine Z.iconst B dX12_says_30 (v := nI 1) rfl ?_
  refine Z.icmp_neN B dX12_says_31 (tgt := 41) rfl (by omega) (by omega) (fun h31 => ?_) (fun h31 => by exfalso; first | omega | contradiction | simp_all)
  refine Z.aload_n B dX12_says_41 (v := .ref 45) rfl rfl ?_
  refine Z.getR (σ := σ) B fX12_41_12 dX12_says_42 (hl.n (k := 45) (by decide)) (hl.k (k := 45) (by decide)) (by decide) (j := 54) (hl.r (k := 45) (f := 13) (by decide) (by decide)) ?_
  refine Z.iload_n B dX12_says_45 (x := nI s) rfl ?_
  refine Z.iald (σ := σ) B dX12_says_46 (n := 8) (hl.n (k := 54) (by decide)) (hl.k (k := 54) (by decide)) (hl.l (k := 54) (by decide)) (by decide) (j := s) rfl (by omega) (v := nI 2) hh.1 ?_
  refine Z.if_neN B dX12_says_47 (tgt := 57) rfl (by omega) (fun h47 => ?_) (fun h47 => by exfalso; first | omega | contradiction | simp_all)
  refine Z.aload_n B dX12_says_57 (v := .ref 45) rfl rfl ?_
  refine Z.getR (σ := σ) B fX12_50_12 dX12_says_58 (hl.n (k := 45) (by decide)) (hl.k (k := 45) (by decide)) (by decide) (j := 57) (hl.r (k := 45) (f := 16) (by decide) (by decide)) ?_
  refine Z.iload_n B dX12_says_61 (x := nI s) rfl ?_
  refine Z.iald (σ := σ) B dX12_says_62 (n := 8) (hl.n (k := 57) (by decide)) (hl.k (k := 57) (by decide)) (hl.l (k := 57) (by decide)) (by decide) (j := s) rfl (by omega) (v := nI i8) hh.2.1 ?_
  refine Z.istore_n B dX12_says_63 (by decide) (L' := [(0, .ref 45), (1, .int (nI s)), (2, .int (nI 3)), (3, .int (nI i8))]) rfl ?_
  refine Z.aload_n B dX12_says_64 (v := .ref 45) rfl rfl ?_
  refine Z.getR (σ := σ) B fX12_35_12 dX12_says_65 (hl.n (k := 45) (by decide)) (hl.k (k := 45) (by decide)) (by decide) (j := 52) (hl.r (k := 45) (f := 11) (by decide) (by decide)) ?_
  refine Z.iload_n B dX12_says_68 (x := nI i8) rfl ?_
  refine Z.iald (σ := σ) B dX12_says_69 (n := 8) (hl.n (k := 52) (by decide)) (hl.k (k := 52) (by decide)) (hl.l (k := 52) (by decide)) (by decide) (j := i8) rfl (by omega) (v := nI 4) hw.1 ?_
  refine Z.istore B dX12_says_70 (by decide) (L' := [(0, .ref 45), (1, .int (nI s)), (2, .int (nI 3)), (3, .int (nI i8)), (4, .int (nI 4))]) rfl ?_
  refine Z.iload_n B dX12_says_72 (x := nI 3) rfl ?_
  refine Z.if_eqN B dX12_says_73 (tgt := 112) rfl (by omega) (fun h73 => by exfalso; first | omega | contradiction | simp_all) (fun h73 => ?_)
  refine Z.iload_n B dX12_says_76 (x := nI 3) rfl ?_
  refine Z.iload B dX12_says_77 (x := nI 4) rfl ?_
  refine Z.icmp_eqN B dX12_says_79 (tgt := 112) rfl (by omega) (by omega) (fun h79 => by exfalso; first | omega | contradiction | simp_all) (fun h79 => ?_)
  refine Z.iload_n B dX12_says_82 (x := nI 3) rfl ?_
  refine Z.iconst B dX12_says_83 (v := nI 1) rfl ?_
  refine Z.icmp_neN B dX12_says_84 (tgt := 93) rfl (by omega) (by omega) (fun h84 => ?_) (fun h84 => by exfalso; first | omega | contradiction | simp_all)
  refine Z.iload_n B dX12_says_93 (x := nI 3) rfl ?_
  refine Z.iconst B dX12_says_94 (v := nI 5) rfl ?_
  refine Z.icmp_neN B dX12_says_95 (tgt := 105) rfl (by omega) (by omega) (fun h95 => ?_) (fun h95 => by exfalso; first | omega | contradiction | simp_all)
  refine Z.aload_n B dX12_says_105 (v := .ref 45) rfl rfl ?_
  refine Z.bipush B dX12_says_106 (v := (-2)) rfl ?_
  refine Z.callVI (σ := σ) B (M' := mX12_no) (as := [.int (-2)]) (st := []) (v := .int (-2)) dX12_says_108 wX12_no iX12_no sX12_no kX12_94 (hl.n (k := 45) (by decide)) (hl.k (k := 45) (by decide)) (by decide) rfl rfl (t_X12_no_2 (σ := σ) hl) rfl rfl (by decide) (by decide) (Nat.le_of_ble_eq_true rfl) (by decide) (by decide) ?_
  refine Z.eqσ (τ := (zuX σ 46 (upd (zX σ 46) 2 (zX σ 46 2 + nI 1)))) rfl ?_
  refine Z.iret B Rt dX12_says_111 (ty := .int) rfl rfl (by decide) (by decide) ?_
  exact ⟨rfl, rfl⟩

theorem t_M_says_0_4_4 {σ : zSt} (hl : Lay σ) {n a y : Nat} (H : zMd σ n a y) {od : Nat → Nat} (ho : zMo σ a od) {pos : Nat → Nat} (hpo : zPo a od pos) {s : Nat} (hs : s < 8) {i8 : Nat} (hh : zMa σ s i8) {pa : Nat} (hi : i8 < y) (hw : zMy σ i8 4 pa) (hg : zX σ 45 28 = (-1))  : Dt mX12_says [.ref 45, .int (nI s), .int (nI 4)] σ (some (.int (ct (fun c => decide (cn (zX σ 47) c 6 < nI pa)) n))) σ := by
  obtain ⟨-, hn, hn8, ha, ha4, hy, hy8⟩ := id H
  have hi88 := hh.2.2
  have hpa := hw.2.2.2.1
  refine Dt.of (by decide) (Nat.le_of_ble_eq_true rfl) fun κ B Rt => ?_
  show Z κ 0 0 σ 0 [(0, .ref 45), (1, .int (nI s)), (2, .int (nI 4))] []
  refine Z.aload_n B dX12_says_0 (v := .ref 45) rfl rfl ?_
  refine Z.iload_n B dX12_says_1 (x := nI s) rfl ?_
  refine Z.callVI (σ := σ) B (M' := mX12_isShelf) (as := [.int (nI s)]) (st := []) (v := .int (nI 1)) dX12_says_2 wX12_isShelf iX12_isShelf sX12_isShelf kX12_90 (hl.n (k := 45) (by decide)) (hl.k (k := 45) (by decide)) (by decide) rfl rfl (t_X12_isShelf_in (σ := σ) hs) rfl rfl (by decide) (by decide) (Nat.le_of_ble_eq_true rfl) (by decide) (by decide) ?_
  refine Z.if_eqN B dX12_says_5 (tgt := 18) rfl (by omega) (fun h5 => by exfalso; first | omega | contradiction | simp_all) (fun h5 => ?_)
  refine Z.iload_n B dX12_says_8 (x := nI 4) rfl ?_
  refine Z.if_ltN B dX12_says_9 (tgt := 18) rfl (by omega) ?_
  refine Z.iload_n B dX12_says_12 (x := nI 4) rfl ?_
  refine Z.bipush B dX12_says_13 (v := nI 6) rfl ?_
  refine Z.icmp_leN B dX12_says_15 (tgt := 24) rfl (by omega) (by omega) (fun h15 => ?_) (fun h15 => by exfalso; first | omega | contradiction | simp_all)
  refine Z.aload_n B dX12_says_24 (v := .ref 45) rfl rfl ?_
  refine Z.getR (σ := σ) B fX12_41_12 dX12_says_25 (hl.n (k := 45) (by decide)) (hl.k (k := 45) (by decide)) (by decide) (j := 54) (hl.r (k := 45) (f := 13) (by decide) (by decide)) ?_
  refine Z.iload_n B dX12_says_28 (x := nI s) rfl ?_
  refine Z.iald (σ := σ) B dX12_says_29 (n := 8) (hl.n (k := 54) (by decide)) (hl.k (k := 54) (by decide)) (hl.l (k := 54) (by decide)) (by decide) (j := s) rfl (by omega) (v := nI 2) hh.1 ?_
  refine Z.iconst B dX12_says_30 (v := nI 1) rfl ?_
  refine Z.icmp_neN B dX12_says_31 (tgt := 41) rfl (by omega) (by omega) (fun h31 => ?_) (fun h31 => by exfalso; first | omega | contradiction | simp_all)
  refine Z.aload_n B dX12_says_41 (v := .ref 45) rfl rfl ?_
  refine Z.getR (σ := σ) B fX12_41_12 dX12_says_42 (hl.n (k := 45) (by decide)) (hl.k (k := 45) (by decide)) (by decide) (j := 54) (hl.r (k := 45) (f := 13) (by decide) (by decide)) ?_
  refine Z.iload_n B dX12_says_45 (x := nI s) rfl ?_
  refine Z.iald (σ := σ) B dX12_says_46 (n := 8) (hl.n (k := 54) (by decide)) (hl.k (k := 54) (by decide)) (hl.l (k := 54) (by decide)) (by decide) (j := s) rfl (by omega) (v := nI 2) hh.1 ?_
  refine Z.if_neN B dX12_says_47 (tgt := 57) rfl (by omega) (fun h47 => ?_) (fun h47 => by exfalso; first | omega | contradiction | simp_all)
  refine Z.aload_n B dX12_says_57 (v := .ref 45) rfl rfl ?_
  refine Z.getR (σ := σ) B fX12_50_12 dX12_says_58 (hl.n (k := 45) (by decide)) (hl.k (k := 45) (by decide)) (by decide) (j := 57) (hl.r (k := 45) (f := 16) (by decide) (by decide)) ?_
  refine Z.iload_n B dX12_says_61 (x := nI s) rfl ?_
  refine Z.iald (σ := σ) B dX12_says_62 (n := 8) (hl.n (k := 57) (by decide)) (hl.k (k := 57) (by decide)) (hl.l (k := 57) (by decide)) (by decide) (j := s) rfl (by omega) (v := nI i8) hh.2.1 ?_
  refine Z.istore_n B dX12_says_63 (by decide) (L' := [(0, .ref 45), (1, .int (nI s)), (2, .int (nI 4)), (3, .int (nI i8))]) rfl ?_
  refine Z.aload_n B dX12_says_64 (v := .ref 45) rfl rfl ?_
  refine Z.getR (σ := σ) B fX12_35_12 dX12_says_65 (hl.n (k := 45) (by decide)) (hl.k (k := 45) (by decide)) (by decide) (j := 52) (hl.r (k := 45) (f := 11) (by decide) (by decide)) ?_
  refine Z.iload_n B dX12_says_68 (x := nI i8) rfl ?_
  refine Z.iald (σ := σ) B dX12_says_69 (n := 8) (hl.n (k := 52) (by decide)) (hl.k (k := 52) (by decide)) (hl.l (k := 52) (by decide)) (by decide) (j := i8) rfl (by omega) (v := nI 4) hw.1 ?_
  refine Z.istore B dX12_says_70 (by decide) (L' := [(0, .ref 45), (1, .int (nI s)), (2, .int (nI 4)), (3, .int (nI i8)), (4, .int (nI 4))]) rfl ?_
  refine Z.iload_n B dX12_says_72 (x := nI 4) rfl ?_
  refine Z.if_eqN B dX12_says_73 (tgt := 112) rfl (by omega) (fun h73 => by exfalso; first | omega | contradiction | simp_all) (fun h73 => ?_)
  refine Z.iload_n B dX12_says_76 (x := nI 4) rfl ?_
  refine Z.iload B dX12_says_77 (x := nI 4) rfl ?_
  refine Z.icmp_eqN B dX12_says_79 (tgt := 112) rfl (by omega) (by omega) (fun h79 => ?_) (fun h79 => by exfalso; first | omega | contradiction | simp_all)
  refine Z.iload_n B dX12_says_112 (x := nI 4) rfl ?_
  refine Z.tabIn B dX12_says_113 (by decide) (by decide) (off := 59) (by decide) (tgt := 172) rfl ?_
  refine Z.iconst B dX12_says_172 (v := nI 0) rfl ?_
  refine Z.istore B dX12_says_173 (by decide) (L' := [(0, .ref 45), (1, .int (nI s)), (2, .int (nI 4)), (3, .int (nI i8)), (4, .int (nI 4)), (5, .int (nI 0))]) rfl ?_
  refine Z.iconst B dX12_says_175 (v := nI 0) rfl ?_
  refine Z.istore B dX12_says_176 (by decide) (L' := [(0, .ref 45), (1, .int (nI s)), (2, .int (nI 4)), (3, .int (nI i8)), (4, .int (nI 4)), (5, .int (nI 0)), (6, .int (nI 0))]) rfl ?_
  have hloop178 : ∀ c : Nat, c ≤ n → Z κ 0 0 σ 178 [(0, .ref 45), (1, .int (nI s)), (2, .int (nI 4)), (3, .int (nI i8)), (4, .int (nI 4)), (5, .int (ct (fun c => decide (cn (zX σ 47) c 6 < nI pa)) c)), (6, .int (nI c))] [] := by
    refine z_loop (fun c => n - c) (fun c ih hc => ?_)
    refine Z.iload B dX12_says_178 (x := nI c) rfl ?_
    refine Z.aload_n B dX12_says_180 (v := .ref 45) rfl rfl ?_
    refine Z.getI (σ := σ) B fX12_81_12 dX12_says_181 (hl.n (k := 45) (by decide)) (hl.k (k := 45) (by decide)) (by decide) (v := nI n) hn ?_
    refine Z.icmp_geN B dX12_says_184 (tgt := 211) rfl (by omega) (by omega) (fun h184 => ?_) (fun h184 => ?_)
    · skip
      obtain rfl : n = c := by omega
      refine Z.iload B dX12_says_211 (x := ct (fun n => decide (cn (zX σ 47) n 6 < nI pa)) n) rfl ?_
      refine Z.iret B Rt dX12_says_213 (ty := .int) rfl rfl (by decide) (by decide) ?_
      exact ⟨rfl, rfl⟩
    · skip
      refine Z.aload_n B dX12_says_187 (v := .ref 45) rfl rfl ?_
      refine Z.iload B dX12_says_188 (x := nI c) rfl ?_
      refine Z.callVI (σ := σ) B (M' := mX12_sumOf) (as := [.int (nI c)]) (st := []) (v := .int (cn (zX σ 47) c 6)) dX12_says_190 wX12_sumOf iX12_sumOf sX12_sumOf kX12_101 (hl.n (k := 45) (by decide)) (hl.k (k := 45) (by decide)) (by decide) rfl rfl (t_X12_sumOf (σ := σ) H (c := c) (by omega)) rfl rfl (by decide) (by decide) (Nat.le_of_ble_eq_true rfl) (by decide) (by decide) ?_
      refine Z.aload_n B dX12_says_193 (v := .ref 45) rfl rfl ?_
      refine Z.getR (σ := σ) B fX12_38_12 dX12_says_194 (hl.n (k := 45) (by decide)) (hl.k (k := 45) (by decide)) (by decide) (j := 53) (hl.r (k := 45) (f := 12) (by decide) (by decide)) ?_
      refine Z.iload_n B dX12_says_197 (x := nI i8) rfl ?_
      refine Z.iald (σ := σ) B dX12_says_198 (n := 8) (hl.n (k := 53) (by decide)) (hl.k (k := 53) (by decide)) (hl.l (k := 53) (by decide)) (by decide) (j := i8) rfl (by omega) (v := nI pa) hw.2.1 ?_
      refine Z.icmp_ge B dX12_says_199 (tgt := 205) rfl (fun h199 => ?_) (fun h199 => ?_)
      · skip
        have h199 : ¬ cn (zX σ 47) c 6 < nI pa := by rw [zlt_iff]; rw [zle_iff] at h199; omega
        refine Z.iincN B dX12_says_205 (by decide) (a := c) rfl (L' := [(0, .ref 45), (1, .int (nI s)), (2, .int (nI 4)), (3, .int (nI i8)), (4, .int (nI 4)), (5, .int (ct (fun c => decide (cn (zX σ 47) c 6 < nI pa)) c)), (6, .int (nI (c + 1)))]) rfl ?_
        refine Z.goto B dX12_says_208 (tgt := 178) rfl ?_
        have e := ih (c + 1) (by omega) (by omega)
        simp only [ct] at e
        first | (rw [decide_eq_true h199] at e; exact e) | (rw [decide_eq_false h199] at e; simp only [cond_false] at e; rw [zad0] at e; exact e)
      · skip
        have h199 : cn (zX σ 47) c 6 < nI pa := by rw [zlt_iff]; rw [zle_iff] at h199; omega
        refine Z.iinc B dX12_says_202 (by decide) (x := ct (fun c => decide (cn (zX σ 47) c 6 < nI pa)) c) rfl (v := (ct (fun c => decide (cn (zX σ 47) c 6 < nI pa)) c + nI 1)) rfl (L' := [(0, .ref 45), (1, .int (nI s)), (2, .int (nI 4)), (3, .int (nI i8)), (4, .int (nI 4)), (5, .int (ct (fun c => decide (cn (zX σ 47) c 6 < nI pa)) c + nI 1)), (6, .int (nI c))]) rfl ?_
        refine Z.iincN B dX12_says_205 (by decide) (a := c) rfl (L' := [(0, .ref 45), (1, .int (nI s)), (2, .int (nI 4)), (3, .int (nI i8)), (4, .int (nI 4)), (5, .int (ct (fun c => decide (cn (zX σ 47) c 6 < nI pa)) c + nI 1)), (6, .int (nI (c + 1)))]) rfl ?_
        refine Z.goto B dX12_says_208 (tgt := 178) rfl ?_
        have e := ih (c + 1) (by omega) (by omega)
        simp only [ct] at e
        first | (rw [decide_eq_true h199] at e; exact e) | (rw [decide_eq_false h199] at e; simp only [cond_false] at e; rw [zad0] at e; exact e)
  exact hloop178 0 (Nat.zero_le _)

theorem t_M_says_0_4_5 {σ : zSt} (hl : Lay σ) {n a y : Nat} (H : zMd σ n a y) {od : Nat → Nat} (ho : zMo σ a od) {pos : Nat → Nat} (hpo : zPo a od pos) {s : Nat} (hs : s < 8) {i8 : Nat} (hh : zMa σ s i8) {pa : Nat} (hi : i8 < y) (hw : zMy σ i8 4 pa) (hg : zX σ 45 28 = (-1))  : Dt mX12_says [.ref 45, .int (nI s), .int (nI 5)] σ (some (.int (-2))) (zuX σ 46 (upd (zX σ 46) 2 (zX σ 46 2 + nI 1))) := by
  obtain ⟨-, hn, hn8, ha, ha4, hy, hy8⟩ := id H
  have hi88 := hh.2.2
  have hpa := hw.2.2.2.1
  refine Dt.of (by decide) (Nat.le_of_ble_eq_true rfl) fun κ B Rt => ?_
  show Z κ 0 0 σ 0 [(0, .ref 45), (1, .int (nI s)), (2, .int (nI 5))] []
  refine Z.aload_n B dX12_says_0 (v := .ref 45) rfl rfl ?_
  refine Z.iload_n B dX12_says_1 (x := nI s) rfl ?_
  refine Z.callVI (σ := σ) B (M' := mX12_isShelf) (as := [.int (nI s)]) (st := []) (v := .int (nI 1)) dX12_says_2 wX12_isShelf iX12_isShelf sX12_isShelf kX12_90 (hl.n (k := 45) (by decide)) (hl.k (k := 45) (by decide)) (by decide) rfl rfl (t_X12_isShelf_in (σ := σ) hs) rfl rfl (by decide) (by decide) (Nat.le_of_ble_eq_true rfl) (by decide) (by decide) ?_
  refine Z.if_eqN B dX12_says_5 (tgt := 18) rfl (by omega) (fun h5 => by exfalso; first | omega | contradiction | simp_all) (fun h5 => ?_)
  refine Z.iload_n B dX12_says_8 (x := nI 5) rfl ?_
  refine Z.if_ltN B dX12_says_9 (tgt := 18) rfl (by omega) ?_
  refine Z.iload_n B dX12_says_12 (x := nI 5) rfl ?_
  refine Z.bipush B dX12_says_13 (v := nI 6) rfl ?_
  refine Z.icmp_leN B dX12_says_15 (tgt := 24) rfl (by omega) (by omega) (fun h15 => ?_) (fun h15 => by exfalso; first | omega | contradiction | simp_all)
  refine Z.aload_n B dX12_says_24 (v := .ref 45) rfl rfl ?_
  refine Z.getR (σ := σ) B fX12_41_12 dX12_says_25 (hl.n (k := 45) (by decide)) (hl.k (k := 45) (by decide)) (by decide) (j := 54) (hl.r (k := 45) (f := 13) (by decide) (by decide)) ?_
  refine Z.iload_n B dX12_says_28 (x := nI s) rfl ?_
  refine Z.iald (σ := σ) B dX12_says_29 (n := 8) (hl.n (k := 54) (by decide)) (hl.k (k := 54) (by decide)) (hl.l (k := 54) (by decide)) (by decide) (j := s) rfl (by omega) (v := nI 2) hh.1 ?_
  refine Z.iconst B dX12_says_30 (v := nI 1) rfl ?_
  refine Z.icmp_neN B dX12_says_31 (tgt := 41) rfl (by omega) (by omega) (fun h31 => ?_) (fun h31 => by exfalso; first | omega | contradiction | simp_all)
  refine Z.aload_n B dX12_says_41 (v := .ref 45) rfl rfl ?_
  refine Z.getR (σ := σ) B fX12_41_12 dX12_says_42 (hl.n (k := 45) (by decide)) (hl.k (k := 45) (by decide)) (by decide) (j := 54) (hl.r (k := 45) (f := 13) (by decide) (by decide)) ?_
  refine Z.iload_n B dX12_says_45 (x := nI s) rfl ?_
  refine Z.iald (σ := σ) B dX12_says_46 (n := 8) (hl.n (k := 54) (by decide)) (hl.k (k := 54) (by decide)) (hl.l (k := 54) (by decide)) (by decide) (j := s) rfl (by omega) (v := nI 2) hh.1 ?_
  refine Z.if_neN B dX12_says_47 (tgt := 57) rfl (by omega) (fun h47 => ?_) (fun h47 => by exfalso; first | omega | contradiction | simp_all)
  refine Z.aload_n B dX12_says_57 (v := .ref 45) rfl rfl ?_
  refine Z.getR (σ := σ) B fX12_50_12 dX12_says_58 (hl.n (k := 45) (by decide)) (hl.k (k := 45) (by decide)) (by decide) (j := 57) (hl.r (k := 45) (f := 16) (by decide) (by decide)) ?_
  refine Z.iload_n B dX12_says_61 (x := nI s) rfl ?_
  refine Z.iald (σ := σ) B dX12_says_62 (n := 8) (hl.n (k := 57) (by decide)) (hl.k (k := 57) (by decide)) (hl.l (k := 57) (by decide)) (by decide) (j := s) rfl (by omega) (v := nI i8) hh.2.1 ?_
  refine Z.istore_n B dX12_says_63 (by decide) (L' := [(0, .ref 45), (1, .int (nI s)), (2, .int (nI 5)), (3, .int (nI i8))]) rfl ?_
  refine Z.aload_n B dX12_says_64 (v := .ref 45) rfl rfl ?_
  refine Z.getR (σ := σ) B fX12_35_12 dX12_says_65 (hl.n (k := 45) (by decide)) (hl.k (k := 45) (by decide)) (by decide) (j := 52) (hl.r (k := 45) (f := 11) (by decide) (by decide)) ?_
  refine Z.iload_n B dX12_says_68 (x := nI i8) rfl ?_
  refine Z.iald (σ := σ) B dX12_says_69 (n := 8) (hl.n (k := 52) (by decide)) (hl.k (k := 52) (by decide)) (hl.l (k := 52) (by decide)) (by decide) (j := i8) rfl (by omega) (v := nI 4) hw.1 ?_
  refine Z.istore B dX12_says_70 (by decide) (L' := [(0, .ref 45), (1, .int (nI s)), (2, .int (nI 5)), (3, .int (nI i8)), (4, .int (nI 4))]) rfl ?_
  refine Z.iload_n B dX12_says_72 (x := nI 5) rfl ?_
  refine Z.if_eqN B dX12_says_73 (tgt := 112) rfl (by omega) (fun h73 => by exfalso; first | omega | contradiction | simp_all) (fun h73 => ?_)
  refine Z.iload_n B dX12_says_76 (x := nI 5) rfl ?_
  refine Z.iload B dX12_says_77 (x := nI 4) rfl ?_
  refine Z.icmp_eqN B dX12_says_79 (tgt := 112) rfl (by omega) (by omega) (fun h79 => by exfalso; first | omega | contradiction | simp_all) (fun h79 => ?_)
  refine Z.iload_n B dX12_says_82 (x := nI 5) rfl ?_
  refine Z.iconst B dX12_says_83 (v := nI 1) rfl ?_
  refine Z.icmp_neN B dX12_says_84 (tgt := 93) rfl (by omega) (by omega) (fun h84 => ?_) (fun h84 => by exfalso; first | omega | contradiction | simp_all)
  refine Z.iload_n B dX12_says_93 (x := nI 5) rfl ?_
  refine Z.iconst B dX12_says_94 (v := nI 5) rfl ?_
  refine Z.icmp_neN B dX12_says_95 (tgt := 105) rfl (by omega) (by omega) (fun h95 => by exfalso; first | omega | contradiction | simp_all) (fun h95 => ?_)
  refine Z.iload B dX12_says_98 (x := nI 4) rfl ?_
  refine Z.bipush B dX12_says_100 (v := nI 6) rfl ?_
  refine Z.icmp_eqN B dX12_says_102 (tgt := 112) rfl (by omega) (by omega) (fun h102 => by exfalso; first | omega | contradiction | simp_all) (fun h102 => ?_)
  refine Z.aload_n B dX12_says_105 (v := .ref 45) rfl rfl ?_
  refine Z.bipush B dX12_says_106 (v := (-2)) rfl ?_
  refine Z.callVI (σ := σ) B (M' := mX12_no) (as := [.int (-2)]) (st := []) (v := .int (-2)) dX12_says_108 wX12_no iX12_no sX12_no kX12_94 (hl.n (k := 45) (by decide)) (hl.k (k := 45) (by decide)) (by decide) rfl rfl (t_X12_no_2 (σ := σ) hl) rfl rfl (by decide) (by decide) (Nat.le_of_ble_eq_true rfl) (by decide) (by decide) ?_
  refine Z.eqσ (τ := (zuX σ 46 (upd (zX σ 46) 2 (zX σ 46 2 + nI 1)))) rfl ?_
  refine Z.iret B Rt dX12_says_111 (ty := .int) rfl rfl (by decide) (by decide) ?_
  exact ⟨rfl, rfl⟩

theorem t_M_says_0_4_6 {σ : zSt} (hl : Lay σ) {n a y : Nat} (H : zMd σ n a y) {od : Nat → Nat} (ho : zMo σ a od) {pos : Nat → Nat} (hpo : zPo a od pos) {s : Nat} (hs : s < 8) {i8 : Nat} (hh : zMa σ s i8) {pa : Nat} (hi : i8 < y) (hw : zMy σ i8 4 pa) (hg : zX σ 45 28 = (-1))  : Dt mX12_says [.ref 45, .int (nI s), .int (nI 6)] σ (some (.int (-2))) (zuX σ 46 (upd (zX σ 46) 2 (zX σ 46 2 + nI 1))) := by
  obtain ⟨-, hn, hn8, ha, ha4, hy, hy8⟩ := id H
  have hi88 := hh.2.2
  have hpa := hw.2.2.2.1
  refine Dt.of (by decide) (Nat.le_of_ble_eq_true rfl) fun κ B Rt => ?_
  show Z κ 0 0 σ 0 [(0, .ref 45), (1, .int (nI s)), (2, .int (nI 6))] []
  refine Z.aload_n B dX12_says_0 (v := .ref 45) rfl rfl ?_
  refine Z.iload_n B dX12_says_1 (x := nI s) rfl ?_
  refine Z.callVI (σ := σ) B (M' := mX12_isShelf) (as := [.int (nI s)]) (st := []) (v := .int (nI 1)) dX12_says_2 wX12_isShelf iX12_isShelf sX12_isShelf kX12_90 (hl.n (k := 45) (by decide)) (hl.k (k := 45) (by decide)) (by decide) rfl rfl (t_X12_isShelf_in (σ := σ) hs) rfl rfl (by decide) (by decide) (Nat.le_of_ble_eq_true rfl) (by decide) (by decide) ?_
  refine Z.if_eqN B dX12_says_5 (tgt := 18) rfl (by omega) (fun h5 => by exfalso; first | omega | contradiction | simp_all) (fun h5 => ?_)
  refine Z.iload_n B dX12_says_8 (x := nI 6) rfl ?_
  refine Z.if_ltN B dX12_says_9 (tgt := 18) rfl (by omega) ?_
  refine Z.iload_n B dX12_says_12 (x := nI 6) rfl ?_
  refine Z.bipush B dX12_says_13 (v := nI 6) rfl ?_
  refine Z.icmp_leN B dX12_says_15 (tgt := 24) rfl (by omega) (by omega) (fun h15 => ?_) (fun h15 => by exfalso; first | omega | contradiction | simp_all)
  refine Z.aload_n B dX12_says_24 (v := .ref 45) rfl rfl ?_
  refine Z.getR (σ := σ) B fX12_41_12 dX12_says_25 (hl.n (k := 45) (by decide)) (hl.k (k := 45) (by decide)) (by decide) (j := 54) (hl.r (k := 45) (f := 13) (by decide) (by decide)) ?_
  refine Z.iload_n B dX12_says_28 (x := nI s) rfl ?_
  refine Z.iald (σ := σ) B dX12_says_29 (n := 8) (hl.n (k := 54) (by decide)) (hl.k (k := 54) (by decide)) (hl.l (k := 54) (by decide)) (by decide) (j := s) rfl (by omega) (v := nI 2) hh.1 ?_
  refine Z.iconst B dX12_says_30 (v := nI 1) rfl ?_
  refine Z.icmp_neN B dX12_says_31 (tgt := 41) rfl (by omega) (by omega) (fun h31 => ?_) (fun h31 => by exfalso; first | omega | contradiction | simp_all)
  refine Z.aload_n B dX12_says_41 (v := .ref 45) rfl rfl ?_
  refine Z.getR (σ := σ) B fX12_41_12 dX12_says_42 (hl.n (k := 45) (by decide)) (hl.k (k := 45) (by decide)) (by decide) (j := 54) (hl.r (k := 45) (f := 13) (by decide) (by decide)) ?_
  refine Z.iload_n B dX12_says_45 (x := nI s) rfl ?_
  refine Z.iald (σ := σ) B dX12_says_46 (n := 8) (hl.n (k := 54) (by decide)) (hl.k (k := 54) (by decide)) (hl.l (k := 54) (by decide)) (by decide) (j := s) rfl (by omega) (v := nI 2) hh.1 ?_
  refine Z.if_neN B dX12_says_47 (tgt := 57) rfl (by omega) (fun h47 => ?_) (fun h47 => by exfalso; first | omega | contradiction | simp_all)
  refine Z.aload_n B dX12_says_57 (v := .ref 45) rfl rfl ?_
  refine Z.getR (σ := σ) B fX12_50_12 dX12_says_58 (hl.n (k := 45) (by decide)) (hl.k (k := 45) (by decide)) (by decide) (j := 57) (hl.r (k := 45) (f := 16) (by decide) (by decide)) ?_
  refine Z.iload_n B dX12_says_61 (x := nI s) rfl ?_
  refine Z.iald (σ := σ) B dX12_says_62 (n := 8) (hl.n (k := 57) (by decide)) (hl.k (k := 57) (by decide)) (hl.l (k := 57) (by decide)) (by decide) (j := s) rfl (by omega) (v := nI i8) hh.2.1 ?_
  refine Z.istore_n B dX12_says_63 (by decide) (L' := [(0, .ref 45), (1, .int (nI s)), (2, .int (nI 6)), (3, .int (nI i8))]) rfl ?_
  refine Z.aload_n B dX12_says_64 (v := .ref 45) rfl rfl ?_
  refine Z.getR (σ := σ) B fX12_35_12 dX12_says_65 (hl.n (k := 45) (by decide)) (hl.k (k := 45) (by decide)) (by decide) (j := 52) (hl.r (k := 45) (f := 11) (by decide) (by decide)) ?_
  refine Z.iload_n B dX12_says_68 (x := nI i8) rfl ?_
  refine Z.iald (σ := σ) B dX12_says_69 (n := 8) (hl.n (k := 52) (by decide)) (hl.k (k := 52) (by decide)) (hl.l (k := 52) (by decide)) (by decide) (j := i8) rfl (by omega) (v := nI 4) hw.1 ?_
  refine Z.istore B dX12_says_70 (by decide) (L' := [(0, .ref 45), (1, .int (nI s)), (2, .int (nI 6)), (3, .int (nI i8)), (4, .int (nI 4))]) rfl ?_
  refine Z.iload_n B dX12_says_72 (x := nI 6) rfl ?_
  refine Z.if_eqN B dX12_says_73 (tgt := 112) rfl (by omega) (fun h73 => by exfalso; first | omega | contradiction | simp_all) (fun h73 => ?_)
  refine Z.iload_n B dX12_says_76 (x := nI 6) rfl ?_
  refine Z.iload B dX12_says_77 (x := nI 4) rfl ?_
  refine Z.icmp_eqN B dX12_says_79 (tgt := 112) rfl (by omega) (by omega) (fun h79 => by exfalso; first | omega | contradiction | simp_all) (fun h79 => ?_)
  refine Z.iload_n B dX12_says_82 (x := nI 6) rfl ?_
  refine Z.iconst B dX12_says_83 (v := nI 1) rfl ?_
  refine Z.icmp_neN B dX12_says_84 (tgt := 93) rfl (by omega) (by omega) (fun h84 => ?_) (fun h84 => by exfalso; first | omega | contradiction | simp_all)
  refine Z.iload_n B dX12_says_93 (x := nI 6) rfl ?_
  refine Z.iconst B dX12_says_94 (v := nI 5) rfl ?_
  refine Z.icmp_neN B dX12_says_95 (tgt := 105) rfl (by omega) (by omega) (fun h95 => ?_) (fun h95 => by exfalso; first | omega | contradiction | simp_all)
  refine Z.aload_n B dX12_says_105 (v := .ref 45) rfl rfl ?_
  refine Z.bipush B dX12_says_106 (v := (-2)) rfl ?_
  refine Z.callVI (σ := σ) B (M' := mX12_no) (as := [.int (-2)]) (st := []) (v := .int (-2)) dX12_says_108 wX12_no iX12_no sX12_no kX12_94 (hl.n (k := 45) (by decide)) (hl.k (k := 45) (by decide)) (by decide) rfl rfl (t_X12_no_2 (σ := σ) hl) rfl rfl (by decide) (by decide) (Nat.le_of_ble_eq_true rfl) (by decide) (by decide) ?_
  refine Z.eqσ (τ := (zuX σ 46 (upd (zX σ 46) 2 (zX σ 46 2 + nI 1)))) rfl ?_
  refine Z.iret B Rt dX12_says_111 (ty := .int) rfl rfl (by decide) (by decide) ?_
  exact ⟨rfl, rfl⟩

theorem t_M_says_0_5_0 {σ : zSt} (hl : Lay σ) {n a y : Nat} (H : zMd σ n a y) {od : Nat → Nat} (ho : zMo σ a od) {pos : Nat → Nat} (hpo : zPo a od pos) {s : Nat} (hs : s < 8) {i8 : Nat} (hh : zMa σ s i8) {pa : Nat} (hi : i8 < y) (hw : zMy σ i8 5 pa) (hg : zX σ 45 28 = (-1))  : Dt mX12_says [.ref 45, .int (nI s), .int (nI 0)] σ (some (.int (nI pa))) σ := by
  obtain ⟨-, hn, hn8, ha, ha4, hy, hy8⟩ := id H
  have hi88 := hh.2.2
  have hpa := hw.2.2.2.1
  refine Dt.of (by decide) (Nat.le_of_ble_eq_true rfl) fun κ B Rt => ?_
  show Z κ 0 0 σ 0 [(0, .ref 45), (1, .int (nI s)), (2, .int (nI 0))] []
  refine Z.aload_n B dX12_says_0 (v := .ref 45) rfl rfl ?_
  refine Z.iload_n B dX12_says_1 (x := nI s) rfl ?_
  refine Z.callVI (σ := σ) B (M' := mX12_isShelf) (as := [.int (nI s)]) (st := []) (v := .int (nI 1)) dX12_says_2 wX12_isShelf iX12_isShelf sX12_isShelf kX12_90 (hl.n (k := 45) (by decide)) (hl.k (k := 45) (by decide)) (by decide) rfl rfl (t_X12_isShelf_in (σ := σ) hs) rfl rfl (by decide) (by decide) (Nat.le_of_ble_eq_true rfl) (by decide) (by decide) ?_
  refine Z.if_eqN B dX12_says_5 (tgt := 18) rfl (by omega) (fun h5 => by exfalso; first | omega | contradiction | simp_all) (fun h5 => ?_)
  refine Z.iload_n B dX12_says_8 (x := nI 0) rfl ?_
  refine Z.if_ltN B dX12_says_9 (tgt := 18) rfl (by omega) ?_
  refine Z.iload_n B dX12_says_12 (x := nI 0) rfl ?_
  refine Z.bipush B dX12_says_13 (v := nI 6) rfl ?_
  refine Z.icmp_leN B dX12_says_15 (tgt := 24) rfl (by omega) (by omega) (fun h15 => ?_) (fun h15 => by exfalso; first | omega | contradiction | simp_all)
  refine Z.aload_n B dX12_says_24 (v := .ref 45) rfl rfl ?_
  refine Z.getR (σ := σ) B fX12_41_12 dX12_says_25 (hl.n (k := 45) (by decide)) (hl.k (k := 45) (by decide)) (by decide) (j := 54) (hl.r (k := 45) (f := 13) (by decide) (by decide)) ?_
  refine Z.iload_n B dX12_says_28 (x := nI s) rfl ?_
  refine Z.iald (σ := σ) B dX12_says_29 (n := 8) (hl.n (k := 54) (by decide)) (hl.k (k := 54) (by decide)) (hl.l (k := 54) (by decide)) (by decide) (j := s) rfl (by omega) (v := nI 2) hh.1 ?_
  refine Z.iconst B dX12_says_30 (v := nI 1) rfl ?_
  refine Z.icmp_neN B dX12_says_31 (tgt := 41) rfl (by omega) (by omega) (fun h31 => ?_) (fun h31 => by exfalso; first | omega | contradiction | simp_all)
  refine Z.aload_n B dX12_says_41 (v := .ref 45) rfl rfl ?_
  refine Z.getR (σ := σ) B fX12_41_12 dX12_says_42 (hl.n (k := 45) (by decide)) (hl.k (k := 45) (by decide)) (by decide) (j := 54) (hl.r (k := 45) (f := 13) (by decide) (by decide)) ?_
  refine Z.iload_n B dX12_says_45 (x := nI s) rfl ?_
  refine Z.iald (σ := σ) B dX12_says_46 (n := 8) (hl.n (k := 54) (by decide)) (hl.k (k := 54) (by decide)) (hl.l (k := 54) (by decide)) (by decide) (j := s) rfl (by omega) (v := nI 2) hh.1 ?_
  refine Z.if_neN B dX12_says_47 (tgt := 57) rfl (by omega) (fun h47 => ?_) (fun h47 => by exfalso; first | omega | contradiction | simp_all)
  refine Z.aload_n B dX12_says_57 (v := .ref 45) rfl rfl ?_
  refine Z.getR (σ := σ) B fX12_50_12 dX12_says_58 (hl.n (k := 45) (by decide)) (hl.k (k := 45) (by decide)) (by decide) (j := 57) (hl.r (k := 45) (f := 16) (by decide) (by decide)) ?_
  refine Z.iload_n B dX12_says_61 (x := nI s) rfl ?_
  refine Z.iald (σ := σ) B dX12_says_62 (n := 8) (hl.n (k := 57) (by decide)) (hl.k (k := 57) (by decide)) (hl.l (k := 57) (by decide)) (by decide) (j := s) rfl (by omega) (v := nI i8) hh.2.1 ?_
  refine Z.istore_n B dX12_says_63 (by decide) (L' := [(0, .ref 45), (1, .int (nI s)), (2, .int (nI 0)), (3, .int (nI i8))]) rfl ?_
  refine Z.aload_n B dX12_says_64 (v := .ref 45) rfl rfl ?_
  refine Z.getR (σ := σ) B fX12_35_12 dX12_says_65 (hl.n (k := 45) (by decide)) (hl.k (k := 45) (by decide)) (by decide) (j := 52) (hl.r (k := 45) (f := 11) (by decide) (by decide)) ?_
  refine Z.iload_n B dX12_says_68 (x := nI i8) rfl ?_
  refine Z.iald (σ := σ) B dX12_says_69 (n := 8) (hl.n (k := 52) (by decide)) (hl.k (k := 52) (by decide)) (hl.l (k := 52) (by decide)) (by decide) (j := i8) rfl (by omega) (v := nI 5) hw.1 ?_
  refine Z.istore B dX12_says_70 (by decide) (L' := [(0, .ref 45), (1, .int (nI s)), (2, .int (nI 0)), (3, .int (nI i8)), (4, .int (nI 5))]) rfl ?_
  refine Z.iload_n B dX12_says_72 (x := nI 0) rfl ?_
  refine Z.if_eqN B dX12_says_73 (tgt := 112) rfl (by omega) (fun h73 => ?_) (fun h73 => by exfalso; first | omega | contradiction | simp_all)
  refine Z.iload_n B dX12_says_112 (x := nI 0) rfl ?_
  refine Z.tabIn B dX12_says_113 (by decide) (by decide) (off := 43) (by decide) (tgt := 156) rfl ?_
  refine Z.aload_n B dX12_says_156 (v := .ref 45) rfl rfl ?_
  refine Z.getR (σ := σ) B fX12_38_12 dX12_says_157 (hl.n (k := 45) (by decide)) (hl.k (k := 45) (by decide)) (by decide) (j := 53) (hl.r (k := 45) (f := 12) (by decide) (by decide)) ?_
  refine Z.iload_n B dX12_says_160 (x := nI i8) rfl ?_
  refine Z.iald (σ := σ) B dX12_says_161 (n := 8) (hl.n (k := 53) (by decide)) (hl.k (k := 53) (by decide)) (hl.l (k := 53) (by decide)) (by decide) (j := i8) rfl (by omega) (v := nI pa) hw.2.1 ?_
  refine Z.iret B Rt dX12_says_162 (ty := .int) rfl rfl (by decide) (by decide) ?_
  exact ⟨rfl, rfl⟩

theorem t_M_says_0_5_1 {σ : zSt} (hl : Lay σ) {n a y : Nat} (H : zMd σ n a y) {od : Nat → Nat} (ho : zMo σ a od) {pos : Nat → Nat} (hpo : zPo a od pos) {s : Nat} (hs : s < 8) {i8 : Nat} (hh : zMa σ s i8) {pa : Nat} (hi : i8 < y) (hw : zMy σ i8 5 pa) (hg : zX σ 45 28 = (-1))  : Dt mX12_says [.ref 45, .int (nI s), .int (nI 1)] σ (some (.int (-2))) (zuX σ 46 (upd (zX σ 46) 2 (zX σ 46 2 + nI 1))) := by
  obtain ⟨-, hn, hn8, ha, ha4, hy, hy8⟩ := id H
  have hi88 := hh.2.2
  have hpa := hw.2.2.2.1
  refine Dt.of (by decide) (Nat.le_of_ble_eq_true rfl) fun κ B Rt => ?_
  show Z κ 0 0 σ 0 [(0, .ref 45), (1, .int (nI s)), (2, .int (nI 1))] []
  refine Z.aload_n B dX12_says_0 (v := .ref 45) rfl rfl ?_
  refine Z.iload_n B dX12_says_1 (x := nI s) rfl ?_
  refine Z.callVI (σ := σ) B (M' := mX12_isShelf) (as := [.int (nI s)]) (st := []) (v := .int (nI 1)) dX12_says_2 wX12_isShelf iX12_isShelf sX12_isShelf kX12_90 (hl.n (k := 45) (by decide)) (hl.k (k := 45) (by decide)) (by decide) rfl rfl (t_X12_isShelf_in (σ := σ) hs) rfl rfl (by decide) (by decide) (Nat.le_of_ble_eq_true rfl) (by decide) (by decide) ?_
  refine Z.if_eqN B dX12_says_5 (tgt := 18) rfl (by omega) (fun h5 => by exfalso; first | omega | contradiction | simp_all) (fun h5 => ?_)
  refine Z.iload_n B dX12_says_8 (x := nI 1) rfl ?_
  refine Z.if_ltN B dX12_says_9 (tgt := 18) rfl (by omega) ?_
  refine Z.iload_n B dX12_says_12 (x := nI 1) rfl ?_
  refine Z.bipush B dX12_says_13 (v := nI 6) rfl ?_
  refine Z.icmp_leN B dX12_says_15 (tgt := 24) rfl (by omega) (by omega) (fun h15 => ?_) (fun h15 => by exfalso; first | omega | contradiction | simp_all)
  refine Z.aload_n B dX12_says_24 (v := .ref 45) rfl rfl ?_
  refine Z.getR (σ := σ) B fX12_41_12 dX12_says_25 (hl.n (k := 45) (by decide)) (hl.k (k := 45) (by decide)) (by decide) (j := 54) (hl.r (k := 45) (f := 13) (by decide) (by decide)) ?_
  refine Z.iload_n B dX12_says_28 (x := nI s) rfl ?_
  refine Z.iald (σ := σ) B dX12_says_29 (n := 8) (hl.n (k := 54) (by decide)) (hl.k (k := 54) (by decide)) (hl.l (k := 54) (by decide)) (by decide) (j := s) rfl (by omega) (v := nI 2) hh.1 ?_
  refine Z.iconst B dX12_says_30 (v := nI 1) rfl ?_
  refine Z.icmp_neN B dX12_says_31 (tgt := 41) rfl (by omega) (by omega) (fun h31 => ?_) (fun h31 => by exfalso; first | omega | contradiction | simp_all)
  refine Z.aload_n B dX12_says_41 (v := .ref 45) rfl rfl ?_
  refine Z.getR (σ := σ) B fX12_41_12 dX12_says_42 (hl.n (k := 45) (by decide)) (hl.k (k := 45) (by decide)) (by decide) (j := 54) (hl.r (k := 45) (f := 13) (by decide) (by decide)) ?_
  refine Z.iload_n B dX12_says_45 (x := nI s) rfl ?_
  refine Z.iald (σ := σ) B dX12_says_46 (n := 8) (hl.n (k := 54) (by decide)) (hl.k (k := 54) (by decide)) (hl.l (k := 54) (by decide)) (by decide) (j := s) rfl (by omega) (v := nI 2) hh.1 ?_
  refine Z.if_neN B dX12_says_47 (tgt := 57) rfl (by omega) (fun h47 => ?_) (fun h47 => by exfalso; first | omega | contradiction | simp_all)
  refine Z.aload_n B dX12_says_57 (v := .ref 45) rfl rfl ?_
  refine Z.getR (σ := σ) B fX12_50_12 dX12_says_58 (hl.n (k := 45) (by decide)) (hl.k (k := 45) (by decide)) (by decide) (j := 57) (hl.r (k := 45) (f := 16) (by decide) (by decide)) ?_
  refine Z.iload_n B dX12_says_61 (x := nI s) rfl ?_
  refine Z.iald (σ := σ) B dX12_says_62 (n := 8) (hl.n (k := 57) (by decide)) (hl.k (k := 57) (by decide)) (hl.l (k := 57) (by decide)) (by decide) (j := s) rfl (by omega) (v := nI i8) hh.2.1 ?_
  refine Z.istore_n B dX12_says_63 (by decide) (L' := [(0, .ref 45), (1, .int (nI s)), (2, .int (nI 1)), (3, .int (nI i8))]) rfl ?_
  refine Z.aload_n B dX12_says_64 (v := .ref 45) rfl rfl ?_
  refine Z.getR (σ := σ) B fX12_35_12 dX12_says_65 (hl.n (k := 45) (by decide)) (hl.k (k := 45) (by decide)) (by decide) (j := 52) (hl.r (k := 45) (f := 11) (by decide) (by decide)) ?_
  refine Z.iload_n B dX12_says_68 (x := nI i8) rfl ?_
  refine Z.iald (σ := σ) B dX12_says_69 (n := 8) (hl.n (k := 52) (by decide)) (hl.k (k := 52) (by decide)) (hl.l (k := 52) (by decide)) (by decide) (j := i8) rfl (by omega) (v := nI 5) hw.1 ?_
  refine Z.istore B dX12_says_70 (by decide) (L' := [(0, .ref 45), (1, .int (nI s)), (2, .int (nI 1)), (3, .int (nI i8)), (4, .int (nI 5))]) rfl ?_
  refine Z.iload_n B dX12_says_72 (x := nI 1) rfl ?_
  refine Z.if_eqN B dX12_says_73 (tgt := 112) rfl (by omega) (fun h73 => by exfalso; first | omega | contradiction | simp_all) (fun h73 => ?_)
  refine Z.iload_n B dX12_says_76 (x := nI 1) rfl ?_
  refine Z.iload B dX12_says_77 (x := nI 5) rfl ?_
  refine Z.icmp_eqN B dX12_says_79 (tgt := 112) rfl (by omega) (by omega) (fun h79 => by exfalso; first | omega | contradiction | simp_all) (fun h79 => ?_)
  refine Z.iload_n B dX12_says_82 (x := nI 1) rfl ?_
  refine Z.iconst B dX12_says_83 (v := nI 1) rfl ?_
  refine Z.icmp_neN B dX12_says_84 (tgt := 93) rfl (by omega) (by omega) (fun h84 => by exfalso; first | omega | contradiction | simp_all) (fun h84 => ?_)
  refine Z.iload B dX12_says_87 (x := nI 5) rfl ?_
  refine Z.iconst B dX12_says_89 (v := nI 2) rfl ?_
  refine Z.icmp_eqN B dX12_says_90 (tgt := 112) rfl (by omega) (by omega) (fun h90 => by exfalso; first | omega | contradiction | simp_all) (fun h90 => ?_)
  refine Z.iload_n B dX12_says_93 (x := nI 1) rfl ?_
  refine Z.iconst B dX12_says_94 (v := nI 5) rfl ?_
  refine Z.icmp_neN B dX12_says_95 (tgt := 105) rfl (by omega) (by omega) (fun h95 => ?_) (fun h95 => by exfalso; first | omega | contradiction | simp_all)
  refine Z.aload_n B dX12_says_105 (v := .ref 45) rfl rfl ?_
  refine Z.bipush B dX12_says_106 (v := (-2)) rfl ?_
  refine Z.callVI (σ := σ) B (M' := mX12_no) (as := [.int (-2)]) (st := []) (v := .int (-2)) dX12_says_108 wX12_no iX12_no sX12_no kX12_94 (hl.n (k := 45) (by decide)) (hl.k (k := 45) (by decide)) (by decide) rfl rfl (t_X12_no_2 (σ := σ) hl) rfl rfl (by decide) (by decide) (Nat.le_of_ble_eq_true rfl) (by decide) (by decide) ?_
  refine Z.eqσ (τ := (zuX σ 46 (upd (zX σ 46) 2 (zX σ 46 2 + nI 1)))) rfl ?_
  refine Z.iret B Rt dX12_says_111 (ty := .int) rfl rfl (by decide) (by decide) ?_
  exact ⟨rfl, rfl⟩

theorem t_M_says_0_5_2 {σ : zSt} (hl : Lay σ) {n a y : Nat} (H : zMd σ n a y) {od : Nat → Nat} (ho : zMo σ a od) {pos : Nat → Nat} (hpo : zPo a od pos) {s : Nat} (hs : s < 8) {i8 : Nat} (hh : zMa σ s i8) {pa : Nat} (hi : i8 < y) (hw : zMy σ i8 5 pa) (hg : zX σ 45 28 = (-1))  : Dt mX12_says [.ref 45, .int (nI s), .int (nI 2)] σ (some (.int (-2))) (zuX σ 46 (upd (zX σ 46) 2 (zX σ 46 2 + nI 1))) := by
  obtain ⟨-, hn, hn8, ha, ha4, hy, hy8⟩ := id H
  have hi88 := hh.2.2
  have hpa := hw.2.2.2.1
  refine Dt.of (by decide) (Nat.le_of_ble_eq_true rfl) fun κ B Rt => ?_
  show Z κ 0 0 σ 0 [(0, .ref 45), (1, .int (nI s)), (2, .int (nI 2))] []
  refine Z.aload_n B dX12_says_0 (v := .ref 45) rfl rfl ?_
  refine Z.iload_n B dX12_says_1 (x := nI s) rfl ?_
  refine Z.callVI (σ := σ) B (M' := mX12_isShelf) (as := [.int (nI s)]) (st := []) (v := .int (nI 1)) dX12_says_2 wX12_isShelf iX12_isShelf sX12_isShelf kX12_90 (hl.n (k := 45) (by decide)) (hl.k (k := 45) (by decide)) (by decide) rfl rfl (t_X12_isShelf_in (σ := σ) hs) rfl rfl (by decide) (by decide) (Nat.le_of_ble_eq_true rfl) (by decide) (by decide) ?_
  refine Z.if_eqN B dX12_says_5 (tgt := 18) rfl (by omega) (fun h5 => by exfalso; first | omega | contradiction | simp_all) (fun h5 => ?_)
  refine Z.iload_n B dX12_says_8 (x := nI 2) rfl ?_
  refine Z.if_ltN B dX12_says_9 (tgt := 18) rfl (by omega) ?_
  refine Z.iload_n B dX12_says_12 (x := nI 2) rfl ?_
  refine Z.bipush B dX12_says_13 (v := nI 6) rfl ?_
  refine Z.icmp_leN B dX12_says_15 (tgt := 24) rfl (by omega) (by omega) (fun h15 => ?_) (fun h15 => by exfalso; first | omega | contradiction | simp_all)
  refine Z.aload_n B dX12_says_24 (v := .ref 45) rfl rfl ?_
  refine Z.getR (σ := σ) B fX12_41_12 dX12_says_25 (hl.n (k := 45) (by decide)) (hl.k (k := 45) (by decide)) (by decide) (j := 54) (hl.r (k := 45) (f := 13) (by decide) (by decide)) ?_
  refine Z.iload_n B dX12_says_28 (x := nI s) rfl ?_
  refine Z.iald (σ := σ) B dX12_says_29 (n := 8) (hl.n (k := 54) (by decide)) (hl.k (k := 54) (by decide)) (hl.l (k := 54) (by decide)) (by decide) (j := s) rfl (by omega) (v := nI 2) hh.1 ?_
  refine Z.iconst B dX12_says_30 (v := nI 1) rfl ?_
  refine Z.icmp_neN B dX12_says_31 (tgt := 41) rfl (by omega) (by omega) (fun h31 => ?_) (fun h31 => by exfalso; first | omega | contradiction | simp_all)
  refine Z.aload_n B dX12_says_41 (v := .ref 45) rfl rfl ?_
  refine Z.getR (σ := σ) B fX12_41_12 dX12_says_42 (hl.n (k := 45) (by decide)) (hl.k (k := 45) (by decide)) (by decide) (j := 54) (hl.r (k := 45) (f := 13) (by decide) (by decide)) ?_
  refine Z.iload_n B dX12_says_45 (x := nI s) rfl ?_
  refine Z.iald (σ := σ) B dX12_says_46 (n := 8) (hl.n (k := 54) (by decide)) (hl.k (k := 54) (by decide)) (hl.l (k := 54) (by decide)) (by decide) (j := s) rfl (by omega) (v := nI 2) hh.1 ?_
  refine Z.if_neN B dX12_says_47 (tgt := 57) rfl (by omega) (fun h47 => ?_) (fun h47 => by exfalso; first | omega | contradiction | simp_all)
  refine Z.aload_n B dX12_says_57 (v := .ref 45) rfl rfl ?_
  refine Z.getR (σ := σ) B fX12_50_12 dX12_says_58 (hl.n (k := 45) (by decide)) (hl.k (k := 45) (by decide)) (by decide) (j := 57) (hl.r (k := 45) (f := 16) (by decide) (by decide)) ?_
  refine Z.iload_n B dX12_says_61 (x := nI s) rfl ?_
  refine Z.iald (σ := σ) B dX12_says_62 (n := 8) (hl.n (k := 57) (by decide)) (hl.k (k := 57) (by decide)) (hl.l (k := 57) (by decide)) (by decide) (j := s) rfl (by omega) (v := nI i8) hh.2.1 ?_
  refine Z.istore_n B dX12_says_63 (by decide) (L' := [(0, .ref 45), (1, .int (nI s)), (2, .int (nI 2)), (3, .int (nI i8))]) rfl ?_
  refine Z.aload_n B dX12_says_64 (v := .ref 45) rfl rfl ?_
  refine Z.getR (σ := σ) B fX12_35_12 dX12_says_65 (hl.n (k := 45) (by decide)) (hl.k (k := 45) (by decide)) (by decide) (j := 52) (hl.r (k := 45) (f := 11) (by decide) (by decide)) ?_
  refine Z.iload_n B dX12_says_68 (x := nI i8) rfl ?_
  refine Z.iald (σ := σ) B dX12_says_69 (n := 8) (hl.n (k := 52) (by decide)) (hl.k (k := 52) (by decide)) (hl.l (k := 52) (by decide)) (by decide) (j := i8) rfl (by omega) (v := nI 5) hw.1 ?_
  refine Z.istore B dX12_says_70 (by decide) (L' := [(0, .ref 45), (1, .int (nI s)), (2, .int (nI 2)), (3, .int (nI i8)), (4, .int (nI 5))]) rfl ?_
  refine Z.iload_n B dX12_says_72 (x := nI 2) rfl ?_
  refine Z.if_eqN B dX12_says_73 (tgt := 112) rfl (by omega) (fun h73 => by exfalso; first | omega | contradiction | simp_all) (fun h73 => ?_)
  refine Z.iload_n B dX12_says_76 (x := nI 2) rfl ?_
  refine Z.iload B dX12_says_77 (x := nI 5) rfl ?_
  refine Z.icmp_eqN B dX12_says_79 (tgt := 112) rfl (by omega) (by omega) (fun h79 => by exfalso; first | omega | contradiction | simp_all) (fun h79 => ?_)
  refine Z.iload_n B dX12_says_82 (x := nI 2) rfl ?_
  refine Z.iconst B dX12_says_83 (v := nI 1) rfl ?_
  refine Z.icmp_neN B dX12_says_84 (tgt := 93) rfl (by omega) (by omega) (fun h84 => ?_) (fun h84 => by exfalso; first | omega | contradiction | simp_all)
  refine Z.iload_n B dX12_says_93 (x := nI 2) rfl ?_
  refine Z.iconst B dX12_says_94 (v := nI 5) rfl ?_
  refine Z.icmp_neN B dX12_says_95 (tgt := 105) rfl (by omega) (by omega) (fun h95 => ?_) (fun h95 => by exfalso; first | omega | contradiction | simp_all)
  refine Z.aload_n B dX12_says_105 (v := .ref 45) rfl rfl ?_
  refine Z.bipush B dX12_says_106 (v := (-2)) rfl ?_
  refine Z.callVI (σ := σ) B (M' := mX12_no) (as := [.int (-2)]) (st := []) (v := .int (-2)) dX12_says_108 wX12_no iX12_no sX12_no kX12_94 (hl.n (k := 45) (by decide)) (hl.k (k := 45) (by decide)) (by decide) rfl rfl (t_X12_no_2 (σ := σ) hl) rfl rfl (by decide) (by decide) (Nat.le_of_ble_eq_true rfl) (by decide) (by decide) ?_
  refine Z.eqσ (τ := (zuX σ 46 (upd (zX σ 46) 2 (zX σ 46 2 + nI 1)))) rfl ?_
  refine Z.iret B Rt dX12_says_111 (ty := .int) rfl rfl (by decide) (by decide) ?_
  exact ⟨rfl, rfl⟩

theorem t_M_says_0_5_3 {σ : zSt} (hl : Lay σ) {n a y : Nat} (H : zMd σ n a y) {od : Nat → Nat} (ho : zMo σ a od) {pos : Nat → Nat} (hpo : zPo a od pos) {s : Nat} (hs : s < 8) {i8 : Nat} (hh : zMa σ s i8) {pa : Nat} (hi : i8 < y) (hw : zMy σ i8 5 pa) (hg : zX σ 45 28 = (-1))  : Dt mX12_says [.ref 45, .int (nI s), .int (nI 3)] σ (some (.int (-2))) (zuX σ 46 (upd (zX σ 46) 2 (zX σ 46 2 + nI 1))) := by
  obtain ⟨-, hn, hn8, ha, ha4, hy, hy8⟩ := id H
  have hi88 := hh.2.2
  have hpa := hw.2.2.2.1
  refine Dt.of (by decide) (Nat.le_of_ble_eq_true rfl) fun κ B Rt => ?_
  show Z κ 0 0 σ 0 [(0, .ref 45), (1, .int (nI s)), (2, .int (nI 3))] []
  refine Z.aload_n B dX12_says_0 (v := .ref 45) rfl rfl ?_
  refine Z.iload_n B dX12_says_1 (x := nI s) rfl ?_
  refine Z.callVI (σ := σ) B (M' := mX12_isShelf) (as := [.int (nI s)]) (st := []) (v := .int (nI 1)) dX12_says_2 wX12_isShelf iX12_isShelf sX12_isShelf kX12_90 (hl.n (k := 45) (by decide)) (hl.k (k := 45) (by decide)) (by decide) rfl rfl (t_X12_isShelf_in (σ := σ) hs) rfl rfl (by decide) (by decide) (Nat.le_of_ble_eq_true rfl) (by decide) (by decide) ?_
  refine Z.if_eqN B dX12_says_5 (tgt := 18) rfl (by omega) (fun h5 => by exfalso; first | omega | contradiction | simp_all) (fun h5 => ?_)
  refine Z.iload_n B dX12_says_8 (x := nI 3) rfl ?_
  refine Z.if_ltN B dX12_says_9 (tgt := 18) rfl (by omega) ?_
  refine Z.iload_n B dX12_says_12 (x := nI 3) rfl ?_
  refine Z.bipush B dX12_says_13 (v := nI 6) rfl ?_
  refine Z.icmp_leN B dX12_says_15 (tgt := 24) rfl (by omega) (by omega) (fun h15 => ?_) (fun h15 => by exfalso; first | omega | contradiction | simp_all)
  refine Z.aload_n B dX12_says_24 (v := .ref 45) rfl rfl ?_
  refine Z.getR (σ := σ) B fX12_41_12 dX12_says_25 (hl.n (k := 45) (by decide)) (hl.k (k := 45) (by decide)) (by decide) (j := 54) (hl.r (k := 45) (f := 13) (by decide) (by decide)) ?_
  refine Z.iload_n B dX12_says_28 (x := nI s) rfl ?_
  refine Z.iald (σ := σ) B dX12_says_29 (n := 8) (hl.n (k := 54) (by decide)) (hl.k (k := 54) (by decide)) (hl.l (k := 54) (by decide)) (by decide) (j := s) rfl (by omega) (v := nI 2) hh.1 ?_
  refine Z.iconst B dX12_says_30 (v := nI 1) rfl ?_
  refine Z.icmp_neN B dX12_says_31 (tgt := 41) rfl (by omega) (by omega) (fun h31 => ?_) (fun h31 => by exfalso; first | omega | contradiction | simp_all)
  refine Z.aload_n B dX12_says_41 (v := .ref 45) rfl rfl ?_
  refine Z.getR (σ := σ) B fX12_41_12 dX12_says_42 (hl.n (k := 45) (by decide)) (hl.k (k := 45) (by decide)) (by decide) (j := 54) (hl.r (k := 45) (f := 13) (by decide) (by decide)) ?_
  refine Z.iload_n B dX12_says_45 (x := nI s) rfl ?_
  refine Z.iald (σ := σ) B dX12_says_46 (n := 8) (hl.n (k := 54) (by decide)) (hl.k (k := 54) (by decide)) (hl.l (k := 54) (by decide)) (by decide) (j := s) rfl (by omega) (v := nI 2) hh.1 ?_
  refine Z.if_neN B dX12_says_47 (tgt := 57) rfl (by omega) (fun h47 => ?_) (fun h47 => by exfalso; first | omega | contradiction | simp_all)
  refine Z.aload_n B dX12_says_57 (v := .ref 45) rfl rfl ?_
  refine Z.getR (σ := σ) B fX12_50_12 dX12_says_58 (hl.n (k := 45) (by decide)) (hl.k (k := 45) (by decide)) (by decide) (j := 57) (hl.r (k := 45) (f := 16) (by decide) (by decide)) ?_
  refine Z.iload_n B dX12_says_61 (x := nI s) rfl ?_
  refine Z.iald (σ := σ) B dX12_says_62 (n := 8) (hl.n (k := 57) (by decide)) (hl.k (k := 57) (by decide)) (hl.l (k := 57) (by decide)) (by decide) (j := s) rfl (by omega) (v := nI i8) hh.2.1 ?_
  refine Z.istore_n B dX12_says_63 (by decide) (L' := [(0, .ref 45), (1, .int (nI s)), (2, .int (nI 3)), (3, .int (nI i8))]) rfl ?_
  refine Z.aload_n B dX12_says_64 (v := .ref 45) rfl rfl ?_
  refine Z.getR (σ := σ) B fX12_35_12 dX12_says_65 (hl.n (k := 45) (by decide)) (hl.k (k := 45) (by decide)) (by decide) (j := 52) (hl.r (k := 45) (f := 11) (by decide) (by decide)) ?_
  refine Z.iload_n B dX12_says_68 (x := nI i8) rfl ?_
  refine Z.iald (σ := σ) B dX12_says_69 (n := 8) (hl.n (k := 52) (by decide)) (hl.k (k := 52) (by decide)) (hl.l (k := 52) (by decide)) (by decide) (j := i8) rfl (by omega) (v := nI 5) hw.1 ?_
  refine Z.istore B dX12_says_70 (by decide) (L' := [(0, .ref 45), (1, .int (nI s)), (2, .int (nI 3)), (3, .int (nI i8)), (4, .int (nI 5))]) rfl ?_
  refine Z.iload_n B dX12_says_72 (x := nI 3) rfl ?_
  refine Z.if_eqN B dX12_says_73 (tgt := 112) rfl (by omega) (fun h73 => by exfalso; first | omega | contradiction | simp_all) (fun h73 => ?_)
  refine Z.iload_n B dX12_says_76 (x := nI 3) rfl ?_
  refine Z.iload B dX12_says_77 (x := nI 5) rfl ?_
  refine Z.icmp_eqN B dX12_says_79 (tgt := 112) rfl (by omega) (by omega) (fun h79 => by exfalso; first | omega | contradiction | simp_all) (fun h79 => ?_)
  refine Z.iload_n B dX12_says_82 (x := nI 3) rfl ?_
  refine Z.iconst B dX12_says_83 (v := nI 1) rfl ?_
  refine Z.icmp_neN B dX12_says_84 (tgt := 93) rfl (by omega) (by omega) (fun h84 => ?_) (fun h84 => by exfalso; first | omega | contradiction | simp_all)
  refine Z.iload_n B dX12_says_93 (x := nI 3) rfl ?_
  refine Z.iconst B dX12_says_94 (v := nI 5) rfl ?_
  refine Z.icmp_neN B dX12_says_95 (tgt := 105) rfl (by omega) (by omega) (fun h95 => ?_) (fun h95 => by exfalso; first | omega | contradiction | simp_all)
  refine Z.aload_n B dX12_says_105 (v := .ref 45) rfl rfl ?_
  refine Z.bipush B dX12_says_106 (v := (-2)) rfl ?_
  refine Z.callVI (σ := σ) B (M' := mX12_no) (as := [.int (-2)]) (st := []) (v := .int (-2)) dX12_says_108 wX12_no iX12_no sX12_no kX12_94 (hl.n (k := 45) (by decide)) (hl.k (k := 45) (by decide)) (by decide) rfl rfl (t_X12_no_2 (σ := σ) hl) rfl rfl (by decide) (by decide) (Nat.le_of_ble_eq_true rfl) (by decide) (by decide) ?_
  refine Z.eqσ (τ := (zuX σ 46 (upd (zX σ 46) 2 (zX σ 46 2 + nI 1)))) rfl ?_
  refine Z.iret B Rt dX12_says_111 (ty := .int) rfl rfl (by decide) (by decide) ?_
  exact ⟨rfl, rfl⟩

theorem t_M_says_0_5_4 {σ : zSt} (hl : Lay σ) {n a y : Nat} (H : zMd σ n a y) {od : Nat → Nat} (ho : zMo σ a od) {pos : Nat → Nat} (hpo : zPo a od pos) {s : Nat} (hs : s < 8) {i8 : Nat} (hh : zMa σ s i8) {pa : Nat} (hi : i8 < y) (hw : zMy σ i8 5 pa) (hg : zX σ 45 28 = (-1))  : Dt mX12_says [.ref 45, .int (nI s), .int (nI 4)] σ (some (.int (-2))) (zuX σ 46 (upd (zX σ 46) 2 (zX σ 46 2 + nI 1))) := by
  obtain ⟨-, hn, hn8, ha, ha4, hy, hy8⟩ := id H
  have hi88 := hh.2.2
  have hpa := hw.2.2.2.1
  refine Dt.of (by decide) (Nat.le_of_ble_eq_true rfl) fun κ B Rt => ?_
  show Z κ 0 0 σ 0 [(0, .ref 45), (1, .int (nI s)), (2, .int (nI 4))] []
  refine Z.aload_n B dX12_says_0 (v := .ref 45) rfl rfl ?_
  refine Z.iload_n B dX12_says_1 (x := nI s) rfl ?_
  refine Z.callVI (σ := σ) B (M' := mX12_isShelf) (as := [.int (nI s)]) (st := []) (v := .int (nI 1)) dX12_says_2 wX12_isShelf iX12_isShelf sX12_isShelf kX12_90 (hl.n (k := 45) (by decide)) (hl.k (k := 45) (by decide)) (by decide) rfl rfl (t_X12_isShelf_in (σ := σ) hs) rfl rfl (by decide) (by decide) (Nat.le_of_ble_eq_true rfl) (by decide) (by decide) ?_
  refine Z.if_eqN B dX12_says_5 (tgt := 18) rfl (by omega) (fun h5 => by exfalso; first | omega | contradiction | simp_all) (fun h5 => ?_)
  refine Z.iload_n B dX12_says_8 (x := nI 4) rfl ?_
  refine Z.if_ltN B dX12_says_9 (tgt := 18) rfl (by omega) ?_
  refine Z.iload_n B dX12_says_12 (x := nI 4) rfl ?_
  refine Z.bipush B dX12_says_13 (v := nI 6) rfl ?_
  refine Z.icmp_leN B dX12_says_15 (tgt := 24) rfl (by omega) (by omega) (fun h15 => ?_) (fun h15 => by exfalso; first | omega | contradiction | simp_all)
  refine Z.aload_n B dX12_says_24 (v := .ref 45) rfl rfl ?_
  refine Z.getR (σ := σ) B fX12_41_12 dX12_says_25 (hl.n (k := 45) (by decide)) (hl.k (k := 45) (by decide)) (by decide) (j := 54) (hl.r (k := 45) (f := 13) (by decide) (by decide)) ?_
  refine Z.iload_n B dX12_says_28 (x := nI s) rfl ?_
  refine Z.iald (σ := σ) B dX12_says_29 (n := 8) (hl.n (k := 54) (by decide)) (hl.k (k := 54) (by decide)) (hl.l (k := 54) (by decide)) (by decide) (j := s) rfl (by omega) (v := nI 2) hh.1 ?_
  refine Z.iconst B dX12_says_30 (v := nI 1) rfl ?_
  refine Z.icmp_neN B dX12_says_31 (tgt := 41) rfl (by omega) (by omega) (fun h31 => ?_) (fun h31 => by exfalso; first | omega | contradiction | simp_all)
  refine Z.aload_n B dX12_says_41 (v := .ref 45) rfl rfl ?_
  refine Z.getR (σ := σ) B fX12_41_12 dX12_says_42 (hl.n (k := 45) (by decide)) (hl.k (k := 45) (by decide)) (by decide) (j := 54) (hl.r (k := 45) (f := 13) (by decide) (by decide)) ?_
  refine Z.iload_n B dX12_says_45 (x := nI s) rfl ?_
  refine Z.iald (σ := σ) B dX12_says_46 (n := 8) (hl.n (k := 54) (by decide)) (hl.k (k := 54) (by decide)) (hl.l (k := 54) (by decide)) (by decide) (j := s) rfl (by omega) (v := nI 2) hh.1 ?_
  refine Z.if_neN B dX12_says_47 (tgt := 57) rfl (by omega) (fun h47 => ?_) (fun h47 => by exfalso; first | omega | contradiction | simp_all)
  refine Z.aload_n B dX12_says_57 (v := .ref 45) rfl rfl ?_
  refine Z.getR (σ := σ) B fX12_50_12 dX12_says_58 (hl.n (k := 45) (by decide)) (hl.k (k := 45) (by decide)) (by decide) (j := 57) (hl.r (k := 45) (f := 16) (by decide) (by decide)) ?_
  refine Z.iload_n B dX12_says_61 (x := nI s) rfl ?_
  refine Z.iald (σ := σ) B dX12_says_62 (n := 8) (hl.n (k := 57) (by decide)) (hl.k (k := 57) (by decide)) (hl.l (k := 57) (by decide)) (by decide) (j := s) rfl (by omega) (v := nI i8) hh.2.1 ?_
  refine Z.istore_n B dX12_says_63 (by decide) (L' := [(0, .ref 45), (1, .int (nI s)), (2, .int (nI 4)), (3, .int (nI i8))]) rfl ?_
  refine Z.aload_n B dX12_says_64 (v := .ref 45) rfl rfl ?_
  refine Z.getR (σ := σ) B fX12_35_12 dX12_says_65 (hl.n (k := 45) (by decide)) (hl.k (k := 45) (by decide)) (by decide) (j := 52) (hl.r (k := 45) (f := 11) (by decide) (by decide)) ?_
  refine Z.iload_n B dX12_says_68 (x := nI i8) rfl ?_
  refine Z.iald (σ := σ) B dX12_says_69 (n := 8) (hl.n (k := 52) (by decide)) (hl.k (k := 52) (by decide)) (hl.l (k := 52) (by decide)) (by decide) (j := i8) rfl (by omega) (v := nI 5) hw.1 ?_
  refine Z.istore B dX12_says_70 (by decide) (L' := [(0, .ref 45), (1, .int (nI s)), (2, .int (nI 4)), (3, .int (nI i8)), (4, .int (nI 5))]) rfl ?_
  refine Z.iload_n B dX12_says_72 (x := nI 4) rfl ?_
  refine Z.if_eqN B dX12_says_73 (tgt := 112) rfl (by omega) (fun h73 => by exfalso; first | omega | contradiction | simp_all) (fun h73 => ?_)
  refine Z.iload_n B dX12_says_76 (x := nI 4) rfl ?_
  refine Z.iload B dX12_says_77 (x := nI 5) rfl ?_
  refine Z.icmp_eqN B dX12_says_79 (tgt := 112) rfl (by omega) (by omega) (fun h79 => by exfalso; first | omega | contradiction | simp_all) (fun h79 => ?_)
  refine Z.iload_n B dX12_says_82 (x := nI 4) rfl ?_
  refine Z.iconst B dX12_says_83 (v := nI 1) rfl ?_
  refine Z.icmp_neN B dX12_says_84 (tgt := 93) rfl (by omega) (by omega) (fun h84 => ?_) (fun h84 => by exfalso; first | omega | contradiction | simp_all)
  refine Z.iload_n B dX12_says_93 (x := nI 4) rfl ?_
  refine Z.iconst B dX12_says_94 (v := nI 5) rfl ?_
  refine Z.icmp_neN B dX12_says_95 (tgt := 105) rfl (by omega) (by omega) (fun h95 => ?_) (fun h95 => by exfalso; first | omega | contradiction | simp_all)
  refine Z.aload_n B dX12_says_105 (v := .ref 45) rfl rfl ?_
  refine Z.bipush B dX12_says_106 (v := (-2)) rfl ?_
  refine Z.callVI (σ := σ) B (M' := mX12_no) (as := [.int (-2)]) (st := []) (v := .int (-2)) dX12_says_108 wX12_no iX12_no sX12_no kX12_94 (hl.n (k := 45) (by decide)) (hl.k (k := 45) (by decide)) (by decide) rfl rfl (t_X12_no_2 (σ := σ) hl) rfl rfl (by decide) (by decide) (Nat.le_of_ble_eq_true rfl) (by decide) (by decide) ?_
  refine Z.eqσ (τ := (zuX σ 46 (upd (zX σ 46) 2 (zX σ 46 2 + nI 1)))) rfl ?_
  refine Z.iret B Rt dX12_says_111 (ty := .int) rfl rfl (by decide) (by decide) ?_
  exact ⟨rfl, rfl⟩

theorem t_M_says_0_5_5 {σ : zSt} (hl : Lay σ) {n a y : Nat} (H : zMd σ n a y) {od : Nat → Nat} (ho : zMo σ a od) {pos : Nat → Nat} (hpo : zPo a od pos) {s : Nat} (hs : s < 8) {i8 : Nat} (hh : zMa σ s i8) {pa : Nat} (hi : i8 < y) (hw : zMy σ i8 5 pa) (hg : zX σ 45 28 = (-1))  : Dt mX12_says [.ref 45, .int (nI s), .int (nI 5)] σ (some (.int (gI (fun c => cn (zX σ 47) c 5) n))) σ := by
  obtain ⟨-, hn, hn8, ha, ha4, hy, hy8⟩ := id H
  have hi88 := hh.2.2
  have hpa := hw.2.2.2.1
  refine Dt.of (by decide) (Nat.le_of_ble_eq_true rfl) fun κ B Rt => ?_
  show Z κ 0 0 σ 0 [(0, .ref 45), (1, .int (nI s)), (2, .int (nI 5))] []
  refine Z.aload_n B dX12_says_0 (v := .ref 45) rfl rfl ?_
  refine Z.iload_n B dX12_says_1 (x := nI s) rfl ?_
  refine Z.callVI (σ := σ) B (M' := mX12_isShelf) (as := [.int (nI s)]) (st := []) (v := .int (nI 1)) dX12_says_2 wX12_isShelf iX12_isShelf sX12_isShelf kX12_90 (hl.n (k := 45) (by decide)) (hl.k (k := 45) (by decide)) (by decide) rfl rfl (t_X12_isShelf_in (σ := σ) hs) rfl rfl (by decide) (by decide) (Nat.le_of_ble_eq_true rfl) (by decide) (by decide) ?_
  refine Z.if_eqN B dX12_says_5 (tgt := 18) rfl (by omega) (fun h5 => by exfalso; first | omega | contradiction | simp_all) (fun h5 => ?_)
  refine Z.iload_n B dX12_says_8 (x := nI 5) rfl ?_
  refine Z.if_ltN B dX12_says_9 (tgt := 18) rfl (by omega) ?_
  refine Z.iload_n B dX12_says_12 (x := nI 5) rfl ?_
  refine Z.bipush B dX12_says_13 (v := nI 6) rfl ?_
  refine Z.icmp_leN B dX12_says_15 (tgt := 24) rfl (by omega) (by omega) (fun h15 => ?_) (fun h15 => by exfalso; first | omega | contradiction | simp_all)
  refine Z.aload_n B dX12_says_24 (v := .ref 45) rfl rfl ?_
  refine Z.getR (σ := σ) B fX12_41_12 dX12_says_25 (hl.n (k := 45) (by decide)) (hl.k (k := 45) (by decide)) (by decide) (j := 54) (hl.r (k := 45) (f := 13) (by decide) (by decide)) ?_
  refine Z.iload_n B dX12_says_28 (x := nI s) rfl ?_
  refine Z.iald (σ := σ) B dX12_says_29 (n := 8) (hl.n (k := 54) (by decide)) (hl.k (k := 54) (by decide)) (hl.l (k := 54) (by decide)) (by decide) (j := s) rfl (by omega) (v := nI 2) hh.1 ?_
  refine Z.iconst B dX12_says_30 (v := nI 1) rfl ?_
  refine Z.icmp_neN B dX12_says_31 (tgt := 41) rfl (by omega) (by omega) (fun h31 => ?_) (fun h31 => by exfalso; first | omega | contradiction | simp_all)
  refine Z.aload_n B dX12_says_41 (v := .ref 45) rfl rfl ?_
  refine Z.getR (σ := σ) B fX12_41_12 dX12_says_42 (hl.n (k := 45) (by decide)) (hl.k (k := 45) (by decide)) (by decide) (j := 54) (hl.r (k := 45) (f := 13) (by decide) (by decide)) ?_
  refine Z.iload_n B dX12_says_45 (x := nI s) rfl ?_
  refine Z.iald (σ := σ) B dX12_says_46 (n := 8) (hl.n (k := 54) (by decide)) (hl.k (k := 54) (by decide)) (hl.l (k := 54) (by decide)) (by decide) (j := s) rfl (by omega) (v := nI 2) hh.1 ?_
  refine Z.if_neN B dX12_says_47 (tgt := 57) rfl (by omega) (fun h47 => ?_) (fun h47 => by exfalso; first | omega | contradiction | simp_all)
  refine Z.aload_n B dX12_says_57 (v := .ref 45) rfl rfl ?_
  refine Z.getR (σ := σ) B fX12_50_12 dX12_says_58 (hl.n (k := 45) (by decide)) (hl.k (k := 45) (by decide)) (by decide) (j := 57) (hl.r (k := 45) (f := 16) (by decide) (by decide)) ?_
  refine Z.iload_n B dX12_says_61 (x := nI s) rfl ?_
  refine Z.iald (σ := σ) B dX12_says_62 (n := 8) (hl.n (k := 57) (by decide)) (hl.k (k := 57) (by decide)) (hl.l (k := 57) (by decide)) (by decide) (j := s) rfl (by omega) (v := nI i8) hh.2.1 ?_
  refine Z.istore_n B dX12_says_63 (by decide) (L' := [(0, .ref 45), (1, .int (nI s)), (2, .int (nI 5)), (3, .int (nI i8))]) rfl ?_
  refine Z.aload_n B dX12_says_64 (v := .ref 45) rfl rfl ?_
  refine Z.getR (σ := σ) B fX12_35_12 dX12_says_65 (hl.n (k := 45) (by decide)) (hl.k (k := 45) (by decide)) (by decide) (j := 52) (hl.r (k := 45) (f := 11) (by decide) (by decide)) ?_
  refine Z.iload_n B dX12_says_68 (x := nI i8) rfl ?_
  refine Z.iald (σ := σ) B dX12_says_69 (n := 8) (hl.n (k := 52) (by decide)) (hl.k (k := 52) (by decide)) (hl.l (k := 52) (by decide)) (by decide) (j := i8) rfl (by omega) (v := nI 5) hw.1 ?_
  refine Z.istore B dX12_says_70 (by decide) (L' := [(0, .ref 45), (1, .int (nI s)), (2, .int (nI 5)), (3, .int (nI i8)), (4, .int (nI 5))]) rfl ?_
  refine Z.iload_n B dX12_says_72 (x := nI 5) rfl ?_
  refine Z.if_eqN B dX12_says_73 (tgt := 112) rfl (by omega) (fun h73 => by exfalso; first | omega | contradiction | simp_all) (fun h73 => ?_)
  refine Z.iload_n B dX12_says_76 (x := nI 5) rfl ?_
  refine Z.iload B dX12_says_77 (x := nI 5) rfl ?_
  refine Z.icmp_eqN B dX12_says_79 (tgt := 112) rfl (by omega) (by omega) (fun h79 => ?_) (fun h79 => by exfalso; first | omega | contradiction | simp_all)
  refine Z.iload_n B dX12_says_112 (x := nI 5) rfl ?_
  refine Z.tabIn B dX12_says_113 (by decide) (by decide) (off := 101) (by decide) (tgt := 214) rfl ?_
  refine Z.iconst B dX12_says_214 (v := (-1)) rfl ?_
  refine Z.istore B dX12_says_215 (by decide) (L' := [(0, .ref 45), (1, .int (nI s)), (2, .int (nI 5)), (3, .int (nI i8)), (4, .int (nI 5)), (5, .int (-1))]) rfl ?_
  refine Z.iconst B dX12_says_217 (v := nI 0) rfl ?_
  refine Z.istore B dX12_says_218 (by decide) (L' := [(0, .ref 45), (1, .int (nI s)), (2, .int (nI 5)), (3, .int (nI i8)), (4, .int (nI 5)), (5, .int (-1)), (6, .int (nI 0))]) rfl ?_
  have hloop220 : ∀ v : Nat, v ≤ n → Z κ 0 0 σ 220 [(0, .ref 45), (1, .int (nI s)), (2, .int (nI 5)), (3, .int (nI i8)), (4, .int (nI 5)), (5, .int (gI (fun c => cn (zX σ 47) c 5) v)), (6, .int (nI v))] [] := by
    refine z_loop (fun v => n - v) (fun v ih hv => ?_)
    refine Z.iload B dX12_says_220 (x := nI v) rfl ?_
    refine Z.aload_n B dX12_says_222 (v := .ref 45) rfl rfl ?_
    refine Z.getI (σ := σ) B fX12_81_12 dX12_says_223 (hl.n (k := 45) (by decide)) (hl.k (k := 45) (by decide)) (by decide) (v := nI n) hn ?_
    refine Z.icmp_geN B dX12_says_226 (tgt := 272) rfl (by omega) (by omega) (fun h226 => ?_) (fun h226 => ?_)
    · skip
      obtain rfl : n = v := by omega
      refine Z.iload B dX12_says_272 (x := gI (fun c => cn (zX σ 47) c 5) n) rfl ?_
      refine Z.iret B Rt dX12_says_274 (ty := .int) rfl rfl (by decide) (by decide) ?_
      exact ⟨rfl, rfl⟩
    · skip
      refine Z.iload B dX12_says_229 (x := gI (fun c => cn (zX σ 47) c 5) v) rfl ?_
      refine Z.iconst B dX12_says_231 (v := (-1)) rfl ?_
      refine Z.icmp_eq B dX12_says_232 (tgt := 262) rfl (fun h232 => ?_) (fun h232 => ?_)
      · skip
        refine Z.iload B dX12_says_262 (x := nI v) rfl ?_
        refine Z.istore B dX12_says_264 (by decide) (L' := [(0, .ref 45), (1, .int (nI s)), (2, .int (nI 5)), (3, .int (nI i8)), (4, .int (nI 5)), (5, .int (nI v)), (6, .int (nI v))]) rfl ?_
        refine Z.iincN B dX12_says_266 (by decide) (a := v) rfl (L' := [(0, .ref 45), (1, .int (nI s)), (2, .int (nI 5)), (3, .int (nI i8)), (4, .int (nI 5)), (5, .int (nI v)), (6, .int (nI (v + 1)))]) rfl ?_
        refine Z.goto B dX12_says_269 (tgt := 220) rfl ?_
        have e := ih (v + 1) (by omega) (by omega)
        first | (rw [(gI_take (Or.inl h232) (by omega)).1] at e; exact e) | (rw [(gI_take (Or.inr h259) (by omega)).1] at e; exact e) | (rw [(gI_keepn h232 h259).1, gI_pos hv0] at e; exact e)
      · skip
        have hv0 : 0 < v := Nat.pos_of_ne_zero fun e => h232 (by rw [e]; rfl)
        have hgm : gm (fun c => cn (zX σ 47) c 5) v = cn (zX σ 47) (ga (fun c => cn (zX σ 47) c 5) (v - 1)) 5 := by
          obtain ⟨v2, rfl⟩ : ∃ v2, v = v2 + 1 := ⟨v - 1, by omega⟩
          rfl
        have hgl := ga_lt (f := (fun c => cn (zX σ 47) c 5)) hv0
        rw [gI_pos hv0]
        refine Z.aload_n B dX12_says_235 (v := .ref 45) rfl rfl ?_
        refine Z.getR (σ := σ) B fX12_20_12 dX12_says_236 (hl.n (k := 45) (by decide)) (hl.k (k := 45) (by decide)) (by decide) (j := 47) (hl.r (k := 45) (f := 6) (by decide) (by decide)) ?_
        refine Z.bipush B dX12_says_239 (v := nI 6) rfl ?_
        refine Z.iload B dX12_says_241 (x := nI v) rfl ?_
        refine Z.imulNc B dX12_says_243 (a := 6) (b := v) ?_
        refine Z.iconst B dX12_says_244 (v := nI 5) rfl ?_
        refine Z.iaddN B dX12_says_245 (a := v * 6) (b := 5) ?_
        refine Z.iald (σ := σ) B dX12_says_246 (n := 48) (hl.n (k := 47) (by decide)) (hl.k (k := 47) (by decide)) (hl.l (k := 47) (by decide)) (by decide) (j := (v * 6) + 5) rfl (by omega) (v := (zX σ 47 ((v * 6) + 5))) rfl ?_
        refine Z.aload_n B dX12_says_247 (v := .ref 45) rfl rfl ?_
        refine Z.getR (σ := σ) B fX12_20_12 dX12_says_248 (hl.n (k := 45) (by decide)) (hl.k (k := 45) (by decide)) (by decide) (j := 47) (hl.r (k := 45) (f := 6) (by decide) (by decide)) ?_
        refine Z.bipush B dX12_says_251 (v := nI 6) rfl ?_
        refine Z.iload B dX12_says_253 (x := nI (ga (fun c => cn (zX σ 47) c 5) (v - 1))) rfl ?_
        refine Z.imulNc B dX12_says_255 (a := 6) (b := ga (fun c => cn (zX σ 47) c 5) (v - 1)) ?_
        refine Z.iconst B dX12_says_256 (v := nI 5) rfl ?_
        refine Z.iaddN B dX12_says_257 (a := (ga (fun c => cn (zX σ 47) c 5) (v - 1)) * 6) (b := 5) ?_
        refine Z.iald (σ := σ) B dX12_says_258 (n := 48) (hl.n (k := 47) (by decide)) (hl.k (k := 47) (by decide)) (hl.l (k := 47) (by decide)) (by decide) (j := ((ga (fun c => cn (zX σ 47) c 5) (v - 1)) * 6) + 5) rfl (by omega) (v := (zX σ 47 (((ga (fun c => cn (zX σ 47) c 5) (v - 1)) * 6) + 5))) rfl ?_
        refine Z.icmp_le B dX12_says_259 (tgt := 266) rfl (fun h259 => ?_) (fun h259 => ?_)
        · skip
          have h259 : ¬ gm (fun c => cn (zX σ 47) c 5) v < cn (zX σ 47) v 5 := by rw [hgm, zlt_iff]; rw [zle_iff] at h259; rw [cn_ne (show ¬ (5 : Nat) = 6 by decide), cn_ne (show ¬ (5 : Nat) = 6 by decide)]; omega
          refine Z.iincN B dX12_says_266 (by decide) (a := v) rfl (L' := [(0, .ref 45), (1, .int (nI s)), (2, .int (nI 5)), (3, .int (nI i8)), (4, .int (nI 5)), (5, .int (nI (ga (fun c => cn (zX σ 47) c 5) (v - 1)))), (6, .int (nI (v + 1)))]) rfl ?_
          refine Z.goto B dX12_says_269 (tgt := 220) rfl ?_
          have e := ih (v + 1) (by omega) (by omega)
          first | (rw [(gI_take (Or.inl h232) (by omega)).1] at e; exact e) | (rw [(gI_take (Or.inr h259) (by omega)).1] at e; exact e) | (rw [(gI_keepn h232 h259).1, gI_pos hv0] at e; exact e)
        · skip
          have h259 : gm (fun c => cn (zX σ 47) c 5) v < cn (zX σ 47) v 5 := by rw [hgm, zlt_iff]; rw [zle_iff] at h259; rw [cn_ne (show ¬ (5 : Nat) = 6 by decide), cn_ne (show ¬ (5 : Nat) = 6 by decide)]; omega
          refine Z.iload B dX12_says_262 (x := nI v) rfl ?_
          refine Z.istore B dX12_says_264 (by decide) (L' := [(0, .ref 45), (1, .int (nI s)), (2, .int (nI 5)), (3, .int (nI i8)), (4, .int (nI 5)), (5, .int (nI v)), (6, .int (nI v))]) rfl ?_
          refine Z.iincN B dX12_says_266 (by decide) (a := v) rfl (L' := [(0, .ref 45), (1, .int (nI s)), (2, .int (nI 5)), (3, .int (nI i8)), (4, .int (nI 5)), (5, .int (nI v)), (6, .int (nI (v + 1)))]) rfl ?_
          refine Z.goto B dX12_says_269 (tgt := 220) rfl ?_
          have e := ih (v + 1) (by omega) (by omega)
          first | (rw [(gI_take (Or.inl h232) (by omega)).1] at e; exact e) | (rw [(gI_take (Or.inr h259) (by omega)).1] at e; exact e) | (rw [(gI_keepn h232 h259).1, gI_pos hv0] at e; exact e)
  exact hloop220 0 (Nat.zero_le _)

theorem t_M_says_0_5_6 {σ : zSt} (hl : Lay σ) {n a y : Nat} (H : zMd σ n a y) {od : Nat → Nat} (ho : zMo σ a od) {pos : Nat → Nat} (hpo : zPo a od pos) {s : Nat} (hs : s < 8) {i8 : Nat} (hh : zMa σ s i8) {pa : Nat} (hi : i8 < y) (hw : zMy σ i8 5 pa) (hg : zX σ 45 28 = (-1))  : Dt mX12_says [.ref 45, .int (nI s), .int (nI 6)] σ (some (.int (-2))) (zuX σ 46 (upd (zX σ 46) 2 (zX σ 46 2 + nI 1))) := by
  obtain ⟨-, hn, hn8, ha, ha4, hy, hy8⟩ := id H
  have hi88 := hh.2.2
  have hpa := hw.2.2.2.1
  refine Dt.of (by decide) (Nat.le_of_ble_eq_true rfl) fun κ B Rt => ?_
  show Z κ 0 0 σ 0 [(0, .ref 45), (1, .int (nI s)), (2, .int (nI 6))] []
  refine Z.aload_n B dX12_says_0 (v := .ref 45) rfl rfl ?_
  refine Z.iload_n B dX12_says_1 (x := nI s) rfl ?_
  refine Z.callVI (σ := σ) B (M' := mX12_isShelf) (as := [.int (nI s)]) (st := []) (v := .int (nI 1)) dX12_says_2 wX12_isShelf iX12_isShelf sX12_isShelf kX12_90 (hl.n (k := 45) (by decide)) (hl.k (k := 45) (by decide)) (by decide) rfl rfl (t_X12_isShelf_in (σ := σ) hs) rfl rfl (by decide) (by decide) (Nat.le_of_ble_eq_true rfl) (by decide) (by decide) ?_
  refine Z.if_eqN B dX12_says_5 (tgt := 18) rfl (by omega) (fun h5 => by exfalso; first | omega | contradiction | simp_all) (fun h5 => ?_)
  refine Z.iload_n B dX12_says_8 (x := nI 6) rfl ?_
  refine Z.if_ltN B dX12_says_9 (tgt := 18) rfl (by omega) ?_
  refine Z.iload_n B dX12_says_12 (x := nI 6) rfl ?_
  refine Z.bipush B dX12_says_13 (v := nI 6) rfl ?_
  refine Z.icmp_leN B dX12_says_15 (tgt := 24) rfl (by omega) (by omega) (fun h15 => ?_) (fun h15 => by exfalso; first | omega | contradiction | simp_all)
  refine Z.aload_n B dX12_says_24 (v := .ref 45) rfl rfl ?_
  refine Z.getR (σ := σ) B fX12_41_12 dX12_says_25 (hl.n (k := 45) (by decide)) (hl.k (k := 45) (by decide)) (by decide) (j := 54) (hl.r (k := 45) (f := 13) (by decide) (by decide)) ?_
  refine Z.iload_n B dX12_says_28 (x := nI s) rfl ?_
  refine Z.iald (σ := σ) B dX12_says_29 (n := 8) (hl.n (k := 54) (by decide)) (hl.k (k := 54) (by decide)) (hl.l (k := 54) (by decide)) (by decide) (j := s) rfl (by omega) (v := nI 2) hh.1 ?_
  refine Z.iconst B dX12_says_30 (v := nI 1) rfl ?_
  refine Z.icmp_neN B dX12_says_31 (tgt := 41) rfl (by omega) (by omega) (fun h31 => ?_) (fun h31 => by exfalso; first | omega | contradiction | simp_all)
  refine Z.aload_n B dX12_says_41 (v := .ref 45) rfl rfl ?_
  refine Z.getR (σ := σ) B fX12_41_12 dX12_says_42 (hl.n (k := 45) (by decide)) (hl.k (k := 45) (by decide)) (by decide) (j := 54) (hl.r (k := 45) (f := 13) (by decide) (by decide)) ?_
  refine Z.iload_n B dX12_says_45 (x := nI s) rfl ?_
  refine Z.iald (σ := σ) B dX12_says_46 (n := 8) (hl.n (k := 54) (by decide)) (hl.k (k := 54) (by decide)) (hl.l (k := 54) (by decide)) (by decide) (j := s) rfl (by omega) (v := nI 2) hh.1 ?_
  refine Z.if_neN B dX12_says_47 (tgt := 57) rfl (by omega) (fun h47 => ?_) (fun h47 => by exfalso; first | omega | contradiction | simp_all)
  refine Z.aload_n B dX12_says_57 (v := .ref 45) rfl rfl ?_
  refine Z.getR (σ := σ) B fX12_50_12 dX12_says_58 (hl.n (k := 45) (by decide)) (hl.k (k := 45) (by decide)) (by decide) (j := 57) (hl.r (k := 45) (f := 16) (by decide) (by decide)) ?_
  refine Z.iload_n B dX12_says_61 (x := nI s) rfl ?_
  refine Z.iald (σ := σ) B dX12_says_62 (n := 8) (hl.n (k := 57) (by decide)) (hl.k (k := 57) (by decide)) (hl.l (k := 57) (by decide)) (by decide) (j := s) rfl (by omega) (v := nI i8) hh.2.1 ?_
  refine Z.istore_n B dX12_says_63 (by decide) (L' := [(0, .ref 45), (1, .int (nI s)), (2, .int (nI 6)), (3, .int (nI i8))]) rfl ?_
  refine Z.aload_n B dX12_says_64 (v := .ref 45) rfl rfl ?_
  refine Z.getR (σ := σ) B fX12_35_12 dX12_says_65 (hl.n (k := 45) (by decide)) (hl.k (k := 45) (by decide)) (by decide) (j := 52) (hl.r (k := 45) (f := 11) (by decide) (by decide)) ?_
  refine Z.iload_n B dX12_says_68 (x := nI i8) rfl ?_
  refine Z.iald (σ := σ) B dX12_says_69 (n := 8) (hl.n (k := 52) (by decide)) (hl.k (k := 52) (by decide)) (hl.l (k := 52) (by decide)) (by decide) (j := i8) rfl (by omega) (v := nI 5) hw.1 ?_
  refine Z.istore B dX12_says_70 (by decide) (L' := [(0, .ref 45), (1, .int (nI s)), (2, .int (nI 6)), (3, .int (nI i8)), (4, .int (nI 5))]) rfl ?_
  refine Z.iload_n B dX12_says_72 (x := nI 6) rfl ?_
  refine Z.if_eqN B dX12_says_73 (tgt := 112) rfl (by omega) (fun h73 => by exfalso; first | omega | contradiction | simp_all) (fun h73 => ?_)
  refine Z.iload_n B dX12_says_76 (x := nI 6) rfl ?_
  refine Z.iload B dX12_says_77 (x := nI 5) rfl ?_
  refine Z.icmp_eqN B dX12_says_79 (tgt := 112) rfl (by omega) (by omega) (fun h79 => by exfalso; first | omega | contradiction | simp_all) (fun h79 => ?_)
  refine Z.iload_n B dX12_says_82 (x := nI 6) rfl ?_
  refine Z.iconst B dX12_says_83 (v := nI 1) rfl ?_
  refine Z.icmp_neN B dX12_says_84 (tgt := 93) rfl (by omega) (by omega) (fun h84 => ?_) (fun h84 => by exfalso; first | omega | contradiction | simp_all)
  refine Z.iload_n B dX12_says_93 (x := nI 6) rfl ?_
  refine Z.iconst B dX12_says_94 (v := nI 5) rfl ?_
  refine Z.icmp_neN B dX12_says_95 (tgt := 105) rfl (by omega) (by omega) (fun h95 => ?_) (fun h95 => by exfalso; first | omega | contradiction | simp_all)
  refine Z.aload_n B dX12_says_105 (v := .ref 45) rfl rfl ?_
  refine Z.bipush B dX12_says_106 (v := (-2)) rfl ?_
  refine Z.callVI (σ := σ) B (M' := mX12_no) (as := [.int (-2)]) (st := []) (v := .int (-2)) dX12_says_108 wX12_no iX12_no sX12_no kX12_94 (hl.n (k := 45) (by decide)) (hl.k (k := 45) (by decide)) (by decide) rfl rfl (t_X12_no_2 (σ := σ) hl) rfl rfl (by decide) (by decide) (Nat.le_of_ble_eq_true rfl) (by decide) (by decide) ?_
  refine Z.eqσ (τ := (zuX σ 46 (upd (zX σ 46) 2 (zX σ 46 2 + nI 1)))) rfl ?_
  refine Z.iret B Rt dX12_says_111 (ty := .int) rfl rfl (by decide) (by decide) ?_
  exact ⟨rfl, rfl⟩

theorem t_M_says_0_6_0 {σ : zSt} (hl : Lay σ) {n a y : Nat} (H : zMd σ n a y) {od : Nat → Nat} (ho : zMo σ a od) {pos : Nat → Nat} (hpo : zPo a od pos) {s : Nat} (hs : s < 8) {i8 : Nat} (hh : zMa σ s i8) {pa : Nat} (hi : i8 < y) (hw : zMy σ i8 6 pa) (hg : zX σ 45 28 = (-1))  : Dt mX12_says [.ref 45, .int (nI s), .int (nI 0)] σ (some (.int (nI pa))) σ := by
  obtain ⟨-, hn, hn8, ha, ha4, hy, hy8⟩ := id H
  have hi88 := hh.2.2
  have hpa := hw.2.2.2.1
  refine Dt.of (by decide) (Nat.le_of_ble_eq_true rfl) fun κ B Rt => ?_
  show Z κ 0 0 σ 0 [(0, .ref 45), (1, .int (nI s)), (2, .int (nI 0))] []
  refine Z.aload_n B dX12_says_0 (v := .ref 45) rfl rfl ?_
  refine Z.iload_n B dX12_says_1 (x := nI s) rfl ?_
  refine Z.callVI (σ := σ) B (M' := mX12_isShelf) (as := [.int (nI s)]) (st := []) (v := .int (nI 1)) dX12_says_2 wX12_isShelf iX12_isShelf sX12_isShelf kX12_90 (hl.n (k := 45) (by decide)) (hl.k (k := 45) (by decide)) (by decide) rfl rfl (t_X12_isShelf_in (σ := σ) hs) rfl rfl (by decide) (by decide) (Nat.le_of_ble_eq_true rfl) (by decide) (by decide) ?_
  refine Z.if_eqN B dX12_says_5 (tgt := 18) rfl (by omega) (fun h5 => by exfalso; first | omega | contradiction | simp_all) (fun h5 => ?_)
  refine Z.iload_n B dX12_says_8 (x := nI 0) rfl ?_
  refine Z.if_ltN B dX12_says_9 (tgt := 18) rfl (by omega) ?_
  refine Z.iload_n B dX12_says_12 (x := nI 0) rfl ?_
  refine Z.bipush B dX12_says_13 (v := nI 6) rfl ?_
  refine Z.icmp_leN B dX12_says_15 (tgt := 24) rfl (by omega) (by omega) (fun h15 => ?_) (fun h15 => by exfalso; first | omega | contradiction | simp_all)
  refine Z.aload_n B dX12_says_24 (v := .ref 45) rfl rfl ?_
  refine Z.getR (σ := σ) B fX12_41_12 dX12_says_25 (hl.n (k := 45) (by decide)) (hl.k (k := 45) (by decide)) (by decide) (j := 54) (hl.r (k := 45) (f := 13) (by decide) (by decide)) ?_
  refine Z.iload_n B dX12_says_28 (x := nI s) rfl ?_
  refine Z.iald (σ := σ) B dX12_says_29 (n := 8) (hl.n (k := 54) (by decide)) (hl.k (k := 54) (by decide)) (hl.l (k := 54) (by decide)) (by decide) (j := s) rfl (by omega) (v := nI 2) hh.1 ?_
  refine Z.iconst B dX12_says_30 (v := nI 1) rfl ?_
  refine Z.icmp_neN B dX12_says_31 (tgt := 41) rfl (by omega) (by omega) (fun h31 => ?_) (fun h31 => by exfalso; first | omega | contradiction | simp_all)
  refine Z.aload_n B dX12_says_41 (v := .ref 45) rfl rfl ?_
  refine Z.getR (σ := σ) B fX12_41_12 dX12_says_42 (hl.n (k := 45) (by decide)) (hl.k (k := 45) (by decide)) (by decide) (j := 54) (hl.r (k := 45) (f := 13) (by decide) (by decide)) ?_
  refine Z.iload_n B dX12_says_45 (x := nI s) rfl ?_
  refine Z.iald (σ := σ) B dX12_says_46 (n := 8) (hl.n (k := 54) (by decide)) (hl.k (k := 54) (by decide)) (hl.l (k := 54) (by decide)) (by decide) (j := s) rfl (by omega) (v := nI 2) hh.1 ?_
  refine Z.if_neN B dX12_says_47 (tgt := 57) rfl (by omega) (fun h47 => ?_) (fun h47 => by exfalso; first | omega | contradiction | simp_all)
  refine Z.aload_n B dX12_says_57 (v := .ref 45) rfl rfl ?_
  refine Z.getR (σ := σ) B fX12_50_12 dX12_says_58 (hl.n (k := 45) (by decide)) (hl.k (k := 45) (by decide)) (by decide) (j := 57) (hl.r (k := 45) (f := 16) (by decide) (by decide)) ?_
  refine Z.iload_n B dX12_says_61 (x := nI s) rfl ?_
  refine Z.iald (σ := σ) B dX12_says_62 (n := 8) (hl.n (k := 57) (by decide)) (hl.k (k := 57) (by decide)) (hl.l (k := 57) (by decide)) (by decide) (j := s) rfl (by omega) (v := nI i8) hh.2.1 ?_
  refine Z.istore_n B dX12_says_63 (by decide) (L' := [(0, .ref 45), (1, .int (nI s)), (2, .int (nI 0)), (3, .int (nI i8))]) rfl ?_
  refine Z.aload_n B dX12_says_64 (v := .ref 45) rfl rfl ?_
  refine Z.getR (σ := σ) B fX12_35_12 dX12_says_65 (hl.n (k := 45) (by decide)) (hl.k (k := 45) (by decide)) (by decide) (j := 52) (hl.r (k := 45) (f := 11) (by decide) (by decide)) ?_
  refine Z.iload_n B dX12_says_68 (x := nI i8) rfl ?_
  refine Z.iald (σ := σ) B dX12_says_69 (n := 8) (hl.n (k := 52) (by decide)) (hl.k (k := 52) (by decide)) (hl.l (k := 52) (by decide)) (by decide) (j := i8) rfl (by omega) (v := nI 6) hw.1 ?_
  refine Z.istore B dX12_says_70 (by decide) (L' := [(0, .ref 45), (1, .int (nI s)), (2, .int (nI 0)), (3, .int (nI i8)), (4, .int (nI 6))]) rfl ?_
  refine Z.iload_n B dX12_says_72 (x := nI 0) rfl ?_
  refine Z.if_eqN B dX12_says_73 (tgt := 112) rfl (by omega) (fun h73 => ?_) (fun h73 => by exfalso; first | omega | contradiction | simp_all)
  refine Z.iload_n B dX12_says_112 (x := nI 0) rfl ?_
  refine Z.tabIn B dX12_says_113 (by decide) (by decide) (off := 43) (by decide) (tgt := 156) rfl ?_
  refine Z.aload_n B dX12_says_156 (v := .ref 45) rfl rfl ?_
  refine Z.getR (σ := σ) B fX12_38_12 dX12_says_157 (hl.n (k := 45) (by decide)) (hl.k (k := 45) (by decide)) (by decide) (j := 53) (hl.r (k := 45) (f := 12) (by decide) (by decide)) ?_
  refine Z.iload_n B dX12_says_160 (x := nI i8) rfl ?_
  refine Z.iald (σ := σ) B dX12_says_161 (n := 8) (hl.n (k := 53) (by decide)) (hl.k (k := 53) (by decide)) (hl.l (k := 53) (by decide)) (by decide) (j := i8) rfl (by omega) (v := nI pa) hw.2.1 ?_
  refine Z.iret B Rt dX12_says_162 (ty := .int) rfl rfl (by decide) (by decide) ?_
  exact ⟨rfl, rfl⟩

theorem t_M_says_0_6_1 {σ : zSt} (hl : Lay σ) {n a y : Nat} (H : zMd σ n a y) {od : Nat → Nat} (ho : zMo σ a od) {pos : Nat → Nat} (hpo : zPo a od pos) {s : Nat} (hs : s < 8) {i8 : Nat} (hh : zMa σ s i8) {pa : Nat} (hi : i8 < y) (hw : zMy σ i8 6 pa) (hg : zX σ 45 28 = (-1))  : Dt mX12_says [.ref 45, .int (nI s), .int (nI 1)] σ (some (.int (-2))) (zuX σ 46 (upd (zX σ 46) 2 (zX σ 46 2 + nI 1))) := by
  obtain ⟨-, hn, hn8, ha, ha4, hy, hy8⟩ := id H
  have hi88 := hh.2.2
  have hpa := hw.2.2.2.1
  refine Dt.of (by decide) (Nat.le_of_ble_eq_true rfl) fun κ B Rt => ?_
  show Z κ 0 0 σ 0 [(0, .ref 45), (1, .int (nI s)), (2, .int (nI 1))] []
  refine Z.aload_n B dX12_says_0 (v := .ref 45) rfl rfl ?_
  refine Z.iload_n B dX12_says_1 (x := nI s) rfl ?_
  refine Z.callVI (σ := σ) B (M' := mX12_isShelf) (as := [.int (nI s)]) (st := []) (v := .int (nI 1)) dX12_says_2 wX12_isShelf iX12_isShelf sX12_isShelf kX12_90 (hl.n (k := 45) (by decide)) (hl.k (k := 45) (by decide)) (by decide) rfl rfl (t_X12_isShelf_in (σ := σ) hs) rfl rfl (by decide) (by decide) (Nat.le_of_ble_eq_true rfl) (by decide) (by decide) ?_
  refine Z.if_eqN B dX12_says_5 (tgt := 18) rfl (by omega) (fun h5 => by exfalso; first | omega | contradiction | simp_all) (fun h5 => ?_)
  refine Z.iload_n B dX12_says_8 (x := nI 1) rfl ?_
  refine Z.if_ltN B dX12_says_9 (tgt := 18) rfl (by omega) ?_
  refine Z.iload_n B dX12_says_12 (x := nI 1) rfl ?_
  refine Z.bipush B dX12_says_13 (v := nI 6) rfl ?_
  refine Z.icmp_leN B dX12_says_15 (tgt := 24) rfl (by omega) (by omega) (fun h15 => ?_) (fun h15 => by exfalso; first | omega | contradiction | simp_all)
  refine Z.aload_n B dX12_says_24 (v := .ref 45) rfl rfl ?_
  refine Z.getR (σ := σ) B fX12_41_12 dX12_says_25 (hl.n (k := 45) (by decide)) (hl.k (k := 45) (by decide)) (by decide) (j := 54) (hl.r (k := 45) (f := 13) (by decide) (by decide)) ?_
  refine Z.iload_n B dX12_says_28 (x := nI s) rfl ?_
  refine Z.iald (σ := σ) B dX12_says_29 (n := 8) (hl.n (k := 54) (by decide)) (hl.k (k := 54) (by decide)) (hl.l (k := 54) (by decide)) (by decide) (j := s) rfl (by omega) (v := nI 2) hh.1 ?_
  refine Z.iconst B dX12_says_30 (v := nI 1) rfl ?_
  refine Z.icmp_neN B dX12_says_31 (tgt := 41) rfl (by omega) (by omega) (fun h31 => ?_) (fun h31 => by exfalso; first | omega | contradiction | simp_all)
  refine Z.aload_n B dX12_says_41 (v := .ref 45) rfl rfl ?_
  refine Z.getR (σ := σ) B fX12_41_12 dX12_says_42 (hl.n (k := 45) (by decide)) (hl.k (k := 45) (by decide)) (by decide) (j := 54) (hl.r (k := 45) (f := 13) (by decide) (by decide)) ?_
  refine Z.iload_n B dX12_says_45 (x := nI s) rfl ?_
  refine Z.iald (σ := σ) B dX12_says_46 (n := 8) (hl.n (k := 54) (by decide)) (hl.k (k := 54) (by decide)) (hl.l (k := 54) (by decide)) (by decide) (j := s) rfl (by omega) (v := nI 2) hh.1 ?_
  refine Z.if_neN B dX12_says_47 (tgt := 57) rfl (by omega) (fun h47 => ?_) (fun h47 => by exfalso; first | omega | contradiction | simp_all)
  refine Z.aload_n B dX12_says_57 (v := .ref 45) rfl rfl ?_
  refine Z.getR (σ := σ) B fX12_50_12 dX12_says_58 (hl.n (k := 45) (by decide)) (hl.k (k := 45) (by decide)) (by decide) (j := 57) (hl.r (k := 45) (f := 16) (by decide) (by decide)) ?_
  refine Z.iload_n B dX12_says_61 (x := nI s) rfl ?_
  refine Z.iald (σ := σ) B dX12_says_62 (n := 8) (hl.n (k := 57) (by decide)) (hl.k (k := 57) (by decide)) (hl.l (k := 57) (by decide)) (by decide) (j := s) rfl (by omega) (v := nI i8) hh.2.1 ?_
  refine Z.istore_n B dX12_says_63 (by decide) (L' := [(0, .ref 45), (1, .int (nI s)), (2, .int (nI 1)), (3, .int (nI i8))]) rfl ?_
  refine Z.aload_n B dX12_says_64 (v := .ref 45) rfl rfl ?_
  refine Z.getR (σ := σ) B fX12_35_12 dX12_says_65 (hl.n (k := 45) (by decide)) (hl.k (k := 45) (by decide)) (by decide) (j := 52) (hl.r (k := 45) (f := 11) (by decide) (by decide)) ?_
  refine Z.iload_n B dX12_says_68 (x := nI i8) rfl ?_
  refine Z.iald (σ := σ) B dX12_says_69 (n := 8) (hl.n (k := 52) (by decide)) (hl.k (k := 52) (by decide)) (hl.l (k := 52) (by decide)) (by decide) (j := i8) rfl (by omega) (v := nI 6) hw.1 ?_
  refine Z.istore B dX12_says_70 (by decide) (L' := [(0, .ref 45), (1, .int (nI s)), (2, .int (nI 1)), (3, .int (nI i8)), (4, .int (nI 6))]) rfl ?_
  refine Z.iload_n B dX12_says_72 (x := nI 1) rfl ?_
  refine Z.if_eqN B dX12_says_73 (tgt := 112) rfl (by omega) (fun h73 => by exfalso; first | omega | contradiction | simp_all) (fun h73 => ?_)
  refine Z.iload_n B dX12_says_76 (x := nI 1) rfl ?_
  refine Z.iload B dX12_says_77 (x := nI 6) rfl ?_
  refine Z.icmp_eqN B dX12_says_79 (tgt := 112) rfl (by omega) (by omega) (fun h79 => by exfalso; first | omega | contradiction | simp_all) (fun h79 => ?_)
  refine Z.iload_n B dX12_says_82 (x := nI 1) rfl ?_
  refine Z.iconst B dX12_says_83 (v := nI 1) rfl ?_
  refine Z.icmp_neN B dX12_says_84 (tgt := 93) rfl (by omega) (by omega) (fun h84 => by exfalso; first | omega | contradiction | simp_all) (fun h84 => ?_)
  refine Z.iload B dX12_says_87 (x := nI 6) rfl ?_
  refine Z.iconst B dX12_says_89 (v := nI 2) rfl ?_
  refine Z.icmp_eqN B dX12_says_90 (tgt := 112) rfl (by omega) (by omega) (fun h90 => by exfalso; first | omega | contradiction | simp_all) (fun h90 => ?_)
  refine Z.iload_n B dX12_says_93 (x := nI 1) rfl ?_
  refine Z.iconst B dX12_says_94 (v := nI 5) rfl ?_
  refine Z.icmp_neN B dX12_says_95 (tgt := 105) rfl (by omega) (by omega) (fun h95 => ?_) (fun h95 => by exfalso; first | omega | contradiction | simp_all)
  refine Z.aload_n B dX12_says_105 (v := .ref 45) rfl rfl ?_
  refine Z.bipush B dX12_says_106 (v := (-2)) rfl ?_
  refine Z.callVI (σ := σ) B (M' := mX12_no) (as := [.int (-2)]) (st := []) (v := .int (-2)) dX12_says_108 wX12_no iX12_no sX12_no kX12_94 (hl.n (k := 45) (by decide)) (hl.k (k := 45) (by decide)) (by decide) rfl rfl (t_X12_no_2 (σ := σ) hl) rfl rfl (by decide) (by decide) (Nat.le_of_ble_eq_true rfl) (by decide) (by decide) ?_
  refine Z.eqσ (τ := (zuX σ 46 (upd (zX σ 46) 2 (zX σ 46 2 + nI 1)))) rfl ?_
  refine Z.iret B Rt dX12_says_111 (ty := .int) rfl rfl (by decide) (by decide) ?_
  exact ⟨rfl, rfl⟩

theorem t_M_says_0_6_2 {σ : zSt} (hl : Lay σ) {n a y : Nat} (H : zMd σ n a y) {od : Nat → Nat} (ho : zMo σ a od) {pos : Nat → Nat} (hpo : zPo a od pos) {s : Nat} (hs : s < 8) {i8 : Nat} (hh : zMa σ s i8) {pa : Nat} (hi : i8 < y) (hw : zMy σ i8 6 pa) (hg : zX σ 45 28 = (-1))  : Dt mX12_says [.ref 45, .int (nI s), .int (nI 2)] σ (some (.int (-2))) (zuX σ 46 (upd (zX σ 46) 2 (zX σ 46 2 + nI 1))) := by
  obtain ⟨-, hn, hn8, ha, ha4, hy, hy8⟩ := id H
  have hi88 := hh.2.2
  have hpa := hw.2.2.2.1
  refine Dt.of (by decide) (Nat.le_of_ble_eq_true rfl) fun κ B Rt => ?_
  show Z κ 0 0 σ 0 [(0, .ref 45), (1, .int (nI s)), (2, .int (nI 2))] []
  refine Z.aload_n B dX12_says_0 (v := .ref 45) rfl rfl ?_
  refine Z.iload_n B dX12_says_1 (x := nI s) rfl ?_
  refine Z.callVI (σ := σ) B (M' := mX12_isShelf) (as := [.int (nI s)]) (st := []) (v := .int (nI 1)) dX12_says_2 wX12_isShelf iX12_isShelf sX12_isShelf kX12_90 (hl.n (k := 45) (by decide)) (hl.k (k := 45) (by decide)) (by decide) rfl rfl (t_X12_isShelf_in (σ := σ) hs) rfl rfl (by decide) (by decide) (Nat.le_of_ble_eq_true rfl) (by decide) (by decide) ?_
  refine Z.if_eqN B dX12_says_5 (tgt := 18) rfl (by omega) (fun h5 => by exfalso; first | omega | contradiction | simp_all) (fun h5 => ?_)
  refine Z.iload_n B dX12_says_8 (x := nI 2) rfl ?_
  refine Z.if_ltN B dX12_says_9 (tgt := 18) rfl (by omega) ?_
  refine Z.iload_n B dX12_says_12 (x := nI 2) rfl ?_
  refine Z.bipush B dX12_says_13 (v := nI 6) rfl ?_
  refine Z.icmp_leN B dX12_says_15 (tgt := 24) rfl (by omega) (by omega) (fun h15 => ?_) (fun h15 => by exfalso; first | omega | contradiction | simp_all)
  refine Z.aload_n B dX12_says_24 (v := .ref 45) rfl rfl ?_
  refine Z.getR (σ := σ) B fX12_41_12 dX12_says_25 (hl.n (k := 45) (by decide)) (hl.k (k := 45) (by decide)) (by decide) (j := 54) (hl.r (k := 45) (f := 13) (by decide) (by decide)) ?_
  refine Z.iload_n B dX12_says_28 (x := nI s) rfl ?_
  refine Z.iald (σ := σ) B dX12_says_29 (n := 8) (hl.n (k := 54) (by decide)) (hl.k (k := 54) (by decide)) (hl.l (k := 54) (by decide)) (by decide) (j := s) rfl (by omega) (v := nI 2) hh.1 ?_
  refine Z.iconst B dX12_says_30 (v := nI 1) rfl ?_
  refine Z.icmp_neN B dX12_says_31 (tgt := 41) rfl (by omega) (by omega) (fun h31 => ?_) (fun h31 => by exfalso; first | omega | contradiction | simp_all)
  refine Z.aload_n B dX12_says_41 (v := .ref 45) rfl rfl ?_
  refine Z.getR (σ := σ) B fX12_41_12 dX12_says_42 (hl.n (k := 45) (by decide)) (hl.k (k := 45) (by decide)) (by decide) (j := 54) (hl.r (k := 45) (f := 13) (by decide) (by decide)) ?_
  refine Z.iload_n B dX12_says_45 (x := nI s) rfl ?_
  refine Z.iald (σ := σ) B dX12_says_46 (n := 8) (hl.n (k := 54) (by decide)) (hl.k (k := 54) (by decide)) (hl.l (k := 54) (by decide)) (by decide) (j := s) rfl (by omega) (v := nI 2) hh.1 ?_
  refine Z.if_neN B dX12_says_47 (tgt := 57) rfl (by omega) (fun h47 => ?_) (fun h47 => by exfalso; first | omega | contradiction | simp_all)
  refine Z.aload_n B dX12_says_57 (v := .ref 45) rfl rfl ?_
  refine Z.getR (σ := σ) B fX12_50_12 dX12_says_58 (hl.n (k := 45) (by decide)) (hl.k (k := 45) (by decide)) (by decide) (j := 57) (hl.r (k := 45) (f := 16) (by decide) (by decide)) ?_
  refine Z.iload_n B dX12_says_61 (x := nI s) rfl ?_
  refine Z.iald (σ := σ) B dX12_says_62 (n := 8) (hl.n (k := 57) (by decide)) (hl.k (k := 57) (by decide)) (hl.l (k := 57) (by decide)) (by decide) (j := s) rfl (by omega) (v := nI i8) hh.2.1 ?_
  refine Z.istore_n B dX12_says_63 (by decide) (L' := [(0, .ref 45), (1, .int (nI s)), (2, .int (nI 2)), (3, .int (nI i8))]) rfl ?_
  refine Z.aload_n B dX12_says_64 (v := .ref 45) rfl rfl ?_
  refine Z.getR (σ := σ) B fX12_35_12 dX12_says_65 (hl.n (k := 45) (by decide)) (hl.k (k := 45) (by decide)) (by decide) (j := 52) (hl.r (k := 45) (f := 11) (by decide) (by decide)) ?_
  refine Z.iload_n B dX12_says_68 (x := nI i8) rfl ?_
  refine Z.iald (σ := σ) B dX12_says_69 (n := 8) (hl.n (k := 52) (by decide)) (hl.k (k := 52) (by decide)) (hl.l (k := 52) (by decide)) (by decide) (j := i8) rfl (by omega) (v := nI 6) hw.1 ?_
  refine Z.istore B dX12_says_70 (by decide) (L' := [(0, .ref 45), (1, .int (nI s)), (2, .int (nI 2)), (3, .int (nI i8)), (4, .int (nI 6))]) rfl ?_
  refine Z.iload_n B dX12_says_72 (x := nI 2) rfl ?_
  refine Z.if_eqN B dX12_says_73 (tgt := 112) rfl (by omega) (fun h73 => by exfalso; first | omega | contradiction | simp_all) (fun h73 => ?_)
  refine Z.iload_n B dX12_says_76 (x := nI 2) rfl ?_
  refine Z.iload B dX12_says_77 (x := nI 6) rfl ?_
  refine Z.icmp_eqN B dX12_says_79 (tgt := 112) rfl (by omega) (by omega) (fun h79 => by exfalso; first | omega | contradiction | simp_all) (fun h79 => ?_)
  refine Z.iload_n B dX12_says_82 (x := nI 2) rfl ?_
  refine Z.iconst B dX12_says_83 (v := nI 1) rfl ?_
  refine Z.icmp_neN B dX12_says_84 (tgt := 93) rfl (by omega) (by omega) (fun h84 => ?_) (fun h84 => by exfalso; first | omega | contradiction | simp_all)
  refine Z.iload_n B dX12_says_93 (x := nI 2) rfl ?_
  refine Z.iconst B dX12_says_94 (v := nI 5) rfl ?_
  refine Z.icmp_neN B dX12_says_95 (tgt := 105) rfl (by omega) (by omega) (fun h95 => ?_) (fun h95 => by exfalso; first | omega | contradiction | simp_all)
  refine Z.aload_n B dX12_says_105 (v := .ref 45) rfl rfl ?_
  refine Z.bipush B dX12_says_106 (v := (-2)) rfl ?_
  refine Z.callVI (σ := σ) B (M' := mX12_no) (as := [.int (-2)]) (st := []) (v := .int (-2)) dX12_says_108 wX12_no iX12_no sX12_no kX12_94 (hl.n (k := 45) (by decide)) (hl.k (k := 45) (by decide)) (by decide) rfl rfl (t_X12_no_2 (σ := σ) hl) rfl rfl (by decide) (by decide) (Nat.le_of_ble_eq_true rfl) (by decide) (by decide) ?_
  refine Z.eqσ (τ := (zuX σ 46 (upd (zX σ 46) 2 (zX σ 46 2 + nI 1)))) rfl ?_
  refine Z.iret B Rt dX12_says_111 (ty := .int) rfl rfl (by decide) (by decide) ?_
  exact ⟨rfl, rfl⟩

theorem t_M_says_0_6_3 {σ : zSt} (hl : Lay σ) {n a y : Nat} (H : zMd σ n a y) {od : Nat → Nat} (ho : zMo σ a od) {pos : Nat → Nat} (hpo : zPo a od pos) {s : Nat} (hs : s < 8) {i8 : Nat} (hh : zMa σ s i8) {pa : Nat} (hi : i8 < y) (hw : zMy σ i8 6 pa) (hg : zX σ 45 28 = (-1))  : Dt mX12_says [.ref 45, .int (nI s), .int (nI 3)] σ (some (.int (-2))) (zuX σ 46 (upd (zX σ 46) 2 (zX σ 46 2 + nI 1))) := by
  obtain ⟨-, hn, hn8, ha, ha4, hy, hy8⟩ := id H
  have hi88 := hh.2.2
  have hpa := hw.2.2.2.1
  refine Dt.of (by decide) (Nat.le_of_ble_eq_true rfl) fun κ B Rt => ?_
  show Z κ 0 0 σ 0 [(0, .ref 45), (1, .int (nI s)), (2, .int (nI 3))] []
  refine Z.aload_n B dX12_says_0 (v := .ref 45) rfl rfl ?_
  refine Z.iload_n B dX12_says_1 (x := nI s) rfl ?_
  refine Z.callVI (σ := σ) B (M' := mX12_isShelf) (as := [.int (nI s)]) (st := []) (v := .int (nI 1)) dX12_says_2 wX12_isShelf iX12_isShelf sX12_isShelf kX12_90 (hl.n (k := 45) (by decide)) (hl.k (k := 45) (by decide)) (by decide) rfl rfl (t_X12_isShelf_in (σ := σ) hs) rfl rfl (by decide) (by decide) (Nat.le_of_ble_eq_true rfl) (by decide) (by decide) ?_
  refine Z.if_eqN B dX12_says_5 (tgt := 18) rfl (by omega) (fun h5 => by exfalso; first | omega | contradiction | simp_all) (fun h5 => ?_)
  refine Z.iload_n B dX12_says_8 (x := nI 3) rfl ?_
  refine Z.if_ltN B dX12_says_9 (tgt := 18) rfl (by omega) ?_
  refine Z.iload_n B dX12_says_12 (x := nI 3) rfl ?_
  refine Z.bipush B dX12_says_13 (v := nI 6) rfl ?_
  refine Z.icmp_leN B dX12_says_15 (tgt := 24) rfl (by omega) (by omega) (fun h15 => ?_) (fun h15 => by exfalso; first | omega | contradiction | simp_all)
  refine Z.aload_n B dX12_says_24 (v := .ref 45) rfl rfl ?_
  refine Z.getR (σ := σ) B fX12_41_12 dX12_says_25 (hl.n (k := 45) (by decide)) (hl.k (k := 45) (by decide)) (by decide) (j := 54) (hl.r (k := 45) (f := 13) (by decide) (by decide)) ?_
  refine Z.iload_n B dX12_says_28 (x := nI s) rfl ?_
  refine Z.iald (σ := σ) B dX12_says_29 (n := 8) (hl.n (k := 54) (by decide)) (hl.k (k := 54) (by decide)) (hl.l (k := 54) (by decide)) (by decide) (j := s) rfl (by omega) (v := nI 2) hh.1 ?_
  refine Z.iconst B dX12_says_30 (v := nI 1) rfl ?_
  refine Z.icmp_neN B dX12_says_31 (tgt := 41) rfl (by omega) (by omega) (fun h31 => ?_) (fun h31 => by exfalso; first | omega | contradiction | simp_all)
  refine Z.aload_n B dX12_says_41 (v := .ref 45) rfl rfl ?_
  refine Z.getR (σ := σ) B fX12_41_12 dX12_says_42 (hl.n (k := 45) (by decide)) (hl.k (k := 45) (by decide)) (by decide) (j := 54) (hl.r (k := 45) (f := 13) (by decide) (by decide)) ?_
  refine Z.iload_n B dX12_says_45 (x := nI s) rfl ?_
  refine Z.iald (σ := σ) B dX12_says_46 (n := 8) (hl.n (k := 54) (by decide)) (hl.k (k := 54) (by decide)) (hl.l (k := 54) (by decide)) (by decide) (j := s) rfl (by omega) (v := nI 2) hh.1 ?_
  refine Z.if_neN B dX12_says_47 (tgt := 57) rfl (by omega) (fun h47 => ?_) (fun h47 => by exfalso; first | omega | contradiction | simp_all)
  refine Z.aload_n B dX12_says_57 (v := .ref 45) rfl rfl ?_
  refine Z.getR (σ := σ) B fX12_50_12 dX12_says_58 (hl.n (k := 45) (by decide)) (hl.k (k := 45) (by decide)) (by decide) (j := 57) (hl.r (k := 45) (f := 16) (by decide) (by decide)) ?_
  refine Z.iload_n B dX12_says_61 (x := nI s) rfl ?_
  refine Z.iald (σ := σ) B dX12_says_62 (n := 8) (hl.n (k := 57) (by decide)) (hl.k (k := 57) (by decide)) (hl.l (k := 57) (by decide)) (by decide) (j := s) rfl (by omega) (v := nI i8) hh.2.1 ?_
  refine Z.istore_n B dX12_says_63 (by decide) (L' := [(0, .ref 45), (1, .int (nI s)), (2, .int (nI 3)), (3, .int (nI i8))]) rfl ?_
  refine Z.aload_n B dX12_says_64 (v := .ref 45) rfl rfl ?_
  refine Z.getR (σ := σ) B fX12_35_12 dX12_says_65 (hl.n (k := 45) (by decide)) (hl.k (k := 45) (by decide)) (by decide) (j := 52) (hl.r (k := 45) (f := 11) (by decide) (by decide)) ?_
  refine Z.iload_n B dX12_says_68 (x := nI i8) rfl ?_
  refine Z.iald (σ := σ) B dX12_says_69 (n := 8) (hl.n (k := 52) (by decide)) (hl.k (k := 52) (by decide)) (hl.l (k := 52) (by decide)) (by decide) (j := i8) rfl (by omega) (v := nI 6) hw.1 ?_
  refine Z.istore B dX12_says_70 (by decide) (L' := [(0, .ref 45), (1, .int (nI s)), (2, .int (nI 3)), (3, .int (nI i8)), (4, .int (nI 6))]) rfl ?_
  refine Z.iload_n B dX12_says_72 (x := nI 3) rfl ?_
  refine Z.if_eqN B dX12_says_73 (tgt := 112) rfl (by omega) (fun h73 => by exfalso; first | omega | contradiction | simp_all) (fun h73 => ?_)
  refine Z.iload_n B dX12_says_76 (x := nI 3) rfl ?_
  refine Z.iload B dX12_says_77 (x := nI 6) rfl ?_
  refine Z.icmp_eqN B dX12_says_79 (tgt := 112) rfl (by omega) (by omega) (fun h79 => by exfalso; first | omega | contradiction | simp_all) (fun h79 => ?_)
  refine Z.iload_n B dX12_says_82 (x := nI 3) rfl ?_
  refine Z.iconst B dX12_says_83 (v := nI 1) rfl ?_
  refine Z.icmp_neN B dX12_says_84 (tgt := 93) rfl (by omega) (by omega) (fun h84 => ?_) (fun h84 => by exfalso; first | omega | contradiction | simp_all)
  refine Z.iload_n B dX12_says_93 (x := nI 3) rfl ?_
  refine Z.iconst B dX12_says_94 (v := nI 5) rfl ?_
  refine Z.icmp_neN B dX12_says_95 (tgt := 105) rfl (by omega) (by omega) (fun h95 => ?_) (fun h95 => by exfalso; first | omega | contradiction | simp_all)
  refine Z.aload_n B dX12_says_105 (v := .ref 45) rfl rfl ?_
  refine Z.bipush B dX12_says_106 (v := (-2)) rfl ?_
  refine Z.callVI (σ := σ) B (M' := mX12_no) (as := [.int (-2)]) (st := []) (v := .int (-2)) dX12_says_108 wX12_no iX12_no sX12_no kX12_94 (hl.n (k := 45) (by decide)) (hl.k (k := 45) (by decide)) (by decide) rfl rfl (t_X12_no_2 (σ := σ) hl) rfl rfl (by decide) (by decide) (Nat.le_of_ble_eq_true rfl) (by decide) (by decide) ?_
  refine Z.eqσ (τ := (zuX σ 46 (upd (zX σ 46) 2 (zX σ 46 2 + nI 1)))) rfl ?_
  refine Z.iret B Rt dX12_says_111 (ty := .int) rfl rfl (by decide) (by decide) ?_
  exact ⟨rfl, rfl⟩

theorem t_M_says_0_6_4 {σ : zSt} (hl : Lay σ) {n a y : Nat} (H : zMd σ n a y) {od : Nat → Nat} (ho : zMo σ a od) {pos : Nat → Nat} (hpo : zPo a od pos) {s : Nat} (hs : s < 8) {i8 : Nat} (hh : zMa σ s i8) {pa : Nat} (hi : i8 < y) (hw : zMy σ i8 6 pa) (hg : zX σ 45 28 = (-1))  : Dt mX12_says [.ref 45, .int (nI s), .int (nI 4)] σ (some (.int (-2))) (zuX σ 46 (upd (zX σ 46) 2 (zX σ 46 2 + nI 1))) := by
  obtain ⟨-, hn, hn8, ha, ha4, hy, hy8⟩ := id H
  have hi88 := hh.2.2
  have hpa := hw.2.2.2.1
  refine Dt.of (by decide) (Nat.le_of_ble_eq_true rfl) fun κ B Rt => ?_
  show Z κ 0 0 σ 0 [(0, .ref 45), (1, .int (nI s)), (2, .int (nI 4))] []
  refine Z.aload_n B dX12_says_0 (v := .ref 45) rfl rfl ?_
  refine Z.iload_n B dX12_says_1 (x := nI s) rfl ?_
  refine Z.callVI (σ := σ) B (M' := mX12_isShelf) (as := [.int (nI s)]) (st := []) (v := .int (nI 1)) dX12_says_2 wX12_isShelf iX12_isShelf sX12_isShelf kX12_90 (hl.n (k := 45) (by decide)) (hl.k (k := 45) (by decide)) (by decide) rfl rfl (t_X12_isShelf_in (σ := σ) hs) rfl rfl (by decide) (by decide) (Nat.le_of_ble_eq_true rfl) (by decide) (by decide) ?_
  refine Z.if_eqN B dX12_says_5 (tgt := 18) rfl (by omega) (fun h5 => by exfalso; first | omega | contradiction | simp_all) (fun h5 => ?_)
  refine Z.iload_n B dX12_says_8 (x := nI 4) rfl ?_
  refine Z.if_ltN B dX12_says_9 (tgt := 18) rfl (by omega) ?_
  refine Z.iload_n B dX12_says_12 (x := nI 4) rfl ?_
  refine Z.bipush B dX12_says_13 (v := nI 6) rfl ?_
  refine Z.icmp_leN B dX12_says_15 (tgt := 24) rfl (by omega) (by omega) (fun h15 => ?_) (fun h15 => by exfalso; first | omega | contradiction | simp_all)
  refine Z.aload_n B dX12_says_24 (v := .ref 45) rfl rfl ?_
  refine Z.getR (σ := σ) B fX12_41_12 dX12_says_25 (hl.n (k := 45) (by decide)) (hl.k (k := 45) (by decide)) (by decide) (j := 54) (hl.r (k := 45) (f := 13) (by decide) (by decide)) ?_
  refine Z.iload_n B dX12_says_28 (x := nI s) rfl ?_
  refine Z.iald (σ := σ) B dX12_says_29 (n := 8) (hl.n (k := 54) (by decide)) (hl.k (k := 54) (by decide)) (hl.l (k := 54) (by decide)) (by decide) (j := s) rfl (by omega) (v := nI 2) hh.1 ?_
  refine Z.iconst B dX12_says_30 (v := nI 1) rfl ?_
  refine Z.icmp_neN B dX12_says_31 (tgt := 41) rfl (by omega) (by omega) (fun h31 => ?_) (fun h31 => by exfalso; first | omega | contradiction | simp_all)
  refine Z.aload_n B dX12_says_41 (v := .ref 45) rfl rfl ?_
  refine Z.getR (σ := σ) B fX12_41_12 dX12_says_42 (hl.n (k := 45) (by decide)) (hl.k (k := 45) (by decide)) (by decide) (j := 54) (hl.r (k := 45) (f := 13) (by decide) (by decide)) ?_
  refine Z.iload_n B dX12_says_45 (x := nI s) rfl ?_
  refine Z.iald (σ := σ) B dX12_says_46 (n := 8) (hl.n (k := 54) (by decide)) (hl.k (k := 54) (by decide)) (hl.l (k := 54) (by decide)) (by decide) (j := s) rfl (by omega) (v := nI 2) hh.1 ?_
  refine Z.if_neN B dX12_says_47 (tgt := 57) rfl (by omega) (fun h47 => ?_) (fun h47 => by exfalso; first | omega | contradiction | simp_all)
  refine Z.aload_n B dX12_says_57 (v := .ref 45) rfl rfl ?_
  refine Z.getR (σ := σ) B fX12_50_12 dX12_says_58 (hl.n (k := 45) (by decide)) (hl.k (k := 45) (by decide)) (by decide) (j := 57) (hl.r (k := 45) (f := 16) (by decide) (by decide)) ?_
  refine Z.iload_n B dX12_says_61 (x := nI s) rfl ?_
  refine Z.iald (σ := σ) B dX12_says_62 (n := 8) (hl.n (k := 57) (by decide)) (hl.k (k := 57) (by decide)) (hl.l (k := 57) (by decide)) (by decide) (j := s) rfl (by omega) (v := nI i8) hh.2.1 ?_
  refine Z.istore_n B dX12_says_63 (by decide) (L' := [(0, .ref 45), (1, .int (nI s)), (2, .int (nI 4)), (3, .int (nI i8))]) rfl ?_
  refine Z.aload_n B dX12_says_64 (v := .ref 45) rfl rfl ?_
  refine Z.getR (σ := σ) B fX12_35_12 dX12_says_65 (hl.n (k := 45) (by decide)) (hl.k (k := 45) (by decide)) (by decide) (j := 52) (hl.r (k := 45) (f := 11) (by decide) (by decide)) ?_
  refine Z.iload_n B dX12_says_68 (x := nI i8) rfl ?_
  refine Z.iald (σ := σ) B dX12_says_69 (n := 8) (hl.n (k := 52) (by decide)) (hl.k (k := 52) (by decide)) (hl.l (k := 52) (by decide)) (by decide) (j := i8) rfl (by omega) (v := nI 6) hw.1 ?_
  refine Z.istore B dX12_says_70 (by decide) (L' := [(0, .ref 45), (1, .int (nI s)), (2, .int (nI 4)), (3, .int (nI i8)), (4, .int (nI 6))]) rfl ?_
  refine Z.iload_n B dX12_says_72 (x := nI 4) rfl ?_
  refine Z.if_eqN B dX12_says_73 (tgt := 112) rfl (by omega) (fun h73 => by exfalso; first | omega | contradiction | simp_all) (fun h73 => ?_)
  refine Z.iload_n B dX12_says_76 (x := nI 4) rfl ?_
  refine Z.iload B dX12_says_77 (x := nI 6) rfl ?_
  refine Z.icmp_eqN B dX12_says_79 (tgt := 112) rfl (by omega) (by omega) (fun h79 => by exfalso; first | omega | contradiction | simp_all) (fun h79 => ?_)
  refine Z.iload_n B dX12_says_82 (x := nI 4) rfl ?_
  refine Z.iconst B dX12_says_83 (v := nI 1) rfl ?_
  refine Z.icmp_neN B dX12_says_84 (tgt := 93) rfl (by omega) (by omega) (fun h84 => ?_) (fun h84 => by exfalso; first | omega | contradiction | simp_all)
  refine Z.iload_n B dX12_says_93 (x := nI 4) rfl ?_
  refine Z.iconst B dX12_says_94 (v := nI 5) rfl ?_
  refine Z.icmp_neN B dX12_says_95 (tgt := 105) rfl (by omega) (by omega) (fun h95 => ?_) (fun h95 => by exfalso; first | omega | contradiction | simp_all)
  refine Z.aload_n B dX12_says_105 (v := .ref 45) rfl rfl ?_
  refine Z.bipush B dX12_says_106 (v := (-2)) rfl ?_
  refine Z.callVI (σ := σ) B (M' := mX12_no) (as := [.int (-2)]) (st := []) (v := .int (-2)) dX12_says_108 wX12_no iX12_no sX12_no kX12_94 (hl.n (k := 45) (by decide)) (hl.k (k := 45) (by decide)) (by decide) rfl rfl (t_X12_no_2 (σ := σ) hl) rfl rfl (by decide) (by decide) (Nat.le_of_ble_eq_true rfl) (by decide) (by decide) ?_
  refine Z.eqσ (τ := (zuX σ 46 (upd (zX σ 46) 2 (zX σ 46 2 + nI 1)))) rfl ?_
  refine Z.iret B Rt dX12_says_111 (ty := .int) rfl rfl (by decide) (by decide) ?_
  exact ⟨rfl, rfl⟩

theorem t_M_says_0_6_5 {σ : zSt} (hl : Lay σ) {n a y : Nat} (H : zMd σ n a y) {od : Nat → Nat} (ho : zMo σ a od) {pos : Nat → Nat} (hpo : zPo a od pos) {s : Nat} (hs : s < 8) {i8 : Nat} (hh : zMa σ s i8) {pa : Nat} (hi : i8 < y) (hw : zMy σ i8 6 pa) (hg : zX σ 45 28 = (-1))  : Dt mX12_says [.ref 45, .int (nI s), .int (nI 5)] σ (some (.int (gI (fun c => cn (zX σ 47) c 5) n))) σ := by
  obtain ⟨-, hn, hn8, ha, ha4, hy, hy8⟩ := id H
  have hi88 := hh.2.2
  have hpa := hw.2.2.2.1
  refine Dt.of (by decide) (Nat.le_of_ble_eq_true rfl) fun κ B Rt => ?_
  show Z κ 0 0 σ 0 [(0, .ref 45), (1, .int (nI s)), (2, .int (nI 5))] []
  refine Z.aload_n B dX12_says_0 (v := .ref 45) rfl rfl ?_
  refine Z.iload_n B dX12_says_1 (x := nI s) rfl ?_
  refine Z.callVI (σ := σ) B (M' := mX12_isShelf) (as := [.int (nI s)]) (st := []) (v := .int (nI 1)) dX12_says_2 wX12_isShelf iX12_isShelf sX12_isShelf kX12_90 (hl.n (k := 45) (by decide)) (hl.k (k := 45) (by decide)) (by decide) rfl rfl (t_X12_isShelf_in (σ := σ) hs) rfl rfl (by decide) (by decide) (Nat.le_of_ble_eq_true rfl) (by decide) (by decide) ?_
  refine Z.if_eqN B dX12_says_5 (tgt := 18) rfl (by omega) (fun h5 => by exfalso; first | omega | contradiction | simp_all) (fun h5 => ?_)
  refine Z.iload_n B dX12_says_8 (x := nI 5) rfl ?_
  refine Z.if_ltN B dX12_says_9 (tgt := 18) rfl (by omega) ?_
  refine Z.iload_n B dX12_says_12 (x := nI 5) rfl ?_
  refine Z.bipush B dX12_says_13 (v := nI 6) rfl ?_
  refine Z.icmp_leN B dX12_says_15 (tgt := 24) rfl (by omega) (by omega) (fun h15 => ?_) (fun h15 => by exfalso; first | omega | contradiction | simp_all)
  refine Z.aload_n B dX12_says_24 (v := .ref 45) rfl rfl ?_
  refine Z.getR (σ := σ) B fX12_41_12 dX12_says_25 (hl.n (k := 45) (by decide)) (hl.k (k := 45) (by decide)) (by decide) (j := 54) (hl.r (k := 45) (f := 13) (by decide) (by decide)) ?_
  refine Z.iload_n B dX12_says_28 (x := nI s) rfl ?_
  refine Z.iald (σ := σ) B dX12_says_29 (n := 8) (hl.n (k := 54) (by decide)) (hl.k (k := 54) (by decide)) (hl.l (k := 54) (by decide)) (by decide) (j := s) rfl (by omega) (v := nI 2) hh.1 ?_
  refine Z.iconst B dX12_says_30 (v := nI 1) rfl ?_
  refine Z.icmp_neN B dX12_says_31 (tgt := 41) rfl (by omega) (by omega) (fun h31 => ?_) (fun h31 => by exfalso; first | omega | contradiction | simp_all)
  refine Z.aload_n B dX12_says_41 (v := .ref 45) rfl rfl ?_
  refine Z.getR (σ := σ) B fX12_41_12 dX12_says_42 (hl.n (k := 45) (by decide)) (hl.k (k := 45) (by decide)) (by decide) (j := 54) (hl.r (k := 45) (f := 13) (by decide) (by decide)) ?_
  refine Z.iload_n B dX12_says_45 (x := nI s) rfl ?_
  refine Z.iald (σ := σ) B dX12_says_46 (n := 8) (hl.n (k := 54) (by decide)) (hl.k (k := 54) (by decide)) (hl.l (k := 54) (by decide)) (by decide) (j := s) rfl (by omega) (v := nI 2) hh.1 ?_
  refine Z.if_neN B dX12_says_47 (tgt := 57) rfl (by omega) (fun h47 => ?_) (fun h47 => by exfalso; first | omega | contradiction | simp_all)
  refine Z.aload_n B dX12_says_57 (v := .ref 45) rfl rfl ?_
  refine Z.getR (σ := σ) B fX12_50_12 dX12_says_58 (hl.n (k := 45) (by decide)) (hl.k (k := 45) (by decide)) (by decide) (j := 57) (hl.r (k := 45) (f := 16) (by decide) (by decide)) ?_
  refine Z.iload_n B dX12_says_61 (x := nI s) rfl ?_
  refine Z.iald (σ := σ) B dX12_says_62 (n := 8) (hl.n (k := 57) (by decide)) (hl.k (k := 57) (by decide)) (hl.l (k := 57) (by decide)) (by decide) (j := s) rfl (by omega) (v := nI i8) hh.2.1 ?_
  refine Z.istore_n B dX12_says_63 (by decide) (L' := [(0, .ref 45), (1, .int (nI s)), (2, .int (nI 5)), (3, .int (nI i8))]) rfl ?_
  refine Z.aload_n B dX12_says_64 (v := .ref 45) rfl rfl ?_
  refine Z.getR (σ := σ) B fX12_35_12 dX12_says_65 (hl.n (k := 45) (by decide)) (hl.k (k := 45) (by decide)) (by decide) (j := 52) (hl.r (k := 45) (f := 11) (by decide) (by decide)) ?_
  refine Z.iload_n B dX12_says_68 (x := nI i8) rfl ?_
  refine Z.iald (σ := σ) B dX12_says_69 (n := 8) (hl.n (k := 52) (by decide)) (hl.k (k := 52) (by decide)) (hl.l (k := 52) (by decide)) (by decide) (j := i8) rfl (by omega) (v := nI 6) hw.1 ?_
  refine Z.istore B dX12_says_70 (by decide) (L' := [(0, .ref 45), (1, .int (nI s)), (2, .int (nI 5)), (3, .int (nI i8)), (4, .int (nI 6))]) rfl ?_
  refine Z.iload_n B dX12_says_72 (x := nI 5) rfl ?_
  refine Z.if_eqN B dX12_says_73 (tgt := 112) rfl (by omega) (fun h73 => by exfalso; first | omega | contradiction | simp_all) (fun h73 => ?_)
  refine Z.iload_n B dX12_says_76 (x := nI 5) rfl ?_
  refine Z.iload B dX12_says_77 (x := nI 6) rfl ?_
  refine Z.icmp_eqN B dX12_says_79 (tgt := 112) rfl (by omega) (by omega) (fun h79 => by exfalso; first | omega | contradiction | simp_all) (fun h79 => ?_)
  refine Z.iload_n B dX12_says_82 (x := nI 5) rfl ?_
  refine Z.iconst B dX12_says_83 (v := nI 1) rfl ?_
  refine Z.icmp_neN B dX12_says_84 (tgt := 93) rfl (by omega) (by omega) (fun h84 => ?_) (fun h84 => by exfalso; first | omega | contradiction | simp_all)
  refine Z.iload_n B dX12_says_93 (x := nI 5) rfl ?_
  refine Z.iconst B dX12_says_94 (v := nI 5) rfl ?_
  refine Z.icmp_neN B dX12_says_95 (tgt := 105) rfl (by omega) (by omega) (fun h95 => by exfalso; first | omega | contradiction | simp_all) (fun h95 => ?_)
  refine Z.iload B dX12_says_98 (x := nI 6) rfl ?_
  refine Z.bipush B dX12_says_100 (v := nI 6) rfl ?_
  refine Z.icmp_eqN B dX12_says_102 (tgt := 112) rfl (by omega) (by omega) (fun h102 => ?_) (fun h102 => by exfalso; first | omega | contradiction | simp_all)
  refine Z.iload_n B dX12_says_112 (x := nI 5) rfl ?_
  refine Z.tabIn B dX12_says_113 (by decide) (by decide) (off := 101) (by decide) (tgt := 214) rfl ?_
  refine Z.iconst B dX12_says_214 (v := (-1)) rfl ?_
  refine Z.istore B dX12_says_215 (by decide) (L' := [(0, .ref 45), (1, .int (nI s)), (2, .int (nI 5)), (3, .int (nI i8)), (4, .int (nI 6)), (5, .int (-1))]) rfl ?_
  refine Z.iconst B dX12_says_217 (v := nI 0) rfl ?_
  refine Z.istore B dX12_says_218 (by decide) (L' := [(0, .ref 45), (1, .int (nI s)), (2, .int (nI 5)), (3, .int (nI i8)), (4, .int (nI 6)), (5, .int (-1)), (6, .int (nI 0))]) rfl ?_
  have hloop220 : ∀ v : Nat, v ≤ n → Z κ 0 0 σ 220 [(0, .ref 45), (1, .int (nI s)), (2, .int (nI 5)), (3, .int (nI i8)), (4, .int (nI 6)), (5, .int (gI (fun c => cn (zX σ 47) c 5) v)), (6, .int (nI v))] [] := by
    refine z_loop (fun v => n - v) (fun v ih hv => ?_)
    refine Z.iload B dX12_says_220 (x := nI v) rfl ?_
    refine Z.aload_n B dX12_says_222 (v := .ref 45) rfl rfl ?_
    refine Z.getI (σ := σ) B fX12_81_12 dX12_says_223 (hl.n (k := 45) (by decide)) (hl.k (k := 45) (by decide)) (by decide) (v := nI n) hn ?_
    refine Z.icmp_geN B dX12_says_226 (tgt := 272) rfl (by omega) (by omega) (fun h226 => ?_) (fun h226 => ?_)
    · skip
      obtain rfl : n = v := by omega
      refine Z.iload B dX12_says_272 (x := gI (fun c => cn (zX σ 47) c 5) n) rfl ?_
      refine Z.iret B Rt dX12_says_274 (ty := .int) rfl rfl (by decide) (by decide) ?_
      exact ⟨rfl, rfl⟩
    · skip
      refine Z.iload B dX12_says_229 (x := gI (fun c => cn (zX σ 47) c 5) v) rfl ?_
      refine Z.iconst B dX12_says_231 (v := (-1)) rfl ?_
      refine Z.icmp_eq B dX12_says_232 (tgt := 262) rfl (fun h232 => ?_) (fun h232 => ?_)
      · skip
        refine Z.iload B dX12_says_262 (x := nI v) rfl ?_
        refine Z.istore B dX12_says_264 (by decide) (L' := [(0, .ref 45), (1, .int (nI s)), (2, .int (nI 5)), (3, .int (nI i8)), (4, .int (nI 6)), (5, .int (nI v)), (6, .int (nI v))]) rfl ?_
        refine Z.iincN B dX12_says_266 (by decide) (a := v) rfl (L' := [(0, .ref 45), (1, .int (nI s)), (2, .int (nI 5)), (3, .int (nI i8)), (4, .int (nI 6)), (5, .int (nI v)), (6, .int (nI (v + 1)))]) rfl ?_
        refine Z.goto B dX12_says_269 (tgt := 220) rfl ?_
        have e := ih (v + 1) (by omega) (by omega)
        first | (rw [(gI_take (Or.inl h232) (by omega)).1] at e; exact e) | (rw [(gI_take (Or.inr h259) (by omega)).1] at e; exact e) | (rw [(gI_keepn h232 h259).1, gI_pos hv0] at e; exact e)
      · skip
        have hv0 : 0 < v := Nat.pos_of_ne_zero fun e => h232 (by rw [e]; rfl)
        have hgm : gm (fun c => cn (zX σ 47) c 5) v = cn (zX σ 47) (ga (fun c => cn (zX σ 47) c 5) (v - 1)) 5 := by
          obtain ⟨v2, rfl⟩ : ∃ v2, v = v2 + 1 := ⟨v - 1, by omega⟩
          rfl
        have hgl := ga_lt (f := (fun c => cn (zX σ 47) c 5)) hv0
        rw [gI_pos hv0]
        refine Z.aload_n B dX12_says_235 (v := .ref 45) rfl rfl ?_
        refine Z.getR (σ := σ) B fX12_20_12 dX12_says_236 (hl.n (k := 45) (by decide)) (hl.k (k := 45) (by decide)) (by decide) (j := 47) (hl.r (k := 45) (f := 6) (by decide) (by decide)) ?_
        refine Z.bipush B dX12_says_239 (v := nI 6) rfl ?_
        refine Z.iload B dX12_says_241 (x := nI v) rfl ?_
        refine Z.imulNc B dX12_says_243 (a := 6) (b := v) ?_
        refine Z.iconst B dX12_says_244 (v := nI 5) rfl ?_
        refine Z.iaddN B dX12_says_245 (a := v * 6) (b := 5) ?_
        refine Z.iald (σ := σ) B dX12_says_246 (n := 48) (hl.n (k := 47) (by decide)) (hl.k (k := 47) (by decide)) (hl.l (k := 47) (by decide)) (by decide) (j := (v * 6) + 5) rfl (by omega) (v := (zX σ 47 ((v * 6) + 5))) rfl ?_
        refine Z.aload_n B dX12_says_247 (v := .ref 45) rfl rfl ?_
        refine Z.getR (σ := σ) B fX12_20_12 dX12_says_248 (hl.n (k := 45) (by decide)) (hl.k (k := 45) (by decide)) (by decide) (j := 47) (hl.r (k := 45) (f := 6) (by decide) (by decide)) ?_
        refine Z.bipush B dX12_says_251 (v := nI 6) rfl ?_
        refine Z.iload B dX12_says_253 (x := nI (ga (fun c => cn (zX σ 47) c 5) (v - 1))) rfl ?_
        refine Z.imulNc B dX12_says_255 (a := 6) (b := ga (fun c => cn (zX σ 47) c 5) (v - 1)) ?_
        refine Z.iconst B dX12_says_256 (v := nI 5) rfl ?_
        refine Z.iaddN B dX12_says_257 (a := (ga (fun c => cn (zX σ 47) c 5) (v - 1)) * 6) (b := 5) ?_
        refine Z.iald (σ := σ) B dX12_says_258 (n := 48) (hl.n (k := 47) (by decide)) (hl.k (k := 47) (by decide)) (hl.l (k := 47) (by decide)) (by decide) (j := ((ga (fun c => cn (zX σ 47) c 5) (v - 1)) * 6) + 5) rfl (by omega) (v := (zX σ 47 (((ga (fun c => cn (zX σ 47) c 5) (v - 1)) * 6) + 5))) rfl ?_
        refine Z.icmp_le B dX12_says_259 (tgt := 266) rfl (fun h259 => ?_) (fun h259 => ?_)
        · skip
          have h259 : ¬ gm (fun c => cn (zX σ 47) c 5) v < cn (zX σ 47) v 5 := by rw [hgm, zlt_iff]; rw [zle_iff] at h259; rw [cn_ne (show ¬ (5 : Nat) = 6 by decide), cn_ne (show ¬ (5 : Nat) = 6 by decide)]; omega
          refine Z.iincN B dX12_says_266 (by decide) (a := v) rfl (L' := [(0, .ref 45), (1, .int (nI s)), (2, .int (nI 5)), (3, .int (nI i8)), (4, .int (nI 6)), (5, .int (nI (ga (fun c => cn (zX σ 47) c 5) (v - 1)))), (6, .int (nI (v + 1)))]) rfl ?_
          refine Z.goto B dX12_says_269 (tgt := 220) rfl ?_
          have e := ih (v + 1) (by omega) (by omega)
          first | (rw [(gI_take (Or.inl h232) (by omega)).1] at e; exact e) | (rw [(gI_take (Or.inr h259) (by omega)).1] at e; exact e) | (rw [(gI_keepn h232 h259).1, gI_pos hv0] at e; exact e)
        · skip
          have h259 : gm (fun c => cn (zX σ 47) c 5) v < cn (zX σ 47) v 5 := by rw [hgm, zlt_iff]; rw [zle_iff] at h259; rw [cn_ne (show ¬ (5 : Nat) = 6 by decide), cn_ne (show ¬ (5 : Nat) = 6 by decide)]; omega
          refine Z.iload B dX12_says_262 (x := nI v) rfl ?_
          refine Z.istore B dX12_says_264 (by decide) (L' := [(0, .ref 45), (1, .int (nI s)), (2, .int (nI 5)), (3, .int (nI i8)), (4, .int (nI 6)), (5, .int (nI v)), (6, .int (nI v))]) rfl ?_
          refine Z.iincN B dX12_says_266 (by decide) (a := v) rfl (L' := [(0, .ref 45), (1, .int (nI s)), (2, .int (nI 5)), (3, .int (nI i8)), (4, .int (nI 6)), (5, .int (nI v)), (6, .int (nI (v + 1)))]) rfl ?_
          refine Z.goto B dX12_says_269 (tgt := 220) rfl ?_
          have e := ih (v + 1) (by omega) (by omega)
          first | (rw [(gI_take (Or.inl h232) (by omega)).1] at e; exact e) | (rw [(gI_take (Or.inr h259) (by omega)).1] at e; exact e) | (rw [(gI_keepn h232 h259).1, gI_pos hv0] at e; exact e)
  exact hloop220 0 (Nat.zero_le _)

theorem t_M_says_0_6_6 {σ : zSt} (hl : Lay σ) {n a y : Nat} (H : zMd σ n a y) {od : Nat → Nat} (ho : zMo σ a od) {pos : Nat → Nat} (hpo : zPo a od pos) {s : Nat} (hs : s < 8) {i8 : Nat} (hh : zMa σ s i8) {pa : Nat} (hi : i8 < y) (hw : zMy σ i8 6 pa) (hg : zX σ 45 28 = (-1))  : Dt mX12_says [.ref 45, .int (nI s), .int (nI 6)] σ (some (.int (if gI (mtf (zX σ 47) (zX σ 48) (zX σ 49) (zX σ 50) true 6 pa od pos a) n = gI (mtf (zX σ 47) (zX σ 48) (zX σ 49) (zX σ 50) true 5 pa od pos a) n then nI 0 else nI 1))) σ := by
  obtain ⟨-, hn, hn8, ha, ha4, hy, hy8⟩ := id H
  have hi88 := hh.2.2
  have hpa := hw.2.2.2.1
  refine Dt.of (by decide) (Nat.le_of_ble_eq_true rfl) fun κ B Rt => ?_
  show Z κ 0 0 σ 0 [(0, .ref 45), (1, .int (nI s)), (2, .int (nI 6))] []
  refine Z.aload_n B dX12_says_0 (v := .ref 45) rfl rfl ?_
  refine Z.iload_n B dX12_says_1 (x := nI s) rfl ?_
  refine Z.callVI (σ := σ) B (M' := mX12_isShelf) (as := [.int (nI s)]) (st := []) (v := .int (nI 1)) dX12_says_2 wX12_isShelf iX12_isShelf sX12_isShelf kX12_90 (hl.n (k := 45) (by decide)) (hl.k (k := 45) (by decide)) (by decide) rfl rfl (t_X12_isShelf_in (σ := σ) hs) rfl rfl (by decide) (by decide) (Nat.le_of_ble_eq_true rfl) (by decide) (by decide) ?_
  refine Z.if_eqN B dX12_says_5 (tgt := 18) rfl (by omega) (fun h5 => by exfalso; first | omega | contradiction | simp_all) (fun h5 => ?_)
  refine Z.iload_n B dX12_says_8 (x := nI 6) rfl ?_
  refine Z.if_ltN B dX12_says_9 (tgt := 18) rfl (by omega) ?_
  refine Z.iload_n B dX12_says_12 (x := nI 6) rfl ?_
  refine Z.bipush B dX12_says_13 (v := nI 6) rfl ?_
  refine Z.icmp_leN B dX12_says_15 (tgt := 24) rfl (by omega) (by omega) (fun h15 => ?_) (fun h15 => by exfalso; first | omega | contradiction | simp_all)
  refine Z.aload_n B dX12_says_24 (v := .ref 45) rfl rfl ?_
  refine Z.getR (σ := σ) B fX12_41_12 dX12_says_25 (hl.n (k := 45) (by decide)) (hl.k (k := 45) (by decide)) (by decide) (j := 54) (hl.r (k := 45) (f := 13) (by decide) (by decide)) ?_
  refine Z.iload_n B dX12_says_28 (x := nI s) rfl ?_
  refine Z.iald (σ := σ) B dX12_says_29 (n := 8) (hl.n (k := 54) (by decide)) (hl.k (k := 54) (by decide)) (hl.l (k := 54) (by decide)) (by decide) (j := s) rfl (by omega) (v := nI 2) hh.1 ?_
  refine Z.iconst B dX12_says_30 (v := nI 1) rfl ?_
  refine Z.icmp_neN B dX12_says_31 (tgt := 41) rfl (by omega) (by omega) (fun h31 => ?_) (fun h31 => by exfalso; first | omega | contradiction | simp_all)
  refine Z.aload_n B dX12_says_41 (v := .ref 45) rfl rfl ?_
  refine Z.getR (σ := σ) B fX12_41_12 dX12_says_42 (hl.n (k := 45) (by decide)) (hl.k (k := 45) (by decide)) (by decide) (j := 54) (hl.r (k := 45) (f := 13) (by decide) (by decide)) ?_
  refine Z.iload_n B dX12_says_45 (x := nI s) rfl ?_
  refine Z.iald (σ := σ) B dX12_says_46 (n := 8) (hl.n (k := 54) (by decide)) (hl.k (k := 54) (by decide)) (hl.l (k := 54) (by decide)) (by decide) (j := s) rfl (by omega) (v := nI 2) hh.1 ?_
  refine Z.if_neN B dX12_says_47 (tgt := 57) rfl (by omega) (fun h47 => ?_) (fun h47 => by exfalso; first | omega | contradiction | simp_all)
  refine Z.aload_n B dX12_says_57 (v := .ref 45) rfl rfl ?_
  refine Z.getR (σ := σ) B fX12_50_12 dX12_says_58 (hl.n (k := 45) (by decide)) (hl.k (k := 45) (by decide)) (by decide) (j := 57) (hl.r (k := 45) (f := 16) (by decide) (by decide)) ?_
  refine Z.iload_n B dX12_says_61 (x := nI s) rfl ?_
  refine Z.iald (σ := σ) B dX12_says_62 (n := 8) (hl.n (k := 57) (by decide)) (hl.k (k := 57) (by decide)) (hl.l (k := 57) (by decide)) (by decide) (j := s) rfl (by omega) (v := nI i8) hh.2.1 ?_
  refine Z.istore_n B dX12_says_63 (by decide) (L' := [(0, .ref 45), (1, .int (nI s)), (2, .int (nI 6)), (3, .int (nI i8))]) rfl ?_
  refine Z.aload_n B dX12_says_64 (v := .ref 45) rfl rfl ?_
  refine Z.getR (σ := σ) B fX12_35_12 dX12_says_65 (hl.n (k := 45) (by decide)) (hl.k (k := 45) (by decide)) (by decide) (j := 52) (hl.r (k := 45) (f := 11) (by decide) (by decide)) ?_
  refine Z.iload_n B dX12_says_68 (x := nI i8) rfl ?_
  refine Z.iald (σ := σ) B dX12_says_69 (n := 8) (hl.n (k := 52) (by decide)) (hl.k (k := 52) (by decide)) (hl.l (k := 52) (by decide)) (by decide) (j := i8) rfl (by omega) (v := nI 6) hw.1 ?_
  refine Z.istore B dX12_says_70 (by decide) (L' := [(0, .ref 45), (1, .int (nI s)), (2, .int (nI 6)), (3, .int (nI i8)), (4, .int (nI 6))]) rfl ?_
  refine Z.iload_n B dX12_says_72 (x := nI 6) rfl ?_
  refine Z.if_eqN B dX12_says_73 (tgt := 112) rfl (by omega) (fun h73 => by exfalso; first | omega | contradiction | simp_all) (fun h73 => ?_)
  refine Z.iload_n B dX12_says_76 (x := nI 6) rfl ?_
  refine Z.iload B dX12_says_77 (x := nI 6) rfl ?_
  refine Z.icmp_eqN B dX12_says_79 (tgt := 112) rfl (by omega) (by omega) (fun h79 => ?_) (fun h79 => by exfalso; first | omega | contradiction | simp_all)
  refine Z.iload_n B dX12_says_112 (x := nI 6) rfl ?_
  refine Z.tabIn B dX12_says_113 (by decide) (by decide) (off := 162) (by decide) (tgt := 275) rfl ?_
  refine Z.aload_n B dX12_says_275 (v := .ref 45) rfl rfl ?_
  refine Z.iload_n B dX12_says_276 (x := nI i8) rfl ?_
  refine Z.iconst B dX12_says_277 (v := nI 1) rfl ?_
  have etrue : nI 1 = zb true := rfl
  refine Z.callVI (σ := σ) B (M' := mX12_takenBy) (as := [.int (nI i8), .int (zb true)]) (st := []) (v := .int (gI (mtf (zX σ 47) (zX σ 48) (zX σ 49) (zX σ 50) true 6 pa od pos a) n)) dX12_says_278 wX12_takenBy iX12_takenBy sX12_takenBy kX12_104 (hl.n (k := 45) (by decide)) (hl.k (k := 45) (by decide)) (by decide) rfl rfl (t_X12_takenBy (σ := σ) H ho hpo hw hg (sl := true)) rfl rfl (by decide) (by decide) (Nat.le_of_ble_eq_true rfl) (by decide) (by decide) ?_
  refine Z.istore B dX12_says_281 (by decide) (L' := [(0, .ref 45), (1, .int (nI s)), (2, .int (nI 6)), (3, .int (nI i8)), (4, .int (nI 6)), (5, .int (gI (mtf (zX σ 47) (zX σ 48) (zX σ 49) (zX σ 50) true 6 pa od pos a) n))]) rfl ?_
  refine Z.aload_n B dX12_says_283 (v := .ref 45) rfl rfl ?_
  refine Z.getR (σ := σ) B fX12_35_12 dX12_says_284 (hl.n (k := 45) (by decide)) (hl.k (k := 45) (by decide)) (by decide) (j := 52) (hl.r (k := 45) (f := 11) (by decide) (by decide)) ?_
  refine Z.iload_n B dX12_says_287 (x := nI i8) rfl ?_
  refine Z.iconst B dX12_says_288 (v := nI 5) rfl ?_
  refine Z.iast (σ := σ) B dX12_says_289 (n := 8) (hl.n (k := 52) (by decide)) (hl.k (k := 52) (by decide)) (hl.l (k := 52) (by decide)) (by decide) (j := i8) rfl (by omega) (τ := (zuX σ 52 (upd (zX σ 52) i8 (nI 5)))) rfl ?_
  refine Z.aload_n B dX12_says_290 (v := .ref 45) rfl rfl ?_
  refine Z.iload_n B dX12_says_291 (x := nI i8) rfl ?_
  refine Z.iconst B dX12_says_292 (v := nI 1) rfl ?_
  have hw5 : zMy (zuX σ 52 (upd (zX σ 52) i8 (nI 5))) i8 5 pa := ⟨pk_us, hw.2.1, by decide, hw.2.2.2.1, hw.2.2.2.2⟩
  refine Z.callVI (σ := (zuX σ 52 (upd (zX σ 52) i8 (nI 5)))) B (M' := mX12_takenBy) (as := [.int (nI i8), .int (zb true)]) (st := []) (v := .int (gI (mtf (zX σ 47) (zX σ 48) (zX σ 49) (zX σ 50) true 5 pa od pos a) n)) dX12_says_293 wX12_takenBy iX12_takenBy sX12_takenBy kX12_104 (hl.n (k := 45) (by decide)) (hl.k (k := 45) (by decide)) (by decide) rfl rfl (t_X12_takenBy (σ := (zuX σ 52 (upd (zX σ 52) i8 (nI 5)))) H ho hpo hw5 hg (sl := true)) rfl rfl (by decide) (by decide) (Nat.le_of_ble_eq_true rfl) (by decide) (by decide) ?_
  refine Z.istore B dX12_says_296 (by decide) (L' := [(0, .ref 45), (1, .int (nI s)), (2, .int (nI 6)), (3, .int (nI i8)), (4, .int (nI 6)), (5, .int (gI (mtf (zX σ 47) (zX σ 48) (zX σ 49) (zX σ 50) true 6 pa od pos a) n)), (6, .int (gI (mtf (zX σ 47) (zX σ 48) (zX σ 49) (zX σ 50) true 5 pa od pos a) n))]) rfl ?_
  refine Z.aload_n B dX12_says_298 (v := .ref 45) rfl rfl ?_
  refine Z.getR (σ := (zuX σ 52 (upd (zX σ 52) i8 (nI 5)))) B fX12_35_12 dX12_says_299 (hl.n (k := 45) (by decide)) (hl.k (k := 45) (by decide)) (by decide) (j := 52) (hl.r (k := 45) (f := 11) (by decide) (by decide)) ?_
  refine Z.iload_n B dX12_says_302 (x := nI i8) rfl ?_
  refine Z.bipush B dX12_says_303 (v := nI 6) rfl ?_
  refine Z.iast (σ := (zuX σ 52 (upd (zX σ 52) i8 (nI 5)))) B dX12_says_305 (n := 8) (hl.n (k := 52) (by decide)) (hl.k (k := 52) (by decide)) (hl.l (k := 52) (by decide)) (by decide) (j := i8) rfl (by omega) (τ := (zuX σ 52 (zX σ 52))) (by rw [zX_self, upd_upd, ← hw.1, upd_id, zuX_uX]) ?_
  refine Z.iload B dX12_says_306 (x := gI (mtf (zX σ 47) (zX σ 48) (zX σ 49) (zX σ 50) true 6 pa od pos a) n) rfl ?_
  refine Z.iload B dX12_says_308 (x := gI (mtf (zX σ 47) (zX σ 48) (zX σ 49) (zX σ 50) true 5 pa od pos a) n) rfl ?_
  refine Z.icmp_ne B dX12_says_310 (tgt := 317) rfl (fun h310 => ?_) (fun h310 => ?_)
  · skip
    refine Z.iconst B dX12_says_317 (v := nI 1) rfl ?_
    refine Z.iret B Rt dX12_says_318 (ty := .int) rfl rfl (by decide) (by decide) ?_
    first | exact ⟨zip h310, zuX_id⟩ | exact ⟨zin h310, zuX_id⟩
  · skip
    refine Z.iconst B dX12_says_313 (v := nI 0) rfl ?_
    refine Z.goto B dX12_says_314 (tgt := 318) rfl ?_
    refine Z.iret B Rt dX12_says_318 (ty := .int) rfl rfl (by decide) (by decide) ?_
    first | exact ⟨zip h310, zuX_id⟩ | exact ⟨zin h310, zuX_id⟩
