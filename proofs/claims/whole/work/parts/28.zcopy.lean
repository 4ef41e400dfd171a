/-! copies, the head, what is kept: the class and the model -/
theorem t_X6_iso_1 {σ : zSt} {q q2 : Nat} (hq : zSh σ q) (hq2 : zSh σ q2) {o o2 : Nat} (ho : o ≤ 3) (ho2 : o2 ≤ 3) (h1 : zX σ q 1 = nI o) (h2 : zX σ q2 1 = nI o2) (hne : o ≠ o2) : Dt mX6_isOfOtherSort [.ref q, .ref q2] σ (some (.int (nI 1))) σ := by
  refine Dt.of (by decide) (Nat.le_of_ble_eq_true rfl) fun κ B Rt => ?_
  show Z κ 0 0 σ 0 [(0, .ref q), (1, .ref q2)] []
  refine Z.aload_n B dX6_isOfOtherSort_0 (v := .ref q) rfl rfl ?_
  refine Z.callVI (σ := σ) B (M' := mX6_holdsRow) (as := []) (st := []) (v := .int (nI 1)) dX6_isOfOtherSort_1 wX6_holdsRow iX6_holdsRow sX6_holdsRow kX6_40 (Nat.lt_of_succ_lt hq.1) hq.2.1 (by decide) rfl rfl (t_X6_holdsRow_1 (σ := σ) hq (by omega) h1) rfl rfl (by decide) (by decide) (Nat.le_of_ble_eq_true rfl) (by decide) (by decide) ?_
  refine Z.if_eqN B dX6_isOfOtherSort_4 (tgt := 29) rfl (by omega) (fun h4 => by exfalso; first | omega | contradiction | simp_all) (fun h4 => ?_)
  refine Z.aload_n B dX6_isOfOtherSort_7 (v := .ref q2) rfl rfl ?_
  refine Z.callVI (σ := σ) B (M' := mX6_holdsRow) (as := []) (st := []) (v := .int (nI 1)) dX6_isOfOtherSort_8 wX6_holdsRow iX6_holdsRow sX6_holdsRow kX6_40 (Nat.lt_of_succ_lt hq2.1) hq2.2.1 (by decide) rfl rfl (t_X6_holdsRow_1 (σ := σ) hq2 (by omega) h2) rfl rfl (by decide) (by decide) (Nat.le_of_ble_eq_true rfl) (by decide) (by decide) ?_
  refine Z.if_eqN B dX6_isOfOtherSort_11 (tgt := 29) rfl (by omega) (fun h11 => by exfalso; first | omega | contradiction | simp_all) (fun h11 => ?_)
  refine Z.aload_n B dX6_isOfOtherSort_14 (v := .ref q) rfl rfl ?_
  refine Z.getI (σ := σ) B fX6_15_6 dX6_isOfOtherSort_15 (Nat.lt_of_succ_lt hq.1) hq.2.1 (by decide) (v := nI o) h1 ?_
  refine Z.aload_n B dX6_isOfOtherSort_18 (v := .ref q2) rfl rfl ?_
  refine Z.getI (σ := σ) B fX6_15_6 dX6_isOfOtherSort_19 (Nat.lt_of_succ_lt hq2.1) hq2.2.1 (by decide) (v := nI o2) h2 ?_
  refine Z.icmp_eqN B dX6_isOfOtherSort_22 (tgt := 29) rfl (by omega) (by omega) (fun h22 => by exfalso; first | omega | contradiction | simp_all) (fun h22 => ?_)
  refine Z.iconst B dX6_isOfOtherSort_25 (v := nI 1) rfl ?_
  refine Z.goto B dX6_isOfOtherSort_26 (tgt := 30) rfl ?_
  refine Z.iret B Rt dX6_isOfOtherSort_30 (ty := .boolean) rfl rfl (by decide) (by decide) ?_
  exact ⟨rfl, rfl⟩

theorem t_X6_iso_0 {σ : zSt} {q q2 : Nat} (hq : zSh σ q) (hq2 : zSh σ q2) {o : Nat} (ho : o ≤ 3) (h1 : zX σ q 1 = nI o) (h2 : zX σ q2 1 = nI o) : Dt mX6_isOfOtherSort [.ref q, .ref q2] σ (some (.int (nI 0))) σ := by
  refine Dt.of (by decide) (Nat.le_of_ble_eq_true rfl) fun κ B Rt => ?_
  show Z κ 0 0 σ 0 [(0, .ref q), (1, .ref q2)] []
  refine Z.aload_n B dX6_isOfOtherSort_0 (v := .ref q) rfl rfl ?_
  refine Z.callVI (σ := σ) B (M' := mX6_holdsRow) (as := []) (st := []) (v := .int (nI 1)) dX6_isOfOtherSort_1 wX6_holdsRow iX6_holdsRow sX6_holdsRow kX6_40 (Nat.lt_of_succ_lt hq.1) hq.2.1 (by decide) rfl rfl (t_X6_holdsRow_1 (σ := σ) hq (by omega) h1) rfl rfl (by decide) (by decide) (Nat.le_of_ble_eq_true rfl) (by decide) (by decide) ?_
  refine Z.if_eqN B dX6_isOfOtherSort_4 (tgt := 29) rfl (by omega) (fun h4 => by exfalso; first | omega | contradiction | simp_all) (fun h4 => ?_)
  refine Z.aload_n B dX6_isOfOtherSort_7 (v := .ref q2) rfl rfl ?_
  refine Z.callVI (σ := σ) B (M' := mX6_holdsRow) (as := []) (st := []) (v := .int (nI 1)) dX6_isOfOtherSort_8 wX6_holdsRow iX6_holdsRow sX6_holdsRow kX6_40 (Nat.lt_of_succ_lt hq2.1) hq2.2.1 (by decide) rfl rfl (t_X6_holdsRow_1 (σ := σ) hq2 (by omega) h2) rfl rfl (by decide) (by decide) (Nat.le_of_ble_eq_true rfl) (by decide) (by decide) ?_
  refine Z.if_eqN B dX6_isOfOtherSort_11 (tgt := 29) rfl (by omega) (fun h11 => by exfalso; first | omega | contradiction | simp_all) (fun h11 => ?_)
  refine Z.aload_n B dX6_isOfOtherSort_14 (v := .ref q) rfl rfl ?_
  refine Z.getI (σ := σ) B fX6_15_6 dX6_isOfOtherSort_15 (Nat.lt_of_succ_lt hq.1) hq.2.1 (by decide) (v := nI o) h1 ?_
  refine Z.aload_n B dX6_isOfOtherSort_18 (v := .ref q2) rfl rfl ?_
  refine Z.getI (σ := σ) B fX6_15_6 dX6_isOfOtherSort_19 (Nat.lt_of_succ_lt hq2.1) hq2.2.1 (by decide) (v := nI o) h2 ?_
  refine Z.icmp_eqN B dX6_isOfOtherSort_22 (tgt := 29) rfl (by omega) (by omega) (fun h22 => ?_) (fun h22 => by exfalso; first | omega | contradiction | simp_all)
  refine Z.iconst B dX6_isOfOtherSort_29 (v := nI 0) rfl ?_
  refine Z.iret B Rt dX6_isOfOtherSort_30 (ty := .boolean) rfl rfl (by decide) (by decide) ?_
  exact ⟨rfl, rfl⟩

theorem t_X6_iso_a {σ : zSt} {q q2 : Nat} (hq : zSh σ q) (hq2 : zSh σ q2) (h1 : zX σ q 1 = (-1)) : Dt mX6_isOfOtherSort [.ref q, .ref q2] σ (some (.int (nI 0))) σ := by
  refine Dt.of (by decide) (Nat.le_of_ble_eq_true rfl) fun κ B Rt => ?_
  show Z κ 0 0 σ 0 [(0, .ref q), (1, .ref q2)] []
  refine Z.aload_n B dX6_isOfOtherSort_0 (v := .ref q) rfl rfl ?_
  refine Z.callVI (σ := σ) B (M' := mX6_holdsRow) (as := []) (st := []) (v := .int (nI 0)) dX6_isOfOtherSort_1 wX6_holdsRow iX6_holdsRow sX6_holdsRow kX6_40 (Nat.lt_of_succ_lt hq.1) hq.2.1 (by decide) rfl rfl (t_X6_holdsRow_0 (σ := σ) hq h1) rfl rfl (by decide) (by decide) (Nat.le_of_ble_eq_true rfl) (by decide) (by decide) ?_
  refine Z.if_eqN B dX6_isOfOtherSort_4 (tgt := 29) rfl (by omega) (fun h4 => ?_) (fun h4 => by exfalso; first | omega | contradiction | simp_all)
  refine Z.iconst B dX6_isOfOtherSort_29 (v := nI 0) rfl ?_
  refine Z.iret B Rt dX6_isOfOtherSort_30 (ty := .boolean) rfl rfl (by decide) (by decide) ?_
  exact ⟨rfl, rfl⟩

theorem t_X6_iso_b {σ : zSt} {q q2 : Nat} (hq : zSh σ q) (hq2 : zSh σ q2) {o : Nat} (ho : o ≤ 3) (h1 : zX σ q 1 = nI o) (h2 : zX σ q2 1 = (-1)) : Dt mX6_isOfOtherSort [.ref q, .ref q2] σ (some (.int (nI 0))) σ := by
  refine Dt.of (by decide) (Nat.le_of_ble_eq_true rfl) fun κ B Rt => ?_
  show Z κ 0 0 σ 0 [(0, .ref q), (1, .ref q2)] []
  refine Z.aload_n B dX6_isOfOtherSort_0 (v := .ref q) rfl rfl ?_
  refine Z.callVI (σ := σ) B (M' := mX6_holdsRow) (as := []) (st := []) (v := .int (nI 1)) dX6_isOfOtherSort_1 wX6_holdsRow iX6_holdsRow sX6_holdsRow kX6_40 (Nat.lt_of_succ_lt hq.1) hq.2.1 (by decide) rfl rfl (t_X6_holdsRow_1 (σ := σ) hq (by omega) h1) rfl rfl (by decide) (by decide) (Nat.le_of_ble_eq_true rfl) (by decide) (by decide) ?_
  refine Z.if_eqN B dX6_isOfOtherSort_4 (tgt := 29) rfl (by omega) (fun h4 => by exfalso; first | omega | contradiction | simp_all) (fun h4 => ?_)
  refine Z.aload_n B dX6_isOfOtherSort_7 (v := .ref q2) rfl rfl ?_
  refine Z.callVI (σ := σ) B (M' := mX6_holdsRow) (as := []) (st := []) (v := .int (nI 0)) dX6_isOfOtherSort_8 wX6_holdsRow iX6_holdsRow sX6_holdsRow kX6_40 (Nat.lt_of_succ_lt hq2.1) hq2.2.1 (by decide) rfl rfl (t_X6_holdsRow_0 (σ := σ) hq2 h2) rfl rfl (by decide) (by decide) (Nat.le_of_ble_eq_true rfl) (by decide) (by decide) ?_
  refine Z.if_eqN B dX6_isOfOtherSort_11 (tgt := 29) rfl (by omega) (fun h11 => ?_) (fun h11 => by exfalso; first | omega | contradiction | simp_all)
  refine Z.iconst B dX6_isOfOtherSort_29 (v := nI 0) rfl ?_
  refine Z.iret B Rt dX6_isOfOtherSort_30 (ty := .boolean) rfl rfl (by decide) (by decide) ?_
  exact ⟨rfl, rfl⟩

theorem t_X6_takeRun {σ : zSt} {q q2 : Nat} (hq : zSh σ q) (hq2 : zSh σ q2) {m m2 i j n : Nat} (hm : zX σ q 2 = nI m) (hm160 : m ≤ 160) (hm2 : zX σ q2 2 = nI m2) (hm2160 : m2 ≤ 160) (hi : i + n ≤ m2) (hj : j + n ≤ m) : Dt mX6_takeRun [.ref q, .ref q2, .int (nI i), .int (nI j), .int (nI n)] σ (none) (zuY σ (q + 1) (va_cpy (zY σ (q2 + 1)) (zY σ (q + 1)) i j n)) := by
  refine Dt.of (by decide) (Nat.le_of_ble_eq_true rfl) fun κ B Rt => ?_
  show Z κ 0 0 σ 0 [(0, .ref q), (1, .ref q2), (2, .int (nI i)), (3, .int (nI j)), (4, .int (nI n))] []
  refine Z.aload_n B dX6_takeRun_0 (v := .ref q2) rfl rfl ?_
  refine Z.iload_n B dX6_takeRun_1 (x := nI i) rfl ?_
  refine Z.iload B dX6_takeRun_2 (x := nI n) rfl ?_
  refine Z.callVI (σ := σ) B (M' := mX6_hasRun) (as := [.int (nI i), .int (nI n)]) (st := []) (v := .int (nI 1)) dX6_takeRun_4 wX6_hasRun iX6_hasRun sX6_hasRun kX6_44 (Nat.lt_of_succ_lt hq2.1) hq2.2.1 (by decide) rfl rfl (t_X6_hasRun_in (σ := σ) hq2 hm2 hm2160 hi) rfl rfl (by decide) (by decide) (Nat.le_of_ble_eq_true rfl) (by decide) (by decide) ?_
  refine Z.if_eqN B dX6_takeRun_7 (tgt := 35) rfl (by omega) (fun h7 => by exfalso; first | omega | contradiction | simp_all) (fun h7 => ?_)
  refine Z.aload_n B dX6_takeRun_10 (v := .ref q) rfl rfl ?_
  refine Z.iload_n B dX6_takeRun_11 (x := nI j) rfl ?_
  refine Z.iload B dX6_takeRun_12 (x := nI n) rfl ?_
  refine Z.callVI (σ := σ) B (M' := mX6_hasRun) (as := [.int (nI j), .int (nI n)]) (st := []) (v := .int (nI 1)) dX6_takeRun_14 wX6_hasRun iX6_hasRun sX6_hasRun kX6_44 (Nat.lt_of_succ_lt hq.1) hq.2.1 (by decide) rfl rfl (t_X6_hasRun_in (σ := σ) hq hm hm160 hj) rfl rfl (by decide) (by decide) (Nat.le_of_ble_eq_true rfl) (by decide) (by decide) ?_
  refine Z.if_eqN B dX6_takeRun_17 (tgt := 35) rfl (by omega) (fun h17 => by exfalso; first | omega | contradiction | simp_all) (fun h17 => ?_)
  refine Z.aload_n B dX6_takeRun_20 (v := .ref q2) rfl rfl ?_
  refine Z.getR (σ := σ) B fX6_9_6 dX6_takeRun_21 (Nat.lt_of_succ_lt hq2.1) hq2.2.1 (by decide) (j := q2 + 1) hq2.2.2.2.2 ?_
  refine Z.iload_n B dX6_takeRun_24 (x := nI i) rfl ?_
  refine Z.aload_n B dX6_takeRun_25 (v := .ref q) rfl rfl ?_
  refine Z.getR (σ := σ) B fX6_9_6 dX6_takeRun_26 (Nat.lt_of_succ_lt hq.1) hq.2.1 (by decide) (j := q + 1) hq.2.2.2.2 ?_
  refine Z.iload_n B dX6_takeRun_29 (x := nI j) rfl ?_
  refine Z.iload B dX6_takeRun_30 (x := nI n) rfl ?_
  refine Z.copyL (σ := σ) B (k := q2 + 1) (k2 := q + 1) (sp := i) (dp := j) (n := n) (n1 := 160) (n2 := 160) dX6_takeRun_32 kX6_52 (by decide) (Nat.le_of_ble_eq_true rfl) hq2.1 hq2.2.2.1 hq2.2.2.2.1 hq.1 hq.2.2.1 hq.2.2.2.1 (by omega) (by omega) (by decide) (by decide) (τ := (zuY σ (q + 1) (va_cpy (zY σ (q2 + 1)) (zY σ (q + 1)) i j n))) rfl ?_
  refine Z.vret B Rt dX6_takeRun_35 rfl (by decide) (by decide) ?_
  exact ⟨rfl, rfl⟩

theorem t_K_copy_1a {σ : zSt} (hl : Lay σ) {s t : Int32} (hs : zOut s 8) (ht : zOut t 8) {i j n : Int32}  : Dt mX11_copy [.ref 0, .int s, .int t, .int i, .int j, .int n] σ (some (.int (-nI 1))) (zuX σ 43 (upd (zX σ 43) 1 (zX σ 43 1 + nI 1))) := by
  refine Dt.of (by decide) (Nat.le_of_ble_eq_true rfl) fun κ B Rt => ?_
  show Z κ 0 0 σ 0 [(0, .ref 0), (1, .int s), (2, .int t), (3, .int i), (4, .int j), (5, .int n)] []
  refine Z.aload_n B dX11_copy_0 (v := .ref 0) rfl rfl ?_
  refine Z.iload_n B dX11_copy_1 (x := s) rfl ?_
  refine Z.callVI (σ := σ) B (M' := mX11_shelfAt) (as := [.int s]) (st := []) (v := .null) dX11_copy_2 wX11_shelfAt iX11_shelfAt sX11_shelfAt kX11_59 (hl.n (k := 0) (by decide)) (hl.k (k := 0) (by decide)) (by decide) rfl rfl (t_X11_shelfAt_out (σ := σ) hl hs) rfl rfl (by decide) (by decide) (Nat.le_of_ble_eq_true rfl) (by decide) (by decide) ?_
  refine Z.astore B dX11_copy_5 (by decide) rfl (L' := [(0, .ref 0), (1, .int s), (2, .int t), (3, .int i), (4, .int j), (5, .int n), (6, .null)]) rfl ?_
  refine Z.aload_n B dX11_copy_7 (v := .ref 0) rfl rfl ?_
  refine Z.iload_n B dX11_copy_8 (x := t) rfl ?_
  refine Z.callVI (σ := σ) B (M' := mX11_shelfAt) (as := [.int t]) (st := []) (v := .null) dX11_copy_9 wX11_shelfAt iX11_shelfAt sX11_shelfAt kX11_59 (hl.n (k := 0) (by decide)) (hl.k (k := 0) (by decide)) (by decide) rfl rfl (t_X11_shelfAt_out (σ := σ) hl ht) rfl rfl (by decide) (by decide) (Nat.le_of_ble_eq_true rfl) (by decide) (by decide) ?_
  refine Z.astore B dX11_copy_12 (by decide) rfl (L' := [(0, .ref 0), (1, .int s), (2, .int t), (3, .int i), (4, .int j), (5, .int n), (6, .null), (7, .null)]) rfl ?_
  refine Z.aload B dX11_copy_14 (v := .null) rfl rfl ?_
  refine Z.ifnull_n B dX11_copy_16 (tgt := 24) rfl ?_
  refine Z.aload_n B dX11_copy_24 (v := .ref 0) rfl rfl ?_
  refine Z.iconst B dX11_copy_25 (v := nI 1) rfl ?_
  refine Z.callVI (σ := σ) B (M' := mX11_refuse) (as := [.int (nI 1)]) (st := []) (v := .int (-nI 1)) dX11_copy_26 wX11_refuse iX11_refuse sX11_refuse kX11_63 (hl.n (k := 0) (by decide)) (hl.k (k := 0) (by decide)) (by decide) rfl rfl (t_X11_refuse (σ := σ) hl (b := 1) (by decide)) rfl rfl (by decide) (by decide) (Nat.le_of_ble_eq_true rfl) (by decide) (by decide) ?_
  refine Z.eqσ (τ := (zuX σ 43 (upd (zX σ 43) 1 (zX σ 43 1 + nI 1)))) rfl ?_
  refine Z.iret B Rt dX11_copy_29 (ty := .int) rfl rfl (by decide) (by decide) ?_
  exact ⟨rfl, rfl⟩

theorem t_K_copy_1b {σ : zSt} (hl : Lay σ) {s : Int32} {t : Nat} (hs : zOut s 8) (ht : t < 8) {i j n : Int32}  : Dt mX11_copy [.ref 0, .int s, .int (nI t), .int i, .int j, .int n] σ (some (.int (-nI 1))) (zuX σ 43 (upd (zX σ 43) 1 (zX σ 43 1 + nI 1))) := by
  have hqt := (hl.shelf ht).2
  refine Dt.of (by decide) (Nat.le_of_ble_eq_true rfl) fun κ B Rt => ?_
  show Z κ 0 0 σ 0 [(0, .ref 0), (1, .int s), (2, .int (nI t)), (3, .int i), (4, .int j), (5, .int n)] []
  refine Z.aload_n B dX11_copy_0 (v := .ref 0) rfl rfl ?_
  refine Z.iload_n B dX11_copy_1 (x := s) rfl ?_
  refine Z.callVI (σ := σ) B (M' := mX11_shelfAt) (as := [.int s]) (st := []) (v := .null) dX11_copy_2 wX11_shelfAt iX11_shelfAt sX11_shelfAt kX11_59 (hl.n (k := 0) (by decide)) (hl.k (k := 0) (by decide)) (by decide) rfl rfl (t_X11_shelfAt_out (σ := σ) hl hs) rfl rfl (by decide) (by decide) (Nat.le_of_ble_eq_true rfl) (by decide) (by decide) ?_
  refine Z.astore B dX11_copy_5 (by decide) rfl (L' := [(0, .ref 0), (1, .int s), (2, .int (nI t)), (3, .int i), (4, .int j), (5, .int n), (6, .null)]) rfl ?_
  refine Z.aload_n B dX11_copy_7 (v := .ref 0) rfl rfl ?_
  refine Z.iload_n B dX11_copy_8 (x := nI t) rfl ?_
  refine Z.callVI (σ := σ) B (M' := mX11_shelfAt) (as := [.int (nI t)]) (st := []) (v := .ref (2 + 2 * t)) dX11_copy_9 wX11_shelfAt iX11_shelfAt sX11_shelfAt kX11_59 (hl.n (k := 0) (by decide)) (hl.k (k := 0) (by decide)) (by decide) rfl rfl (t_X11_shelfAt_in (σ := σ) hl ht) rfl rfl (by decide) (by decide) (Nat.le_of_ble_eq_true rfl) (by decide) (by decide) ?_
  refine Z.astore B dX11_copy_12 (by decide) rfl (L' := [(0, .ref 0), (1, .int s), (2, .int (nI t)), (3, .int i), (4, .int j), (5, .int n), (6, .null), (7, .ref (2 + 2 * t))]) rfl ?_
  refine Z.aload B dX11_copy_14 (v := .null) rfl rfl ?_
  refine Z.ifnull_n B dX11_copy_16 (tgt := 24) rfl ?_
  refine Z.aload_n B dX11_copy_24 (v := .ref 0) rfl rfl ?_
  refine Z.iconst B dX11_copy_25 (v := nI 1) rfl ?_
  refine Z.callVI (σ := σ) B (M' := mX11_refuse) (as := [.int (nI 1)]) (st := []) (v := .int (-nI 1)) dX11_copy_26 wX11_refuse iX11_refuse sX11_refuse kX11_63 (hl.n (k := 0) (by decide)) (hl.k (k := 0) (by decide)) (by decide) rfl rfl (t_X11_refuse (σ := σ) hl (b := 1) (by decide)) rfl rfl (by decide) (by decide) (Nat.le_of_ble_eq_true rfl) (by decide) (by decide) ?_
  refine Z.eqσ (τ := (zuX σ 43 (upd (zX σ 43) 1 (zX σ 43 1 + nI 1)))) rfl ?_
  refine Z.iret B Rt dX11_copy_29 (ty := .int) rfl rfl (by decide) (by decide) ?_
  exact ⟨rfl, rfl⟩

theorem t_K_copy_1c {σ : zSt} (hl : Lay σ) {s : Nat} {t : Int32} (hs : s < 8) (ht : zOut t 8) {i j n : Int32}  : Dt mX11_copy [.ref 0, .int (nI s), .int t, .int i, .int j, .int n] σ (some (.int (-nI 1))) (zuX σ 43 (upd (zX σ 43) 1 (zX σ 43 1 + nI 1))) := by
  have hqs := (hl.shelf hs).2
  refine Dt.of (by decide) (Nat.le_of_ble_eq_true rfl) fun κ B Rt => ?_
  show Z κ 0 0 σ 0 [(0, .ref 0), (1, .int (nI s)), (2, .int t), (3, .int i), (4, .int j), (5, .int n)] []
  refine Z.aload_n B dX11_copy_0 (v := .ref 0) rfl rfl ?_
  refine Z.iload_n B dX11_copy_1 (x := nI s) rfl ?_
  refine Z.callVI (σ := σ) B (M' := mX11_shelfAt) (as := [.int (nI s)]) (st := []) (v := .ref (2 + 2 * s)) dX11_copy_2 wX11_shelfAt iX11_shelfAt sX11_shelfAt kX11_59 (hl.n (k := 0) (by decide)) (hl.k (k := 0) (by decide)) (by decide) rfl rfl (t_X11_shelfAt_in (σ := σ) hl hs) rfl rfl (by decide) (by decide) (Nat.le_of_ble_eq_true rfl) (by decide) (by decide) ?_
  refine Z.astore B dX11_copy_5 (by decide) rfl (L' := [(0, .ref 0), (1, .int (nI s)), (2, .int t), (3, .int i), (4, .int j), (5, .int n), (6, .ref (2 + 2 * s))]) rfl ?_
  refine Z.aload_n B dX11_copy_7 (v := .ref 0) rfl rfl ?_
  refine Z.iload_n B dX11_copy_8 (x := t) rfl ?_
  refine Z.callVI (σ := σ) B (M' := mX11_shelfAt) (as := [.int t]) (st := []) (v := .null) dX11_copy_9 wX11_shelfAt iX11_shelfAt sX11_shelfAt kX11_59 (hl.n (k := 0) (by decide)) (hl.k (k := 0) (by decide)) (by decide) rfl rfl (t_X11_shelfAt_out (σ := σ) hl ht) rfl rfl (by decide) (by decide) (Nat.le_of_ble_eq_true rfl) (by decide) (by decide) ?_
  refine Z.astore B dX11_copy_12 (by decide) rfl (L' := [(0, .ref 0), (1, .int (nI s)), (2, .int t), (3, .int i), (4, .int j), (5, .int n), (6, .ref (2 + 2 * s)), (7, .null)]) rfl ?_
  refine Z.aload B dX11_copy_14 (v := .ref (2 + 2 * s)) rfl rfl ?_
  refine Z.ifnull_r B dX11_copy_16 ?_
  refine Z.aload B dX11_copy_19 (v := .null) rfl rfl ?_
  refine Z.ifnonnull_n B dX11_copy_21 ?_
  refine Z.aload_n B dX11_copy_24 (v := .ref 0) rfl rfl ?_
  refine Z.iconst B dX11_copy_25 (v := nI 1) rfl ?_
  refine Z.callVI (σ := σ) B (M' := mX11_refuse) (as := [.int (nI 1)]) (st := []) (v := .int (-nI 1)) dX11_copy_26 wX11_refuse iX11_refuse sX11_refuse kX11_63 (hl.n (k := 0) (by decide)) (hl.k (k := 0) (by decide)) (by decide) rfl rfl (t_X11_refuse (σ := σ) hl (b := 1) (by decide)) rfl rfl (by decide) (by decide) (Nat.le_of_ble_eq_true rfl) (by decide) (by decide) ?_
  refine Z.eqσ (τ := (zuX σ 43 (upd (zX σ 43) 1 (zX σ 43 1 + nI 1)))) rfl ?_
  refine Z.iret B Rt dX11_copy_29 (ty := .int) rfl rfl (by decide) (by decide) ?_
  exact ⟨rfl, rfl⟩

theorem t_K_copy_2_rr {σ : zSt} (hl : Lay σ) {s t : Nat} (hs : s < 8) (ht : t < 8) {o m : Nat} (hx : zRw σ (2 + 2 * s) o m) {o2 m2 : Nat} (hy : zRw σ (2 + 2 * t) o2 m2) {i j n : Int32} (hne : o ≠ o2) : Dt mX11_copy [.ref 0, .int (nI s), .int (nI t), .int i, .int j, .int n] σ (some (.int (-nI 2))) (zuX σ 43 (upd (zX σ 43) 2 (zX σ 43 2 + nI 1))) := by
  have hqs := (hl.shelf hs).2
  have hqt := (hl.shelf ht).2
  refine Dt.of (by decide) (Nat.le_of_ble_eq_true rfl) fun κ B Rt => ?_
  show Z κ 0 0 σ 0 [(0, .ref 0), (1, .int (nI s)), (2, .int (nI t)), (3, .int i), (4, .int j), (5, .int n)] []
  refine Z.aload_n B dX11_copy_0 (v := .ref 0) rfl rfl ?_
  refine Z.iload_n B dX11_copy_1 (x := nI s) rfl ?_
  refine Z.callVI (σ := σ) B (M' := mX11_shelfAt) (as := [.int (nI s)]) (st := []) (v := .ref (2 + 2 * s)) dX11_copy_2 wX11_shelfAt iX11_shelfAt sX11_shelfAt kX11_59 (hl.n (k := 0) (by decide)) (hl.k (k := 0) (by decide)) (by decide) rfl rfl (t_X11_shelfAt_in (σ := σ) hl hs) rfl rfl (by decide) (by decide) (Nat.le_of_ble_eq_true rfl) (by decide) (by decide) ?_
  refine Z.astore B dX11_copy_5 (by decide) rfl (L' := [(0, .ref 0), (1, .int (nI s)), (2, .int (nI t)), (3, .int i), (4, .int j), (5, .int n), (6, .ref (2 + 2 * s))]) rfl ?_
  refine Z.aload_n B dX11_copy_7 (v := .ref 0) rfl rfl ?_
  refine Z.iload_n B dX11_copy_8 (x := nI t) rfl ?_
  refine Z.callVI (σ := σ) B (M' := mX11_shelfAt) (as := [.int (nI t)]) (st := []) (v := .ref (2 + 2 * t)) dX11_copy_9 wX11_shelfAt iX11_shelfAt sX11_shelfAt kX11_59 (hl.n (k := 0) (by decide)) (hl.k (k := 0) (by decide)) (by decide) rfl rfl (t_X11_shelfAt_in (σ := σ) hl ht) rfl rfl (by decide) (by decide) (Nat.le_of_ble_eq_true rfl) (by decide) (by decide) ?_
  refine Z.astore B dX11_copy_12 (by decide) rfl (L' := [(0, .ref 0), (1, .int (nI s)), (2, .int (nI t)), (3, .int i), (4, .int j), (5, .int n), (6, .ref (2 + 2 * s)), (7, .ref (2 + 2 * t))]) rfl ?_
  refine Z.aload B dX11_copy_14 (v := .ref (2 + 2 * s)) rfl rfl ?_
  refine Z.ifnull_r B dX11_copy_16 ?_
  refine Z.aload B dX11_copy_19 (v := .ref (2 + 2 * t)) rfl rfl ?_
  refine Z.ifnonnull_r B dX11_copy_21 (tgt := 30) rfl ?_
  refine Z.aload B dX11_copy_30 (v := .ref (2 + 2 * s)) rfl rfl ?_
  refine Z.callVI (σ := σ) B (M' := mX6_holdsWay) (as := []) (st := []) (v := .int (nI 0)) dX11_copy_32 wX6_holdsWay iX6_holdsWay sX6_holdsWay kX11_87 (Nat.lt_of_succ_lt hqs.1) hqs.2.1 (by decide) rfl rfl (t_X6_holdsWay_0 (σ := σ) hqs hx.2.2.2.2) rfl rfl (by decide) (by decide) (Nat.le_of_ble_eq_true rfl) (by decide) (by decide) ?_
  refine Z.if_neN B dX11_copy_35 (tgt := 56) rfl (by omega) (fun h35 => by exfalso; first | omega | contradiction | simp_all) (fun h35 => ?_)
  refine Z.aload B dX11_copy_38 (v := .ref (2 + 2 * t)) rfl rfl ?_
  refine Z.callVI (σ := σ) B (M' := mX6_holdsWay) (as := []) (st := []) (v := .int (nI 0)) dX11_copy_40 wX6_holdsWay iX6_holdsWay sX6_holdsWay kX11_87 (Nat.lt_of_succ_lt hqt.1) hqt.2.1 (by decide) rfl rfl (t_X6_holdsWay_0 (σ := σ) hqt hy.2.2.2.2) rfl rfl (by decide) (by decide) (Nat.le_of_ble_eq_true rfl) (by decide) (by decide) ?_
  refine Z.if_neN B dX11_copy_43 (tgt := 56) rfl (by omega) (fun h43 => by exfalso; first | omega | contradiction | simp_all) (fun h43 => ?_)
  refine Z.aload B dX11_copy_46 (v := .ref (2 + 2 * s)) rfl rfl ?_
  refine Z.aload B dX11_copy_48 (v := .ref (2 + 2 * t)) rfl rfl ?_
  refine Z.callVI (σ := σ) B (M' := mX6_isOfOtherSort) (as := [.ref (2 + 2 * t)]) (st := []) (v := .int (nI 1)) dX11_copy_50 wX6_isOfOtherSort iX6_isOfOtherSort sX6_isOfOtherSort kX11_90 (Nat.lt_of_succ_lt hqs.1) hqs.2.1 (by decide) rfl rfl (t_X6_iso_1 (σ := σ) hqs hqt hx.2.1 hy.2.1 hx.1 hy.1 hne) rfl rfl (by decide) (by decide) (Nat.le_of_ble_eq_true rfl) (by decide) (by decide) ?_
  refine Z.if_eqN B dX11_copy_53 (tgt := 62) rfl (by omega) (fun h53 => by exfalso; first | omega | contradiction | simp_all) (fun h53 => ?_)
  refine Z.aload_n B dX11_copy_56 (v := .ref 0) rfl rfl ?_
  refine Z.iconst B dX11_copy_57 (v := nI 2) rfl ?_
  refine Z.callVI (σ := σ) B (M' := mX11_refuse) (as := [.int (nI 2)]) (st := []) (v := .int (-nI 2)) dX11_copy_58 wX11_refuse iX11_refuse sX11_refuse kX11_63 (hl.n (k := 0) (by decide)) (hl.k (k := 0) (by decide)) (by decide) rfl rfl (t_X11_refuse (σ := σ) hl (b := 2) (by decide)) rfl rfl (by decide) (by decide) (Nat.le_of_ble_eq_true rfl) (by decide) (by decide) ?_
  refine Z.eqσ (τ := (zuX σ 43 (upd (zX σ 43) 2 (zX σ 43 2 + nI 1)))) rfl ?_
  refine Z.iret B Rt dX11_copy_61 (ty := .int) rfl rfl (by decide) (by decide) ?_
  exact ⟨rfl, rfl⟩

theorem t_K_copy_4 {σ : zSt} (hl : Lay σ) {s t : Nat} (hs : s < 8) (ht : t < 8) {o m : Nat} (hx : zRw σ (2 + 2 * s) o m) {m2 : Nat} (hy : zRw σ (2 + 2 * t) o m2) {i j n : Int32} (hn : n < 0) : Dt mX11_copy [.ref 0, .int (nI s), .int (nI t), .int i, .int j, .int n] σ (some (.int (-nI 4))) (zuX σ 43 (upd (zX σ 43) 4 (zX σ 43 4 + nI 1))) := by
  have hqs := (hl.shelf hs).2
  have hqt := (hl.shelf ht).2
  refine Dt.of (by decide) (Nat.le_of_ble_eq_true rfl) fun κ B Rt => ?_
  show Z κ 0 0 σ 0 [(0, .ref 0), (1, .int (nI s)), (2, .int (nI t)), (3, .int i), (4, .int j), (5, .int n)] []
  refine Z.aload_n B dX11_copy_0 (v := .ref 0) rfl rfl ?_
  refine Z.iload_n B dX11_copy_1 (x := nI s) rfl ?_
  refine Z.callVI (σ := σ) B (M' := mX11_shelfAt) (as := [.int (nI s)]) (st := []) (v := .ref (2 + 2 * s)) dX11_copy_2 wX11_shelfAt iX11_shelfAt sX11_shelfAt kX11_59 (hl.n (k := 0) (by decide)) (hl.k (k := 0) (by decide)) (by decide) rfl rfl (t_X11_shelfAt_in (σ := σ) hl hs) rfl rfl (by decide) (by decide) (Nat.le_of_ble_eq_true rfl) (by decide) (by decide) ?_
  refine Z.astore B dX11_copy_5 (by decide) rfl (L' := [(0, .ref 0), (1, .int (nI s)), (2, .int (nI t)), (3, .int i), (4, .int j), (5, .int n), (6, .ref (2 + 2 * s))]) rfl ?_
  refine Z.aload_n B dX11_copy_7 (v := .ref 0) rfl rfl ?_
  refine Z.iload_n B dX11_copy_8 (x := nI t) rfl ?_
  refine Z.callVI (σ := σ) B (M' := mX11_shelfAt) (as := [.int (nI t)]) (st := []) (v := .ref (2 + 2 * t)) dX11_copy_9 wX11_shelfAt iX11_shelfAt sX11_shelfAt kX11_59 (hl.n (k := 0) (by decide)) (hl.k (k := 0) (by decide)) (by decide) rfl rfl (t_X11_shelfAt_in (σ := σ) hl ht) rfl rfl (by decide) (by decide) (Nat.le_of_ble_eq_true rfl) (by decide) (by decide) ?_
  refine Z.astore B dX11_copy_12 (by decide) rfl (L' := [(0, .ref 0), (1, .int (nI s)), (2, .int (nI t)), (3, .int i), (4, .int j), (5, .int n), (6, .ref (2 + 2 * s)), (7, .ref (2 + 2 * t))]) rfl ?_
  refine Z.aload B dX11_copy_14 (v := .ref (2 + 2 * s)) rfl rfl ?_
  refine Z.ifnull_r B dX11_copy_16 ?_
  refine Z.aload B dX11_copy_19 (v := .ref (2 + 2 * t)) rfl rfl ?_
  refine Z.ifnonnull_r B dX11_copy_21 (tgt := 30) rfl ?_
  refine Z.aload B dX11_copy_30 (v := .ref (2 + 2 * s)) rfl rfl ?_
  refine Z.callVI (σ := σ) B (M' := mX6_holdsWay) (as := []) (st := []) (v := .int (nI 0)) dX11_copy_32 wX6_holdsWay iX6_holdsWay sX6_holdsWay kX11_87 (Nat.lt_of_succ_lt hqs.1) hqs.2.1 (by decide) rfl rfl (t_X6_holdsWay_0 (σ := σ) hqs hx.2.2.2.2) rfl rfl (by decide) (by decide) (Nat.le_of_ble_eq_true rfl) (by decide) (by decide) ?_
  refine Z.if_neN B dX11_copy_35 (tgt := 56) rfl (by omega) (fun h35 => by exfalso; first | omega | contradiction | simp_all) (fun h35 => ?_)
  refine Z.aload B dX11_copy_38 (v := .ref (2 + 2 * t)) rfl rfl ?_
  refine Z.callVI (σ := σ) B (M' := mX6_holdsWay) (as := []) (st := []) (v := .int (nI 0)) dX11_copy_40 wX6_holdsWay iX6_holdsWay sX6_holdsWay kX11_87 (Nat.lt_of_succ_lt hqt.1) hqt.2.1 (by decide) rfl rfl (t_X6_holdsWay_0 (σ := σ) hqt hy.2.2.2.2) rfl rfl (by decide) (by decide) (Nat.le_of_ble_eq_true rfl) (by decide) (by decide) ?_
  refine Z.if_neN B dX11_copy_43 (tgt := 56) rfl (by omega) (fun h43 => by exfalso; first | omega | contradiction | simp_all) (fun h43 => ?_)
  refine Z.aload B dX11_copy_46 (v := .ref (2 + 2 * s)) rfl rfl ?_
  refine Z.aload B dX11_copy_48 (v := .ref (2 + 2 * t)) rfl rfl ?_
  refine Z.callVI (σ := σ) B (M' := mX6_isOfOtherSort) (as := [.ref (2 + 2 * t)]) (st := []) (v := .int (nI 0)) dX11_copy_50 wX6_isOfOtherSort iX6_isOfOtherSort sX6_isOfOtherSort kX11_90 (Nat.lt_of_succ_lt hqs.1) hqs.2.1 (by decide) rfl rfl (t_X6_iso_0 (σ := σ) hqs hqt hx.2.1 hx.1 hy.1) rfl rfl (by decide) (by decide) (Nat.le_of_ble_eq_true rfl) (by decide) (by decide) ?_
  refine Z.if_eqN B dX11_copy_53 (tgt := 62) rfl (by omega) (fun h53 => ?_) (fun h53 => by exfalso; first | omega | contradiction | simp_all)
  refine Z.aload B dX11_copy_62 (v := .ref (2 + 2 * s)) rfl rfl ?_
  refine Z.callVI (σ := σ) B (M' := mX6_holdsRow) (as := []) (st := []) (v := .int (nI 1)) dX11_copy_64 wX6_holdsRow iX6_holdsRow sX6_holdsRow kX11_71 (Nat.lt_of_succ_lt hqs.1) hqs.2.1 (by decide) rfl rfl (t_X6_holdsRow_1 (σ := σ) hqs (Nat.lt_of_le_of_lt hx.2.1 (by decide)) hx.1) rfl rfl (by decide) (by decide) (Nat.le_of_ble_eq_true rfl) (by decide) (by decide) ?_
  refine Z.if_eqN B dX11_copy_67 (tgt := 78) rfl (by omega) (fun h67 => by exfalso; first | omega | contradiction | simp_all) (fun h67 => ?_)
  refine Z.aload B dX11_copy_70 (v := .ref (2 + 2 * t)) rfl rfl ?_
  refine Z.callVI (σ := σ) B (M' := mX6_holdsRow) (as := []) (st := []) (v := .int (nI 1)) dX11_copy_72 wX6_holdsRow iX6_holdsRow sX6_holdsRow kX11_71 (Nat.lt_of_succ_lt hqt.1) hqt.2.1 (by decide) rfl rfl (t_X6_holdsRow_1 (σ := σ) hqt (Nat.lt_of_le_of_lt hy.2.1 (by decide)) hy.1) rfl rfl (by decide) (by decide) (Nat.le_of_ble_eq_true rfl) (by decide) (by decide) ?_
  refine Z.if_neN B dX11_copy_75 (tgt := 84) rfl (by omega) (fun h75 => ?_) (fun h75 => by exfalso; first | omega | contradiction | simp_all)
  refine Z.iload B dX11_copy_84 (x := n) rfl ?_
  refine Z.if_ge B dX11_copy_86 (tgt := 95) rfl (fun h86 => (by exfalso; rw [zle_iff] at h86; rw [zlt_iff] at hn; omega)) (fun h86 => ?_)
  refine Z.aload_n B dX11_copy_89 (v := .ref 0) rfl rfl ?_
  refine Z.iconst B dX11_copy_90 (v := nI 4) rfl ?_
  refine Z.callVI (σ := σ) B (M' := mX11_refuse) (as := [.int (nI 4)]) (st := []) (v := .int (-nI 4)) dX11_copy_91 wX11_refuse iX11_refuse sX11_refuse kX11_63 (hl.n (k := 0) (by decide)) (hl.k (k := 0) (by decide)) (by decide) rfl rfl (t_X11_refuse (σ := σ) hl (b := 4) (by decide)) rfl rfl (by decide) (by decide) (Nat.le_of_ble_eq_true rfl) (by decide) (by decide) ?_
  refine Z.eqσ (τ := (zuX σ 43 (upd (zX σ 43) 4 (zX σ 43 4 + nI 1)))) rfl ?_
  refine Z.iret B Rt dX11_copy_94 (ty := .int) rfl rfl (by decide) (by decide) ?_
  exact ⟨rfl, rfl⟩

theorem t_K_copy_5a {σ : zSt} (hl : Lay σ) {s t : Nat} (hs : s < 8) (ht : t < 8) {o m : Nat} (hx : zRw σ (2 + 2 * s) o m) {m2 : Nat} (hy : zRw σ (2 + 2 * t) o m2) {i j : Int32} {n : Nat} (hn : n < 2 ^ 31) (hi : zBad i m n) : Dt mX11_copy [.ref 0, .int (nI s), .int (nI t), .int i, .int j, .int (nI n)] σ (some (.int (-nI 5))) (zuX σ 43 (upd (zX σ 43) 5 (zX σ 43 5 + nI 1))) := by
  have hqs := (hl.shelf hs).2
  have hqt := (hl.shelf ht).2
  refine Dt.of (by decide) (Nat.le_of_ble_eq_true rfl) fun κ B Rt => ?_
  show Z κ 0 0 σ 0 [(0, .ref 0), (1, .int (nI s)), (2, .int (nI t)), (3, .int i), (4, .int j), (5, .int (nI n))] []
  refine Z.aload_n B dX11_copy_0 (v := .ref 0) rfl rfl ?_
  refine Z.iload_n B dX11_copy_1 (x := nI s) rfl ?_
  refine Z.callVI (σ := σ) B (M' := mX11_shelfAt) (as := [.int (nI s)]) (st := []) (v := .ref (2 + 2 * s)) dX11_copy_2 wX11_shelfAt iX11_shelfAt sX11_shelfAt kX11_59 (hl.n (k := 0) (by decide)) (hl.k (k := 0) (by decide)) (by decide) rfl rfl (t_X11_shelfAt_in (σ := σ) hl hs) rfl rfl (by decide) (by decide) (Nat.le_of_ble_eq_true rfl) (by decide) (by decide) ?_
  refine Z.astore B dX11_copy_5 (by decide) rfl (L' := [(0, .ref 0), (1, .int (nI s)), (2, .int (nI t)), (3, .int i), (4, .int j), (5, .int (nI n)), (6, .ref (2 + 2 * s))]) rfl ?_
  refine Z.aload_n B dX11_copy_7 (v := .ref 0) rfl rfl ?_
  refine Z.iload_n B dX11_copy_8 (x := nI t) rfl ?_
  refine Z.callVI (σ := σ) B (M' := mX11_shelfAt) (as := [.int (nI t)]) (st := []) (v := .ref (2 + 2 * t)) dX11_copy_9 wX11_shelfAt iX11_shelfAt sX11_shelfAt kX11_59 (hl.n (k := 0) (by decide)) (hl.k (k := 0) (by decide)) (by decide) rfl rfl (t_X11_shelfAt_in (σ := σ) hl ht) rfl rfl (by decide) (by decide) (Nat.le_of_ble_eq_true rfl) (by decide) (by decide) ?_
  refine Z.astore B dX11_copy_12 (by decide) rfl (L' := [(0, .ref 0), (1, .int (nI s)), (2, .int (nI t)), (3, .int i), (4, .int j), (5, .int (nI n)), (6, .ref (2 + 2 * s)), (7, .ref (2 + 2 * t))]) rfl ?_
  refine Z.aload B dX11_copy_14 (v := .ref (2 + 2 * s)) rfl rfl ?_
  refine Z.ifnull_r B dX11_copy_16 ?_
  refine Z.aload B dX11_copy_19 (v := .ref (2 + 2 * t)) rfl rfl ?_
  refine Z.ifnonnull_r B dX11_copy_21 (tgt := 30) rfl ?_
  refine Z.aload B dX11_copy_30 (v := .ref (2 + 2 * s)) rfl rfl ?_
  refine Z.callVI (σ := σ) B (M' := mX6_holdsWay) (as := []) (st := []) (v := .int (nI 0)) dX11_copy_32 wX6_holdsWay iX6_holdsWay sX6_holdsWay kX11_87 (Nat.lt_of_succ_lt hqs.1) hqs.2.1 (by decide) rfl rfl (t_X6_holdsWay_0 (σ := σ) hqs hx.2.2.2.2) rfl rfl (by decide) (by decide) (Nat.le_of_ble_eq_true rfl) (by decide) (by decide) ?_
  refine Z.if_neN B dX11_copy_35 (tgt := 56) rfl (by omega) (fun h35 => by exfalso; first | omega | contradiction | simp_all) (fun h35 => ?_)
  refine Z.aload B dX11_copy_38 (v := .ref (2 + 2 * t)) rfl rfl ?_
  refine Z.callVI (σ := σ) B (M' := mX6_holdsWay) (as := []) (st := []) (v := .int (nI 0)) dX11_copy_40 wX6_holdsWay iX6_holdsWay sX6_holdsWay kX11_87 (Nat.lt_of_succ_lt hqt.1) hqt.2.1 (by decide) rfl rfl (t_X6_holdsWay_0 (σ := σ) hqt hy.2.2.2.2) rfl rfl (by decide) (by decide) (Nat.le_of_ble_eq_true rfl) (by decide) (by decide) ?_
  refine Z.if_neN B dX11_copy_43 (tgt := 56) rfl (by omega) (fun h43 => by exfalso; first | omega | contradiction | simp_all) (fun h43 => ?_)
  refine Z.aload B dX11_copy_46 (v := .ref (2 + 2 * s)) rfl rfl ?_
  refine Z.aload B dX11_copy_48 (v := .ref (2 + 2 * t)) rfl rfl ?_
  refine Z.callVI (σ := σ) B (M' := mX6_isOfOtherSort) (as := [.ref (2 + 2 * t)]) (st := []) (v := .int (nI 0)) dX11_copy_50 wX6_isOfOtherSort iX6_isOfOtherSort sX6_isOfOtherSort kX11_90 (Nat.lt_of_succ_lt hqs.1) hqs.2.1 (by decide) rfl rfl (t_X6_iso_0 (σ := σ) hqs hqt hx.2.1 hx.1 hy.1) rfl rfl (by decide) (by decide) (Nat.le_of_ble_eq_true rfl) (by decide) (by decide) ?_
  refine Z.if_eqN B dX11_copy_53 (tgt := 62) rfl (by omega) (fun h53 => ?_) (fun h53 => by exfalso; first | omega | contradiction | simp_all)
  refine Z.aload B dX11_copy_62 (v := .ref (2 + 2 * s)) rfl rfl ?_
  refine Z.callVI (σ := σ) B (M' := mX6_holdsRow) (as := []) (st := []) (v := .int (nI 1)) dX11_copy_64 wX6_holdsRow iX6_holdsRow sX6_holdsRow kX11_71 (Nat.lt_of_succ_lt hqs.1) hqs.2.1 (by decide) rfl rfl (t_X6_holdsRow_1 (σ := σ) hqs (Nat.lt_of_le_of_lt hx.2.1 (by decide)) hx.1) rfl rfl (by decide) (by decide) (Nat.le_of_ble_eq_true rfl) (by decide) (by decide) ?_
  refine Z.if_eqN B dX11_copy_67 (tgt := 78) rfl (by omega) (fun h67 => by exfalso; first | omega | contradiction | simp_all) (fun h67 => ?_)
  refine Z.aload B dX11_copy_70 (v := .ref (2 + 2 * t)) rfl rfl ?_
  refine Z.callVI (σ := σ) B (M' := mX6_holdsRow) (as := []) (st := []) (v := .int (nI 1)) dX11_copy_72 wX6_holdsRow iX6_holdsRow sX6_holdsRow kX11_71 (Nat.lt_of_succ_lt hqt.1) hqt.2.1 (by decide) rfl rfl (t_X6_holdsRow_1 (σ := σ) hqt (Nat.lt_of_le_of_lt hy.2.1 (by decide)) hy.1) rfl rfl (by decide) (by decide) (Nat.le_of_ble_eq_true rfl) (by decide) (by decide) ?_
  refine Z.if_neN B dX11_copy_75 (tgt := 84) rfl (by omega) (fun h75 => ?_) (fun h75 => by exfalso; first | omega | contradiction | simp_all)
  refine Z.iload B dX11_copy_84 (x := nI n) rfl ?_
  refine Z.if_geN B dX11_copy_86 (tgt := 95) rfl (by omega) ?_
  refine Z.aload B dX11_copy_95 (v := .ref (2 + 2 * s)) rfl rfl ?_
  refine Z.iload_n B dX11_copy_97 (x := i) rfl ?_
  refine Z.iload B dX11_copy_98 (x := nI n) rfl ?_
  refine Z.callVI (σ := σ) B (M' := mX6_hasRun) (as := [.int i, .int (nI n)]) (st := []) (v := .int (nI 0)) dX11_copy_100 wX6_hasRun iX6_hasRun sX6_hasRun kX11_79 (Nat.lt_of_succ_lt hqs.1) hqs.2.1 (by decide) rfl rfl (t_X6_hasRun_out (σ := σ) hqs hx.2.2.1 hx.2.2.2.1 hi hn) rfl rfl (by decide) (by decide) (Nat.le_of_ble_eq_true rfl) (by decide) (by decide) ?_
  refine Z.if_eqN B dX11_copy_103 (tgt := 118) rfl (by omega) (fun h103 => ?_) (fun h103 => by exfalso; first | omega | contradiction | simp_all)
  refine Z.aload_n B dX11_copy_118 (v := .ref 0) rfl rfl ?_
  refine Z.iconst B dX11_copy_119 (v := nI 5) rfl ?_
  refine Z.callVI (σ := σ) B (M' := mX11_refuse) (as := [.int (nI 5)]) (st := []) (v := .int (-nI 5)) dX11_copy_120 wX11_refuse iX11_refuse sX11_refuse kX11_63 (hl.n (k := 0) (by decide)) (hl.k (k := 0) (by decide)) (by decide) rfl rfl (t_X11_refuse (σ := σ) hl (b := 5) (by decide)) rfl rfl (by decide) (by decide) (Nat.le_of_ble_eq_true rfl) (by decide) (by decide) ?_
  refine Z.eqσ (τ := (zuX σ 43 (upd (zX σ 43) 5 (zX σ 43 5 + nI 1)))) rfl ?_
  refine Z.iret B Rt dX11_copy_123 (ty := .int) rfl rfl (by decide) (by decide) ?_
  exact ⟨rfl, rfl⟩

theorem t_K_copy_5b {σ : zSt} (hl : Lay σ) {s t : Nat} (hs : s < 8) (ht : t < 8) {o m : Nat} (hx : zRw σ (2 + 2 * s) o m) {m2 : Nat} (hy : zRw σ (2 + 2 * t) o m2) {i n : Nat} {j : Int32} (hn : n < 2 ^ 31) (hi : i + n ≤ m) (hj : zBad j m2 n) : Dt mX11_copy [.ref 0, .int (nI s), .int (nI t), .int (nI i), .int j, .int (nI n)] σ (some (.int (-nI 5))) (zuX σ 43 (upd (zX σ 43) 5 (zX σ 43 5 + nI 1))) := by
  have hqs := (hl.shelf hs).2
  have hqt := (hl.shelf ht).2
  refine Dt.of (by decide) (Nat.le_of_ble_eq_true rfl) fun κ B Rt => ?_
  show Z κ 0 0 σ 0 [(0, .ref 0), (1, .int (nI s)), (2, .int (nI t)), (3, .int (nI i)), (4, .int j), (5, .int (nI n))] []
  refine Z.aload_n B dX11_copy_0 (v := .ref 0) rfl rfl ?_
  refine Z.iload_n B dX11_copy_1 (x := nI s) rfl ?_
  refine Z.callVI (σ := σ) B (M' := mX11_shelfAt) (as := [.int (nI s)]) (st := []) (v := .ref (2 + 2 * s)) dX11_copy_2 wX11_shelfAt iX11_shelfAt sX11_shelfAt kX11_59 (hl.n (k := 0) (by decide)) (hl.k (k := 0) (by decide)) (by decide) rfl rfl (t_X11_shelfAt_in (σ := σ) hl hs) rfl rfl (by decide) (by decide) (Nat.le_of_ble_eq_true rfl) (by decide) (by decide) ?_
  refine Z.astore B dX11_copy_5 (by decide) rfl (L' := [(0, .ref 0), (1, .int (nI s)), (2, .int (nI t)), (3, .int (nI i)), (4, .int j), (5, .int (nI n)), (6, .ref (2 + 2 * s))]) rfl ?_
  refine Z.aload_n B dX11_copy_7 (v := .ref 0) rfl rfl ?_
  refine Z.iload_n B dX11_copy_8 (x := nI t) rfl ?_
  refine Z.callVI (σ := σ) B (M' := mX11_shelfAt) (as := [.int (nI t)]) (st := []) (v := .ref (2 + 2 * t)) dX11_copy_9 wX11_shelfAt iX11_shelfAt sX11_shelfAt kX11_59 (hl.n (k := 0) (by decide)) (hl.k (k := 0) (by decide)) (by decide) rfl rfl (t_X11_shelfAt_in (σ := σ) hl ht) rfl rfl (by decide) (by decide) (Nat.le_of_ble_eq_true rfl) (by decide) (by decide) ?_
  refine Z.astore B dX11_copy_12 (by decide) rfl (L' := [(0, .ref 0), (1, .int (nI s)), (2, .int (nI t)), (3, .int (nI i)), (4, .int j), (5, .int (nI n)), (6, .ref (2 + 2 * s)), (7, .ref (2 + 2 * t))]) rfl ?_
  refine Z.aload B dX11_copy_14 (v := .ref (2 + 2 * s)) rfl rfl ?_
  refine Z.ifnull_r B dX11_copy_16 ?_
  refine Z.aload B dX11_copy_19 (v := .ref (2 + 2 * t)) rfl rfl ?_
  refine Z.ifnonnull_r B dX11_copy_21 (tgt := 30) rfl ?_
  refine Z.aload B dX11_copy_30 (v := .ref (2 + 2 * s)) rfl rfl ?_
  refine Z.callVI (σ := σ) B (M' := mX6_holdsWay) (as := []) (st := []) (v := .int (nI 0)) dX11_copy_32 wX6_holdsWay iX6_holdsWay sX6_holdsWay kX11_87 (Nat.lt_of_succ_lt hqs.1) hqs.2.1 (by decide) rfl rfl (t_X6_holdsWay_0 (σ := σ) hqs hx.2.2.2.2) rfl rfl (by decide) (by decide) (Nat.le_of_ble_eq_true rfl) (by decide) (by decide) ?_
  refine Z.if_neN B dX11_copy_35 (tgt := 56) rfl (by omega) (fun h35 => by exfalso; first | omega | contradiction | simp_all) (fun h35 => ?_)
  refine Z.aload B dX11_copy_38 (v := .ref (2 + 2 * t)) rfl rfl ?_
  refine Z.callVI (σ := σ) B (M' := mX6_holdsWay) (as := []) (st := []) (v := .int (nI 0)) dX11_copy_40 wX6_holdsWay iX6_holdsWay sX6_holdsWay kX11_87 (Nat.lt_of_succ_lt hqt.1) hqt.2.1 (by decide) rfl rfl (t_X6_holdsWay_0 (σ := σ) hqt hy.2.2.2.2) rfl rfl (by decide) (by decide) (Nat.le_of_ble_eq_true rfl) (by decide) (by decide) ?_
  refine Z.if_neN B dX11_copy_43 (tgt := 56) rfl (by omega) (fun h43 => by exfalso; first | omega | contradiction | simp_all) (fun h43 => ?_)
  refine Z.aload B dX11_copy_46 (v := .ref (2 + 2 * s)) rfl rfl ?_
  refine Z.aload B dX11_copy_48 (v := .ref (2 + 2 * t)) rfl rfl ?_
  refine Z.callVI (σ := σ) B (M' := mX6_isOfOtherSort) (as := [.ref (2 + 2 * t)]) (st := []) (v := .int (nI 0)) dX11_copy_50 wX6_isOfOtherSort iX6_isOfOtherSort sX6_isOfOtherSort kX11_90 (Nat.lt_of_succ_lt hqs.1) hqs.2.1 (by decide) rfl rfl (t_X6_iso_0 (σ := σ) hqs hqt hx.2.1 hx.1 hy.1) rfl rfl (by decide) (by decide) (Nat.le_of_ble_eq_true rfl) (by decide) (by decide) ?_
  refine Z.if_eqN B dX11_copy_53 (tgt := 62) rfl (by omega) (fun h53 => ?_) (fun h53 => by exfalso; first | omega | contradiction | simp_all)
  refine Z.aload B dX11_copy_62 (v := .ref (2 + 2 * s)) rfl rfl ?_
  refine Z.callVI (σ := σ) B (M' := mX6_holdsRow) (as := []) (st := []) (v := .int (nI 1)) dX11_copy_64 wX6_holdsRow iX6_holdsRow sX6_holdsRow kX11_71 (Nat.lt_of_succ_lt hqs.1) hqs.2.1 (by decide) rfl rfl (t_X6_holdsRow_1 (σ := σ) hqs (Nat.lt_of_le_of_lt hx.2.1 (by decide)) hx.1) rfl rfl (by decide) (by decide) (Nat.le_of_ble_eq_true rfl) (by decide) (by decide) ?_
  refine Z.if_eqN B dX11_copy_67 (tgt := 78) rfl (by omega) (fun h67 => by exfalso; first | omega | contradiction | simp_all) (fun h67 => ?_)
  refine Z.aload B dX11_copy_70 (v := .ref (2 + 2 * t)) rfl rfl ?_
  refine Z.callVI (σ := σ) B (M' := mX6_holdsRow) (as := []) (st := []) (v := .int (nI 1)) dX11_copy_72 wX6_holdsRow iX6_holdsRow sX6_holdsRow kX11_71 (Nat.lt_of_succ_lt hqt.1) hqt.2.1 (by decide) rfl rfl (t_X6_holdsRow_1 (σ := σ) hqt (Nat.lt_of_le_of_lt hy.2.1 (by decide)) hy.1) rfl rfl (by decide) (by decide) (Nat.le_of_ble_eq_true rfl) (by decide) (by decide) ?_
  refine Z.if_neN B dX11_copy_75 (tgt := 84) rfl (by omega) (fun h75 => ?_) (fun h75 => by exfalso; first | omega | contradiction | simp_all)
  refine Z.iload B dX11_copy_84 (x := nI n) rfl ?_
  refine Z.if_geN B dX11_copy_86 (tgt := 95) rfl (by omega) ?_
  refine Z.aload B dX11_copy_95 (v := .ref (2 + 2 * s)) rfl rfl ?_
  refine Z.iload_n B dX11_copy_97 (x := nI i) rfl ?_
  refine Z.iload B dX11_copy_98 (x := nI n) rfl ?_
  refine Z.callVI (σ := σ) B (M' := mX6_hasRun) (as := [.int (nI i), .int (nI n)]) (st := []) (v := .int (nI 1)) dX11_copy_100 wX6_hasRun iX6_hasRun sX6_hasRun kX11_79 (Nat.lt_of_succ_lt hqs.1) hqs.2.1 (by decide) rfl rfl (t_X6_hasRun_in (σ := σ) hqs hx.2.2.1 hx.2.2.2.1 hi) rfl rfl (by decide) (by decide) (Nat.le_of_ble_eq_true rfl) (by decide) (by decide) ?_
  refine Z.if_eqN B dX11_copy_103 (tgt := 118) rfl (by omega) (fun h103 => by exfalso; first | omega | contradiction | simp_all) (fun h103 => ?_)
  refine Z.aload B dX11_copy_106 (v := .ref (2 + 2 * t)) rfl rfl ?_
  refine Z.iload B dX11_copy_108 (x := j) rfl ?_
  refine Z.iload B dX11_copy_110 (x := nI n) rfl ?_
  refine Z.callVI (σ := σ) B (M' := mX6_hasRun) (as := [.int j, .int (nI n)]) (st := []) (v := .int (nI 0)) dX11_copy_112 wX6_hasRun iX6_hasRun sX6_hasRun kX11_79 (Nat.lt_of_succ_lt hqt.1) hqt.2.1 (by decide) rfl rfl (t_X6_hasRun_out (σ := σ) hqt hy.2.2.1 hy.2.2.2.1 hj hn) rfl rfl (by decide) (by decide) (Nat.le_of_ble_eq_true rfl) (by decide) (by decide) ?_
  refine Z.if_neN B dX11_copy_115 (tgt := 124) rfl (by omega) (fun h115 => by exfalso; first | omega | contradiction | simp_all) (fun h115 => ?_)
  refine Z.aload_n B dX11_copy_118 (v := .ref 0) rfl rfl ?_
  refine Z.iconst B dX11_copy_119 (v := nI 5) rfl ?_
  refine Z.callVI (σ := σ) B (M' := mX11_refuse) (as := [.int (nI 5)]) (st := []) (v := .int (-nI 5)) dX11_copy_120 wX11_refuse iX11_refuse sX11_refuse kX11_63 (hl.n (k := 0) (by decide)) (hl.k (k := 0) (by decide)) (by decide) rfl rfl (t_X11_refuse (σ := σ) hl (b := 5) (by decide)) rfl rfl (by decide) (by decide) (Nat.le_of_ble_eq_true rfl) (by decide) (by decide) ?_
  refine Z.eqσ (τ := (zuX σ 43 (upd (zX σ 43) 5 (zX σ 43 5 + nI 1)))) rfl ?_
  refine Z.iret B Rt dX11_copy_123 (ty := .int) rfl rfl (by decide) (by decide) ?_
  exact ⟨rfl, rfl⟩

theorem t_K_copy_0 {σ : zSt} (hl : Lay σ) {s t : Nat} (hs : s < 8) (ht : t < 8) {o m : Nat} (hx : zRw σ (2 + 2 * s) o m) {m2 : Nat} (hy : zRw σ (2 + 2 * t) o m2) {i j n : Nat} (hi : i + n ≤ m) (hj : j + n ≤ m2) : Dt mX11_copy [.ref 0, .int (nI s), .int (nI t), .int (nI i), .int (nI j), .int (nI n)] σ (some (.int (nI 1))) (zuY σ (2 + 2 * t + 1) (va_cpy (zY σ (2 + 2 * s + 1)) (zY σ (2 + 2 * t + 1)) i j n)) := by
  have hqs := (hl.shelf hs).2
  have hqt := (hl.shelf ht).2
  have hm160 := hx.2.2.2.1
  refine Dt.of (by decide) (Nat.le_of_ble_eq_true rfl) fun κ B Rt => ?_
  show Z κ 0 0 σ 0 [(0, .ref 0), (1, .int (nI s)), (2, .int (nI t)), (3, .int (nI i)), (4, .int (nI j)), (5, .int (nI n))] []
  refine Z.aload_n B dX11_copy_0 (v := .ref 0) rfl rfl ?_
  refine Z.iload_n B dX11_copy_1 (x := nI s) rfl ?_
  refine Z.callVI (σ := σ) B (M' := mX11_shelfAt) (as := [.int (nI s)]) (st := []) (v := .ref (2 + 2 * s)) dX11_copy_2 wX11_shelfAt iX11_shelfAt sX11_shelfAt kX11_59 (hl.n (k := 0) (by decide)) (hl.k (k := 0) (by decide)) (by decide) rfl rfl (t_X11_shelfAt_in (σ := σ) hl hs) rfl rfl (by decide) (by decide) (Nat.le_of_ble_eq_true rfl) (by decide) (by decide) ?_
  refine Z.astore B dX11_copy_5 (by decide) rfl (L' := [(0, .ref 0), (1, .int (nI s)), (2, .int (nI t)), (3, .int (nI i)), (4, .int (nI j)), (5, .int (nI n)), (6, .ref (2 + 2 * s))]) rfl ?_
  refine Z.aload_n B dX11_copy_7 (v := .ref 0) rfl rfl ?_
  refine Z.iload_n B dX11_copy_8 (x := nI t) rfl ?_
  refine Z.callVI (σ := σ) B (M' := mX11_shelfAt) (as := [.int (nI t)]) (st := []) (v := .ref (2 + 2 * t)) dX11_copy_9 wX11_shelfAt iX11_shelfAt sX11_shelfAt kX11_59 (hl.n (k := 0) (by decide)) (hl.k (k := 0) (by decide)) (by decide) rfl rfl (t_X11_shelfAt_in (σ := σ) hl ht) rfl rfl (by decide) (by decide) (Nat.le_of_ble_eq_true rfl) (by decide) (by decide) ?_
  refine Z.astore B dX11_copy_12 (by decide) rfl (L' := [(0, .ref 0), (1, .int (nI s)), (2, .int (nI t)), (3, .int (nI i)), (4, .int (nI j)), (5, .int (nI n)), (6, .ref (2 + 2 * s)), (7, .ref (2 + 2 * t))]) rfl ?_
  refine Z.aload B dX11_copy_14 (v := .ref (2 + 2 * s)) rfl rfl ?_
  refine Z.ifnull_r B dX11_copy_16 ?_
  refine Z.aload B dX11_copy_19 (v := .ref (2 + 2 * t)) rfl rfl ?_
  refine Z.ifnonnull_r B dX11_copy_21 (tgt := 30) rfl ?_
  refine Z.aload B dX11_copy_30 (v := .ref (2 + 2 * s)) rfl rfl ?_
  refine Z.callVI (σ := σ) B (M' := mX6_holdsWay) (as := []) (st := []) (v := .int (nI 0)) dX11_copy_32 wX6_holdsWay iX6_holdsWay sX6_holdsWay kX11_87 (Nat.lt_of_succ_lt hqs.1) hqs.2.1 (by decide) rfl rfl (t_X6_holdsWay_0 (σ := σ) hqs hx.2.2.2.2) rfl rfl (by decide) (by decide) (Nat.le_of_ble_eq_true rfl) (by decide) (by decide) ?_
  refine Z.if_neN B dX11_copy_35 (tgt := 56) rfl (by omega) (fun h35 => by exfalso; first | omega | contradiction | simp_all) (fun h35 => ?_)
  refine Z.aload B dX11_copy_38 (v := .ref (2 + 2 * t)) rfl rfl ?_
  refine Z.callVI (σ := σ) B (M' := mX6_holdsWay) (as := []) (st := []) (v := .int (nI 0)) dX11_copy_40 wX6_holdsWay iX6_holdsWay sX6_holdsWay kX11_87 (Nat.lt_of_succ_lt hqt.1) hqt.2.1 (by decide) rfl rfl (t_X6_holdsWay_0 (σ := σ) hqt hy.2.2.2.2) rfl rfl (by decide) (by decide) (Nat.le_of_ble_eq_true rfl) (by decide) (by decide) ?_
  refine Z.if_neN B dX11_copy_43 (tgt := 56) rfl (by omega) (fun h43 => by exfalso; first | omega | contradiction | simp_all) (fun h43 => ?_)
  refine Z.aload B dX11_copy_46 (v := .ref (2 + 2 * s)) rfl rfl ?_
  refine Z.aload B dX11_copy_48 (v := .ref (2 + 2 * t)) rfl rfl ?_
  refine Z.callVI (σ := σ) B (M' := mX6_isOfOtherSort) (as := [.ref (2 + 2 * t)]) (st := []) (v := .int (nI 0)) dX11_copy_50 wX6_isOfOtherSort iX6_isOfOtherSort sX6_isOfOtherSort kX11_90 (Nat.lt_of_succ_lt hqs.1) hqs.2.1 (by decide) rfl rfl (t_X6_iso_0 (σ := σ) hqs hqt hx.2.1 hx.1 hy.1) rfl rfl (by decide) (by decide) (Nat.le_of_ble_eq_true rfl) (by decide) (by decide) ?_
  refine Z.if_eqN B dX11_copy_53 (tgt := 62) rfl (by omega) (fun h53 => ?_) (fun h53 => by exfalso; first | omega | contradiction | simp_all)
  refine Z.aload B dX11_copy_62 (v := .ref (2 + 2 * s)) rfl rfl ?_
  refine Z.callVI (σ := σ) B (M' := mX6_holdsRow) (as := []) (st := []) (v := .int (nI 1)) dX11_copy_64 wX6_holdsRow iX6_holdsRow sX6_holdsRow kX11_71 (Nat.lt_of_succ_lt hqs.1) hqs.2.1 (by decide) rfl rfl (t_X6_holdsRow_1 (σ := σ) hqs (Nat.lt_of_le_of_lt hx.2.1 (by decide)) hx.1) rfl rfl (by decide) (by decide) (Nat.le_of_ble_eq_true rfl) (by decide) (by decide) ?_
  refine Z.if_eqN B dX11_copy_67 (tgt := 78) rfl (by omega) (fun h67 => by exfalso; first | omega | contradiction | simp_all) (fun h67 => ?_)
  refine Z.aload B dX11_copy_70 (v := .ref (2 + 2 * t)) rfl rfl ?_
  refine Z.callVI (σ := σ) B (M' := mX6_holdsRow) (as := []) (st := []) (v := .int (nI 1)) dX11_copy_72 wX6_holdsRow iX6_holdsRow sX6_holdsRow kX11_71 (Nat.lt_of_succ_lt hqt.1) hqt.2.1 (by decide) rfl rfl (t_X6_holdsRow_1 (σ := σ) hqt (Nat.lt_of_le_of_lt hy.2.1 (by decide)) hy.1) rfl rfl (by decide) (by decide) (Nat.le_of_ble_eq_true rfl) (by decide) (by decide) ?_
  refine Z.if_neN B dX11_copy_75 (tgt := 84) rfl (by omega) (fun h75 => ?_) (fun h75 => by exfalso; first | omega | contradiction | simp_all)
  refine Z.iload B dX11_copy_84 (x := nI n) rfl ?_
  refine Z.if_geN B dX11_copy_86 (tgt := 95) rfl (by omega) ?_
  refine Z.aload B dX11_copy_95 (v := .ref (2 + 2 * s)) rfl rfl ?_
  refine Z.iload_n B dX11_copy_97 (x := nI i) rfl ?_
  refine Z.iload B dX11_copy_98 (x := nI n) rfl ?_
  refine Z.callVI (σ := σ) B (M' := mX6_hasRun) (as := [.int (nI i), .int (nI n)]) (st := []) (v := .int (nI 1)) dX11_copy_100 wX6_hasRun iX6_hasRun sX6_hasRun kX11_79 (Nat.lt_of_succ_lt hqs.1) hqs.2.1 (by decide) rfl rfl (t_X6_hasRun_in (σ := σ) hqs hx.2.2.1 hx.2.2.2.1 hi) rfl rfl (by decide) (by decide) (Nat.le_of_ble_eq_true rfl) (by decide) (by decide) ?_
  refine Z.if_eqN B dX11_copy_103 (tgt := 118) rfl (by omega) (fun h103 => by exfalso; first | omega | contradiction | simp_all) (fun h103 => ?_)
  refine Z.aload B dX11_copy_106 (v := .ref (2 + 2 * t)) rfl rfl ?_
  refine Z.iload B dX11_copy_108 (x := nI j) rfl ?_
  refine Z.iload B dX11_copy_110 (x := nI n) rfl ?_
  refine Z.callVI (σ := σ) B (M' := mX6_hasRun) (as := [.int (nI j), .int (nI n)]) (st := []) (v := .int (nI 1)) dX11_copy_112 wX6_hasRun iX6_hasRun sX6_hasRun kX11_79 (Nat.lt_of_succ_lt hqt.1) hqt.2.1 (by decide) rfl rfl (t_X6_hasRun_in (σ := σ) hqt hy.2.2.1 hy.2.2.2.1 hj) rfl rfl (by decide) (by decide) (Nat.le_of_ble_eq_true rfl) (by decide) (by decide) ?_
  refine Z.if_neN B dX11_copy_115 (tgt := 124) rfl (by omega) (fun h115 => ?_) (fun h115 => by exfalso; first | omega | contradiction | simp_all)
  refine Z.aload B dX11_copy_124 (v := .ref (2 + 2 * t)) rfl rfl ?_
  refine Z.aload B dX11_copy_126 (v := .ref (2 + 2 * s)) rfl rfl ?_
  refine Z.iload_n B dX11_copy_128 (x := nI i) rfl ?_
  refine Z.iload B dX11_copy_129 (x := nI j) rfl ?_
  refine Z.iload B dX11_copy_131 (x := nI n) rfl ?_
  refine Z.callVN (σ := σ) B (M' := mX6_takeRun) (as := [.ref (2 + 2 * s), .int (nI i), .int (nI j), .int (nI n)]) (st := []) dX11_copy_133 wX6_takeRun iX6_takeRun sX6_takeRun kX11_94 (Nat.lt_of_succ_lt hqt.1) hqt.2.1 (by decide) rfl rfl (t_X6_takeRun (σ := σ) hqt hqs hy.2.2.1 hy.2.2.2.1 hx.2.2.1 hx.2.2.2.1 hi hj) rfl rfl (by decide) (by decide) (Nat.le_of_ble_eq_true rfl) (by decide) (by decide) ?_
  refine Z.eqσ (τ := (zuY σ (2 + 2 * t + 1) (va_cpy (zY σ (2 + 2 * s + 1)) (zY σ (2 + 2 * t + 1)) i j n))) rfl ?_
  refine Z.iconst B dX11_copy_136 (v := nI 1) rfl ?_
  refine Z.iret B Rt dX11_copy_137 (ty := .int) rfl rfl (by decide) (by decide) ?_
  exact ⟨rfl, rfl⟩

theorem t_K_copy_2_rw {σ : zSt} (hl : Lay σ) {s t : Nat} (hs : s < 8) (ht : t < 8) {o m : Nat} (hx : zRw σ (2 + 2 * s) o m) {j8 : Nat} (hy : zWa σ (2 + 2 * t) j8) {i j n : Int32}  : Dt mX11_copy [.ref 0, .int (nI s), .int (nI t), .int i, .int j, .int n] σ (some (.int (-nI 2))) (zuX σ 43 (upd (zX σ 43) 2 (zX σ 43 2 + nI 1))) := by
  have hqs := (hl.shelf hs).2
  have hqt := (hl.shelf ht).2
  refine Dt.of (by decide) (Nat.le_of_ble_eq_true rfl) fun κ B Rt => ?_
  show Z κ 0 0 σ 0 [(0, .ref 0), (1, .int (nI s)), (2, .int (nI t)), (3, .int i), (4, .int j), (5, .int n)] []
  refine Z.aload_n B dX11_copy_0 (v := .ref 0) rfl rfl ?_
  refine Z.iload_n B dX11_copy_1 (x := nI s) rfl ?_
  refine Z.callVI (σ := σ) B (M' := mX11_shelfAt) (as := [.int (nI s)]) (st := []) (v := .ref (2 + 2 * s)) dX11_copy_2 wX11_shelfAt iX11_shelfAt sX11_shelfAt kX11_59 (hl.n (k := 0) (by decide)) (hl.k (k := 0) (by decide)) (by decide) rfl rfl (t_X11_shelfAt_in (σ := σ) hl hs) rfl rfl (by decide) (by decide) (Nat.le_of_ble_eq_true rfl) (by decide) (by decide) ?_
  refine Z.astore B dX11_copy_5 (by decide) rfl (L' := [(0, .ref 0), (1, .int (nI s)), (2, .int (nI t)), (3, .int i), (4, .int j), (5, .int n), (6, .ref (2 + 2 * s))]) rfl ?_
  refine Z.aload_n B dX11_copy_7 (v := .ref 0) rfl rfl ?_
  refine Z.iload_n B dX11_copy_8 (x := nI t) rfl ?_
  refine Z.callVI (σ := σ) B (M' := mX11_shelfAt) (as := [.int (nI t)]) (st := []) (v := .ref (2 + 2 * t)) dX11_copy_9 wX11_shelfAt iX11_shelfAt sX11_shelfAt kX11_59 (hl.n (k := 0) (by decide)) (hl.k (k := 0) (by decide)) (by decide) rfl rfl (t_X11_shelfAt_in (σ := σ) hl ht) rfl rfl (by decide) (by decide) (Nat.le_of_ble_eq_true rfl) (by decide) (by decide) ?_
  refine Z.astore B dX11_copy_12 (by decide) rfl (L' := [(0, .ref 0), (1, .int (nI s)), (2, .int (nI t)), (3, .int i), (4, .int j), (5, .int n), (6, .ref (2 + 2 * s)), (7, .ref (2 + 2 * t))]) rfl ?_
  refine Z.aload B dX11_copy_14 (v := .ref (2 + 2 * s)) rfl rfl ?_
  refine Z.ifnull_r B dX11_copy_16 ?_
  refine Z.aload B dX11_copy_19 (v := .ref (2 + 2 * t)) rfl rfl ?_
  refine Z.ifnonnull_r B dX11_copy_21 (tgt := 30) rfl ?_
  refine Z.aload B dX11_copy_30 (v := .ref (2 + 2 * s)) rfl rfl ?_
  refine Z.callVI (σ := σ) B (M' := mX6_holdsWay) (as := []) (st := []) (v := .int (nI 0)) dX11_copy_32 wX6_holdsWay iX6_holdsWay sX6_holdsWay kX11_87 (Nat.lt_of_succ_lt hqs.1) hqs.2.1 (by decide) rfl rfl (t_X6_holdsWay_0 (σ := σ) hqs hx.2.2.2.2) rfl rfl (by decide) (by decide) (Nat.le_of_ble_eq_true rfl) (by decide) (by decide) ?_
  refine Z.if_neN B dX11_copy_35 (tgt := 56) rfl (by omega) (fun h35 => by exfalso; first | omega | contradiction | simp_all) (fun h35 => ?_)
  refine Z.aload B dX11_copy_38 (v := .ref (2 + 2 * t)) rfl rfl ?_
  refine Z.callVI (σ := σ) B (M' := mX6_holdsWay) (as := []) (st := []) (v := .int (nI 1)) dX11_copy_40 wX6_holdsWay iX6_holdsWay sX6_holdsWay kX11_87 (Nat.lt_of_succ_lt hqt.1) hqt.2.1 (by decide) rfl rfl (t_X6_holdsWay_1 (σ := σ) hqt (Nat.lt_trans hy.2.2.2 (by decide)) hy.2.2.1) rfl rfl (by decide) (by decide) (Nat.le_of_ble_eq_true rfl) (by decide) (by decide) ?_
  refine Z.if_neN B dX11_copy_43 (tgt := 56) rfl (by omega) (fun h43 => ?_) (fun h43 => by exfalso; first | omega | contradiction | simp_all)
  refine Z.aload_n B dX11_copy_56 (v := .ref 0) rfl rfl ?_
  refine Z.iconst B dX11_copy_57 (v := nI 2) rfl ?_
  refine Z.callVI (σ := σ) B (M' := mX11_refuse) (as := [.int (nI 2)]) (st := []) (v := .int (-nI 2)) dX11_copy_58 wX11_refuse iX11_refuse sX11_refuse kX11_63 (hl.n (k := 0) (by decide)) (hl.k (k := 0) (by decide)) (by decide) rfl rfl (t_X11_refuse (σ := σ) hl (b := 2) (by decide)) rfl rfl (by decide) (by decide) (Nat.le_of_ble_eq_true rfl) (by decide) (by decide) ?_
  refine Z.eqσ (τ := (zuX σ 43 (upd (zX σ 43) 2 (zX σ 43 2 + nI 1)))) rfl ?_
  refine Z.iret B Rt dX11_copy_61 (ty := .int) rfl rfl (by decide) (by decide) ?_
  exact ⟨rfl, rfl⟩

theorem t_K_copy_3_rn {σ : zSt} (hl : Lay σ) {s t : Nat} (hs : s < 8) (ht : t < 8) {o m : Nat} (hx : zRw σ (2 + 2 * s) o m) (hy : zNo σ (2 + 2 * t)) {i j n : Int32}  : Dt mX11_copy [.ref 0, .int (nI s), .int (nI t), .int i, .int j, .int n] σ (some (.int (-nI 3))) (zuX σ 43 (upd (zX σ 43) 3 (zX σ 43 3 + nI 1))) := by
  have hqs := (hl.shelf hs).2
  have hqt := (hl.shelf ht).2
  refine Dt.of (by decide) (Nat.le_of_ble_eq_true rfl) fun κ B Rt => ?_
  show Z κ 0 0 σ 0 [(0, .ref 0), (1, .int (nI s)), (2, .int (nI t)), (3, .int i), (4, .int j), (5, .int n)] []
  refine Z.aload_n B dX11_copy_0 (v := .ref 0) rfl rfl ?_
  refine Z.iload_n B dX11_copy_1 (x := nI s) rfl ?_
  refine Z.callVI (σ := σ) B (M' := mX11_shelfAt) (as := [.int (nI s)]) (st := []) (v := .ref (2 + 2 * s)) dX11_copy_2 wX11_shelfAt iX11_shelfAt sX11_shelfAt kX11_59 (hl.n (k := 0) (by decide)) (hl.k (k := 0) (by decide)) (by decide) rfl rfl (t_X11_shelfAt_in (σ := σ) hl hs) rfl rfl (by decide) (by decide) (Nat.le_of_ble_eq_true rfl) (by decide) (by decide) ?_
  refine Z.astore B dX11_copy_5 (by decide) rfl (L' := [(0, .ref 0), (1, .int (nI s)), (2, .int (nI t)), (3, .int i), (4, .int j), (5, .int n), (6, .ref (2 + 2 * s))]) rfl ?_
  refine Z.aload_n B dX11_copy_7 (v := .ref 0) rfl rfl ?_
  refine Z.iload_n B dX11_copy_8 (x := nI t) rfl ?_
  refine Z.callVI (σ := σ) B (M' := mX11_shelfAt) (as := [.int (nI t)]) (st := []) (v := .ref (2 + 2 * t)) dX11_copy_9 wX11_shelfAt iX11_shelfAt sX11_shelfAt kX11_59 (hl.n (k := 0) (by decide)) (hl.k (k := 0) (by decide)) (by decide) rfl rfl (t_X11_shelfAt_in (σ := σ) hl ht) rfl rfl (by decide) (by decide) (Nat.le_of_ble_eq_true rfl) (by decide) (by decide) ?_
  refine Z.astore B dX11_copy_12 (by decide) rfl (L' := [(0, .ref 0), (1, .int (nI s)), (2, .int (nI t)), (3, .int i), (4, .int j), (5, .int n), (6, .ref (2 + 2 * s)), (7, .ref (2 + 2 * t))]) rfl ?_
  refine Z.aload B dX11_copy_14 (v := .ref (2 + 2 * s)) rfl rfl ?_
  refine Z.ifnull_r B dX11_copy_16 ?_
  refine Z.aload B dX11_copy_19 (v := .ref (2 + 2 * t)) rfl rfl ?_
  refine Z.ifnonnull_r B dX11_copy_21 (tgt := 30) rfl ?_
  refine Z.aload B dX11_copy_30 (v := .ref (2 + 2 * s)) rfl rfl ?_
  refine Z.callVI (σ := σ) B (M' := mX6_holdsWay) (as := []) (st := []) (v := .int (nI 0)) dX11_copy_32 wX6_holdsWay iX6_holdsWay sX6_holdsWay kX11_87 (Nat.lt_of_succ_lt hqs.1) hqs.2.1 (by decide) rfl rfl (t_X6_holdsWay_0 (σ := σ) hqs hx.2.2.2.2) rfl rfl (by decide) (by decide) (Nat.le_of_ble_eq_true rfl) (by decide) (by decide) ?_
  refine Z.if_neN B dX11_copy_35 (tgt := 56) rfl (by omega) (fun h35 => by exfalso; first | omega | contradiction | simp_all) (fun h35 => ?_)
  refine Z.aload B dX11_copy_38 (v := .ref (2 + 2 * t)) rfl rfl ?_
  refine Z.callVI (σ := σ) B (M' := mX6_holdsWay) (as := []) (st := []) (v := .int (nI 0)) dX11_copy_40 wX6_holdsWay iX6_holdsWay sX6_holdsWay kX11_87 (Nat.lt_of_succ_lt hqt.1) hqt.2.1 (by decide) rfl rfl (t_X6_holdsWay_0 (σ := σ) hqt hy.2.2) rfl rfl (by decide) (by decide) (Nat.le_of_ble_eq_true rfl) (by decide) (by decide) ?_
  refine Z.if_neN B dX11_copy_43 (tgt := 56) rfl (by omega) (fun h43 => by exfalso; first | omega | contradiction | simp_all) (fun h43 => ?_)
  refine Z.aload B dX11_copy_46 (v := .ref (2 + 2 * s)) rfl rfl ?_
  refine Z.aload B dX11_copy_48 (v := .ref (2 + 2 * t)) rfl rfl ?_
  refine Z.callVI (σ := σ) B (M' := mX6_isOfOtherSort) (as := [.ref (2 + 2 * t)]) (st := []) (v := .int (nI 0)) dX11_copy_50 wX6_isOfOtherSort iX6_isOfOtherSort sX6_isOfOtherSort kX11_90 (Nat.lt_of_succ_lt hqs.1) hqs.2.1 (by decide) rfl rfl (t_X6_iso_b (σ := σ) hqs hqt hx.2.1 hx.1 hy.1) rfl rfl (by decide) (by decide) (Nat.le_of_ble_eq_true rfl) (by decide) (by decide) ?_
  refine Z.if_eqN B dX11_copy_53 (tgt := 62) rfl (by omega) (fun h53 => ?_) (fun h53 => by exfalso; first | omega | contradiction | simp_all)
  refine Z.aload B dX11_copy_62 (v := .ref (2 + 2 * s)) rfl rfl ?_
  refine Z.callVI (σ := σ) B (M' := mX6_holdsRow) (as := []) (st := []) (v := .int (nI 1)) dX11_copy_64 wX6_holdsRow iX6_holdsRow sX6_holdsRow kX11_71 (Nat.lt_of_succ_lt hqs.1) hqs.2.1 (by decide) rfl rfl (t_X6_holdsRow_1 (σ := σ) hqs (Nat.lt_of_le_of_lt hx.2.1 (by decide)) hx.1) rfl rfl (by decide) (by decide) (Nat.le_of_ble_eq_true rfl) (by decide) (by decide) ?_
  refine Z.if_eqN B dX11_copy_67 (tgt := 78) rfl (by omega) (fun h67 => by exfalso; first | omega | contradiction | simp_all) (fun h67 => ?_)
  refine Z.aload B dX11_copy_70 (v := .ref (2 + 2 * t)) rfl rfl ?_
  refine Z.callVI (σ := σ) B (M' := mX6_holdsRow) (as := []) (st := []) (v := .int (nI 0)) dX11_copy_72 wX6_holdsRow iX6_holdsRow sX6_holdsRow kX11_71 (Nat.lt_of_succ_lt hqt.1) hqt.2.1 (by decide) rfl rfl (t_X6_holdsRow_0 (σ := σ) hqt hy.1) rfl rfl (by decide) (by decide) (Nat.le_of_ble_eq_true rfl) (by decide) (by decide) ?_
  refine Z.if_neN B dX11_copy_75 (tgt := 84) rfl (by omega) (fun h75 => by exfalso; first | omega | contradiction | simp_all) (fun h75 => ?_)
  refine Z.aload_n B dX11_copy_78 (v := .ref 0) rfl rfl ?_
  refine Z.iconst B dX11_copy_79 (v := nI 3) rfl ?_
  refine Z.callVI (σ := σ) B (M' := mX11_refuse) (as := [.int (nI 3)]) (st := []) (v := .int (-nI 3)) dX11_copy_80 wX11_refuse iX11_refuse sX11_refuse kX11_63 (hl.n (k := 0) (by decide)) (hl.k (k := 0) (by decide)) (by decide) rfl rfl (t_X11_refuse (σ := σ) hl (b := 3) (by decide)) rfl rfl (by decide) (by decide) (Nat.le_of_ble_eq_true rfl) (by decide) (by decide) ?_
  refine Z.eqσ (τ := (zuX σ 43 (upd (zX σ 43) 3 (zX σ 43 3 + nI 1)))) rfl ?_
  refine Z.iret B Rt dX11_copy_83 (ty := .int) rfl rfl (by decide) (by decide) ?_
  exact ⟨rfl, rfl⟩

theorem t_K_copy_2_wr {σ : zSt} (hl : Lay σ) {s t : Nat} (hs : s < 8) (ht : t < 8) {i8 : Nat} (hx : zWa σ (2 + 2 * s) i8) {o2 m2 : Nat} (hy : zRw σ (2 + 2 * t) o2 m2) {i j n : Int32}  : Dt mX11_copy [.ref 0, .int (nI s), .int (nI t), .int i, .int j, .int n] σ (some (.int (-nI 2))) (zuX σ 43 (upd (zX σ 43) 2 (zX σ 43 2 + nI 1))) := by
  have hqs := (hl.shelf hs).2
  have hqt := (hl.shelf ht).2
  refine Dt.of (by decide) (Nat.le_of_ble_eq_true rfl) fun κ B Rt => ?_
  show Z κ 0 0 σ 0 [(0, .ref 0), (1, .int (nI s)), (2, .int (nI t)), (3, .int i), (4, .int j), (5, .int n)] []
  refine Z.aload_n B dX11_copy_0 (v := .ref 0) rfl rfl ?_
  refine Z.iload_n B dX11_copy_1 (x := nI s) rfl ?_
  refine Z.callVI (σ := σ) B (M' := mX11_shelfAt) (as := [.int (nI s)]) (st := []) (v := .ref (2 + 2 * s)) dX11_copy_2 wX11_shelfAt iX11_shelfAt sX11_shelfAt kX11_59 (hl.n (k := 0) (by decide)) (hl.k (k := 0) (by decide)) (by decide) rfl rfl (t_X11_shelfAt_in (σ := σ) hl hs) rfl rfl (by decide) (by decide) (Nat.le_of_ble_eq_true rfl) (by decide) (by decide) ?_
  refine Z.astore B dX11_copy_5 (by decide) rfl (L' := [(0, .ref 0), (1, .int (nI s)), (2, .int (nI t)), (3, .int i), (4, .int j), (5, .int n), (6, .ref (2 + 2 * s))]) rfl ?_
  refine Z.aload_n B dX11_copy_7 (v := .ref 0) rfl rfl ?_
  refine Z.iload_n B dX11_copy_8 (x := nI t) rfl ?_
  refine Z.callVI (σ := σ) B (M' := mX11_shelfAt) (as := [.int (nI t)]) (st := []) (v := .ref (2 + 2 * t)) dX11_copy_9 wX11_shelfAt iX11_shelfAt sX11_shelfAt kX11_59 (hl.n (k := 0) (by decide)) (hl.k (k := 0) (by decide)) (by decide) rfl rfl (t_X11_shelfAt_in (σ := σ) hl ht) rfl rfl (by decide) (by decide) (Nat.le_of_ble_eq_true rfl) (by decide) (by decide) ?_
  refine Z.astore B dX11_copy_12 (by decide) rfl (L' := [(0, .ref 0), (1, .int (nI s)), (2, .int (nI t)), (3, .int i), (4, .int j), (5, .int n), (6, .ref (2 + 2 * s)), (7, .ref (2 + 2 * t))]) rfl ?_
  refine Z.aload B dX11_copy_14 (v := .ref (2 + 2 * s)) rfl rfl ?_
  refine Z.ifnull_r B dX11_copy_16 ?_
  refine Z.aload B dX11_copy_19 (v := .ref (2 + 2 * t)) rfl rfl ?_
  refine Z.ifnonnull_r B dX11_copy_21 (tgt := 30) rfl ?_
  refine Z.aload B dX11_copy_30 (v := .ref (2 + 2 * s)) rfl rfl ?_
  refine Z.callVI (σ := σ) B (M' := mX6_holdsWay) (as := []) (st := []) (v := .int (nI 1)) dX11_copy_32 wX6_holdsWay iX6_holdsWay sX6_holdsWay kX11_87 (Nat.lt_of_succ_lt hqs.1) hqs.2.1 (by decide) rfl rfl (t_X6_holdsWay_1 (σ := σ) hqs (Nat.lt_trans hx.2.2.2 (by decide)) hx.2.2.1) rfl rfl (by decide) (by decide) (Nat.le_of_ble_eq_true rfl) (by decide) (by decide) ?_
  refine Z.if_neN B dX11_copy_35 (tgt := 56) rfl (by omega) (fun h35 => ?_) (fun h35 => by exfalso; first | omega | contradiction | simp_all)
  refine Z.aload_n B dX11_copy_56 (v := .ref 0) rfl rfl ?_
  refine Z.iconst B dX11_copy_57 (v := nI 2) rfl ?_
  refine Z.callVI (σ := σ) B (M' := mX11_refuse) (as := [.int (nI 2)]) (st := []) (v := .int (-nI 2)) dX11_copy_58 wX11_refuse iX11_refuse sX11_refuse kX11_63 (hl.n (k := 0) (by decide)) (hl.k (k := 0) (by decide)) (by decide) rfl rfl (t_X11_refuse (σ := σ) hl (b := 2) (by decide)) rfl rfl (by decide) (by decide) (Nat.le_of_ble_eq_true rfl) (by decide) (by decide) ?_
  refine Z.eqσ (τ := (zuX σ 43 (upd (zX σ 43) 2 (zX σ 43 2 + nI 1)))) rfl ?_
  refine Z.iret B Rt dX11_copy_61 (ty := .int) rfl rfl (by decide) (by decide) ?_
  exact ⟨rfl, rfl⟩

theorem t_K_copy_2_ww {σ : zSt} (hl : Lay σ) {s t : Nat} (hs : s < 8) (ht : t < 8) {i8 : Nat} (hx : zWa σ (2 + 2 * s) i8) {j8 : Nat} (hy : zWa σ (2 + 2 * t) j8) {i j n : Int32}  : Dt mX11_copy [.ref 0, .int (nI s), .int (nI t), .int i, .int j, .int n] σ (some (.int (-nI 2))) (zuX σ 43 (upd (zX σ 43) 2 (zX σ 43 2 + nI 1))) := by
  have hqs := (hl.shelf hs).2
  have hqt := (hl.shelf ht).2
  refine Dt.of (by decide) (Nat.le_of_ble_eq_true rfl) fun κ B Rt => ?_
  show Z κ 0 0 σ 0 [(0, .ref 0), (1, .int (nI s)), (2, .int (nI t)), (3, .int i), (4, .int j), (5, .int n)] []
  refine Z.aload_n B dX11_copy_0 (v := .ref 0) rfl rfl ?_
  refine Z.iload_n B dX11_copy_1 (x := nI s) rfl ?_
  refine Z.callVI (σ := σ) B (M' := mX11_shelfAt) (as := [.int (nI s)]) (st := []) (v := .ref (2 + 2 * s)) dX11_copy_2 wX11_shelfAt iX11_shelfAt sX11_shelfAt kX11_59 (hl.n (k := 0) (by decide)) (hl.k (k := 0) (by decide)) (by decide) rfl rfl (t_X11_shelfAt_in (σ := σ) hl hs) rfl rfl (by decide) (by decide) (Nat.le_of_ble_eq_true rfl) (by decide) (by decide) ?_
  refine Z.astore B dX11_copy_5 (by decide) rfl (L' := [(0, .ref 0), (1, .int (nI s)), (2, .int (nI t)), (3, .int i), (4, .int j), (5, .int n), (6, .ref (2 + 2 * s))]) rfl ?_
  refine Z.aload_n B dX11_copy_7 (v := .ref 0) rfl rfl ?_
  refine Z.iload_n B dX11_copy_8 (x := nI t) rfl ?_
  refine Z.callVI (σ := σ) B (M' := mX11_shelfAt) (as := [.int (nI t)]) (st := []) (v := .ref (2 + 2 * t)) dX11_copy_9 wX11_shelfAt iX11_shelfAt sX11_shelfAt kX11_59 (hl.n (k := 0) (by decide)) (hl.k (k := 0) (by decide)) (by decide) rfl rfl (t_X11_shelfAt_in (σ := σ) hl ht) rfl rfl (by decide) (by decide) (Nat.le_of_ble_eq_true rfl) (by decide) (by decide) ?_
  refine Z.astore B dX11_copy_12 (by decide) rfl (L' := [(0, .ref 0), (1, .int (nI s)), (2, .int (nI t)), (3, .int i), (4, .int j), (5, .int n), (6, .ref (2 + 2 * s)), (7, .ref (2 + 2 * t))]) rfl ?_
  refine Z.aload B dX11_copy_14 (v := .ref (2 + 2 * s)) rfl rfl ?_
  refine Z.ifnull_r B dX11_copy_16 ?_
  refine Z.aload B dX11_copy_19 (v := .ref (2 + 2 * t)) rfl rfl ?_
  refine Z.ifnonnull_r B dX11_copy_21 (tgt := 30) rfl ?_
  refine Z.aload B dX11_copy_30 (v := .ref (2 + 2 * s)) rfl rfl ?_
  refine Z.callVI (σ := σ) B (M' := mX6_holdsWay) (as := []) (st := []) (v := .int (nI 1)) dX11_copy_32 wX6_holdsWay iX6_holdsWay sX6_holdsWay kX11_87 (Nat.lt_of_succ_lt hqs.1) hqs.2.1 (by decide) rfl rfl (t_X6_holdsWay_1 (σ := σ) hqs (Nat.lt_trans hx.2.2.2 (by decide)) hx.2.2.1) rfl rfl (by decide) (by decide) (Nat.le_of_ble_eq_true rfl) (by decide) (by decide) ?_
  refine Z.if_neN B dX11_copy_35 (tgt := 56) rfl (by omega) (fun h35 => ?_) (fun h35 => by exfalso; first | omega | contradiction | simp_all)
  refine Z.aload_n B dX11_copy_56 (v := .ref 0) rfl rfl ?_
  refine Z.iconst B dX11_copy_57 (v := nI 2) rfl ?_
  refine Z.callVI (σ := σ) B (M' := mX11_refuse) (as := [.int (nI 2)]) (st := []) (v := .int (-nI 2)) dX11_copy_58 wX11_refuse iX11_refuse sX11_refuse kX11_63 (hl.n (k := 0) (by decide)) (hl.k (k := 0) (by decide)) (by decide) rfl rfl (t_X11_refuse (σ := σ) hl (b := 2) (by decide)) rfl rfl (by decide) (by decide) (Nat.le_of_ble_eq_true rfl) (by decide) (by decide) ?_
  refine Z.eqσ (τ := (zuX σ 43 (upd (zX σ 43) 2 (zX σ 43 2 + nI 1)))) rfl ?_
  refine Z.iret B Rt dX11_copy_61 (ty := .int) rfl rfl (by decide) (by decide) ?_
  exact ⟨rfl, rfl⟩

theorem t_K_copy_2_wn {σ : zSt} (hl : Lay σ) {s t : Nat} (hs : s < 8) (ht : t < 8) {i8 : Nat} (hx : zWa σ (2 + 2 * s) i8) (hy : zNo σ (2 + 2 * t)) {i j n : Int32}  : Dt mX11_copy [.ref 0, .int (nI s), .int (nI t), .int i, .int j, .int n] σ (some (.int (-nI 2))) (zuX σ 43 (upd (zX σ 43) 2 (zX σ 43 2 + nI 1))) := by
  have hqs := (hl.shelf hs).2
  have hqt := (hl.shelf ht).2
  refine Dt.of (by decide) (Nat.le_of_ble_eq_true rfl) fun κ B Rt => ?_
  show Z κ 0 0 σ 0 [(0, .ref 0), (1, .int (nI s)), (2, .int (nI t)), (3, .int i), (4, .int j), (5, .int n)] []
  refine Z.aload_n B dX11_copy_0 (v := .ref 0) rfl rfl ?_
  refine Z.iload_n B dX11_copy_1 (x := nI s) rfl ?_
  refine Z.callVI (σ := σ) B (M' := mX11_shelfAt) (as := [.int (nI s)]) (st := []) (v := .ref (2 + 2 * s)) dX11_copy_2 wX11_shelfAt iX11_shelfAt sX11_shelfAt kX11_59 (hl.n (k := 0) (by decide)) (hl.k (k := 0) (by decide)) (by decide) rfl rfl (t_X11_shelfAt_in (σ := σ) hl hs) rfl rfl (by decide) (by decide) (Nat.le_of_ble_eq_true rfl) (by decide) (by decide) ?_
  refine Z.astore B dX11_copy_5 (by decide) rfl (L' := [(0, .ref 0), (1, .int (nI s)), (2, .int (nI t)), (3, .int i), (4, .int j), (5, .int n), (6, .ref (2 + 2 * s))]) rfl ?_
  refine Z.aload_n B dX11_copy_7 (v := .ref 0) rfl rfl ?_
  refine Z.iload_n B dX11_copy_8 (x := nI t) rfl ?_
  refine Z.callVI (σ := σ) B (M' := mX11_shelfAt) (as := [.int (nI t)]) (st := []) (v := .ref (2 + 2 * t)) dX11_copy_9 wX11_shelfAt iX11_shelfAt sX11_shelfAt kX11_59 (hl.n (k := 0) (by decide)) (hl.k (k := 0) (by decide)) (by decide) rfl rfl (t_X11_shelfAt_in (σ := σ) hl ht) rfl rfl (by decide) (by decide) (Nat.le_of_ble_eq_true rfl) (by decide) (by decide) ?_
  refine Z.astore B dX11_copy_12 (by decide) rfl (L' := [(0, .ref 0), (1, .int (nI s)), (2, .int (nI t)), (3, .int i), (4, .int j), (5, .int n), (6, .ref (2 + 2 * s)), (7, .ref (2 + 2 * t))]) rfl ?_
  refine Z.aload B dX11_copy_14 (v := .ref (2 + 2 * s)) rfl rfl ?_
  refine Z.ifnull_r B dX11_copy_16 ?_
  refine Z.aload B dX11_copy_19 (v := .ref (2 + 2 * t)) rfl rfl ?_
  refine Z.ifnonnull_r B dX11_copy_21 (tgt := 30) rfl ?_
  refine Z.aload B dX11_copy_30 (v := .ref (2 + 2 * s)) rfl rfl ?_
  refine Z.callVI (σ := σ) B (M' := mX6_holdsWay) (as := []) (st := []) (v := .int (nI 1)) dX11_copy_32 wX6_holdsWay iX6_holdsWay sX6_holdsWay kX11_87 (Nat.lt_of_succ_lt hqs.1) hqs.2.1 (by decide) rfl rfl (t_X6_holdsWay_1 (σ := σ) hqs (Nat.lt_trans hx.2.2.2 (by decide)) hx.2.2.1) rfl rfl (by decide) (by decide) (Nat.le_of_ble_eq_true rfl) (by decide) (by decide) ?_
  refine Z.if_neN B dX11_copy_35 (tgt := 56) rfl (by omega) (fun h35 => ?_) (fun h35 => by exfalso; first | omega | contradiction | simp_all)
  refine Z.aload_n B dX11_copy_56 (v := .ref 0) rfl rfl ?_
  refine Z.iconst B dX11_copy_57 (v := nI 2) rfl ?_
  refine Z.callVI (σ := σ) B (M' := mX11_refuse) (as := [.int (nI 2)]) (st := []) (v := .int (-nI 2)) dX11_copy_58 wX11_refuse iX11_refuse sX11_refuse kX11_63 (hl.n (k := 0) (by decide)) (hl.k (k := 0) (by decide)) (by decide) rfl rfl (t_X11_refuse (σ := σ) hl (b := 2) (by decide)) rfl rfl (by decide) (by decide) (Nat.le_of_ble_eq_true rfl) (by decide) (by decide) ?_
  refine Z.eqσ (τ := (zuX σ 43 (upd (zX σ 43) 2 (zX σ 43 2 + nI 1)))) rfl ?_
  refine Z.iret B Rt dX11_copy_61 (ty := .int) rfl rfl (by decide) (by decide) ?_
  exact ⟨rfl, rfl⟩

theorem t_K_copy_3_nr {σ : zSt} (hl : Lay σ) {s t : Nat} (hs : s < 8) (ht : t < 8) (hx : zNo σ (2 + 2 * s)) {o2 m2 : Nat} (hy : zRw σ (2 + 2 * t) o2 m2) {i j n : Int32}  : Dt mX11_copy [.ref 0, .int (nI s), .int (nI t), .int i, .int j, .int n] σ (some (.int (-nI 3))) (zuX σ 43 (upd (zX σ 43) 3 (zX σ 43 3 + nI 1))) := by
  have hqs := (hl.shelf hs).2
  have hqt := (hl.shelf ht).2
  refine Dt.of (by decide) (Nat.le_of_ble_eq_true rfl) fun κ B Rt => ?_
  show Z κ 0 0 σ 0 [(0, .ref 0), (1, .int (nI s)), (2, .int (nI t)), (3, .int i), (4, .int j), (5, .int n)] []
  refine Z.aload_n B dX11_copy_0 (v := .ref 0) rfl rfl ?_
  refine Z.iload_n B dX11_copy_1 (x := nI s) rfl ?_
  refine Z.callVI (σ := σ) B (M' := mX11_shelfAt) (as := [.int (nI s)]) (st := []) (v := .ref (2 + 2 * s)) dX11_copy_2 wX11_shelfAt iX11_shelfAt sX11_shelfAt kX11_59 (hl.n (k := 0) (by decide)) (hl.k (k := 0) (by decide)) (by decide) rfl rfl (t_X11_shelfAt_in (σ := σ) hl hs) rfl rfl (by decide) (by decide) (Nat.le_of_ble_eq_true rfl) (by decide) (by decide) ?_
  refine Z.astore B dX11_copy_5 (by decide) rfl (L' := [(0, .ref 0), (1, .int (nI s)), (2, .int (nI t)), (3, .int i), (4, .int j), (5, .int n), (6, .ref (2 + 2 * s))]) rfl ?_
  refine Z.aload_n B dX11_copy_7 (v := .ref 0) rfl rfl ?_
  refine Z.iload_n B dX11_copy_8 (x := nI t) rfl ?_
  refine Z.callVI (σ := σ) B (M' := mX11_shelfAt) (as := [.int (nI t)]) (st := []) (v := .ref (2 + 2 * t)) dX11_copy_9 wX11_shelfAt iX11_shelfAt sX11_shelfAt kX11_59 (hl.n (k := 0) (by decide)) (hl.k (k := 0) (by decide)) (by decide) rfl rfl (t_X11_shelfAt_in (σ := σ) hl ht) rfl rfl (by decide) (by decide) (Nat.le_of_ble_eq_true rfl) (by decide) (by decide) ?_
  refine Z.astore B dX11_copy_12 (by decide) rfl (L' := [(0, .ref 0), (1, .int (nI s)), (2, .int (nI t)), (3, .int i), (4, .int j), (5, .int n), (6, .ref (2 + 2 * s)), (7, .ref (2 + 2 * t))]) rfl ?_
  refine Z.aload B dX11_copy_14 (v := .ref (2 + 2 * s)) rfl rfl ?_
  refine Z.ifnull_r B dX11_copy_16 ?_
  refine Z.aload B dX11_copy_19 (v := .ref (2 + 2 * t)) rfl rfl ?_
  refine Z.ifnonnull_r B dX11_copy_21 (tgt := 30) rfl ?_
  refine Z.aload B dX11_copy_30 (v := .ref (2 + 2 * s)) rfl rfl ?_
  refine Z.callVI (σ := σ) B (M' := mX6_holdsWay) (as := []) (st := []) (v := .int (nI 0)) dX11_copy_32 wX6_holdsWay iX6_holdsWay sX6_holdsWay kX11_87 (Nat.lt_of_succ_lt hqs.1) hqs.2.1 (by decide) rfl rfl (t_X6_holdsWay_0 (σ := σ) hqs hx.2.2) rfl rfl (by decide) (by decide) (Nat.le_of_ble_eq_true rfl) (by decide) (by decide) ?_
  refine Z.if_neN B dX11_copy_35 (tgt := 56) rfl (by omega) (fun h35 => by exfalso; first | omega | contradiction | simp_all) (fun h35 => ?_)
  refine Z.aload B dX11_copy_38 (v := .ref (2 + 2 * t)) rfl rfl ?_
  refine Z.callVI (σ := σ) B (M' := mX6_holdsWay) (as := []) (st := []) (v := .int (nI 0)) dX11_copy_40 wX6_holdsWay iX6_holdsWay sX6_holdsWay kX11_87 (Nat.lt_of_succ_lt hqt.1) hqt.2.1 (by decide) rfl rfl (t_X6_holdsWay_0 (σ := σ) hqt hy.2.2.2.2) rfl rfl (by decide) (by decide) (Nat.le_of_ble_eq_true rfl) (by decide) (by decide) ?_
  refine Z.if_neN B dX11_copy_43 (tgt := 56) rfl (by omega) (fun h43 => by exfalso; first | omega | contradiction | simp_all) (fun h43 => ?_)
  refine Z.aload B dX11_copy_46 (v := .ref (2 + 2 * s)) rfl rfl ?_
  refine Z.aload B dX11_copy_48 (v := .ref (2 + 2 * t)) rfl rfl ?_
  refine Z.callVI (σ := σ) B (M' := mX6_isOfOtherSort) (as := [.ref (2 + 2 * t)]) (st := []) (v := .int (nI 0)) dX11_copy_50 wX6_isOfOtherSort iX6_isOfOtherSort sX6_isOfOtherSort kX11_90 (Nat.lt_of_succ_lt hqs.1) hqs.2.1 (by decide) rfl rfl (t_X6_iso_a (σ := σ) hqs hqt hx.1) rfl rfl (by decide) (by decide) (Nat.le_of_ble_eq_true rfl) (by decide) (by decide) ?_
  refine Z.if_eqN B dX11_copy_53 (tgt := 62) rfl (by omega) (fun h53 => ?_) (fun h53 => by exfalso; first | omega | contradiction | simp_all)
  refine Z.aload B dX11_copy_62 (v := .ref (2 + 2 * s)) rfl rfl ?_
  refine Z.callVI (σ := σ) B (M' := mX6_holdsRow) (as := []) (st := []) (v := .int (nI 0)) dX11_copy_64 wX6_holdsRow iX6_holdsRow sX6_holdsRow kX11_71 (Nat.lt_of_succ_lt hqs.1) hqs.2.1 (by decide) rfl rfl (t_X6_holdsRow_0 (σ := σ) hqs hx.1) rfl rfl (by decide) (by decide) (Nat.le_of_ble_eq_true rfl) (by decide) (by decide) ?_
  refine Z.if_eqN B dX11_copy_67 (tgt := 78) rfl (by omega) (fun h67 => ?_) (fun h67 => by exfalso; first | omega | contradiction | simp_all)
  refine Z.aload_n B dX11_copy_78 (v := .ref 0) rfl rfl ?_
  refine Z.iconst B dX11_copy_79 (v := nI 3) rfl ?_
  refine Z.callVI (σ := σ) B (M' := mX11_refuse) (as := [.int (nI 3)]) (st := []) (v := .int (-nI 3)) dX11_copy_80 wX11_refuse iX11_refuse sX11_refuse kX11_63 (hl.n (k := 0) (by decide)) (hl.k (k := 0) (by decide)) (by decide) rfl rfl (t_X11_refuse (σ := σ) hl (b := 3) (by decide)) rfl rfl (by decide) (by decide) (Nat.le_of_ble_eq_true rfl) (by decide) (by decide) ?_
  refine Z.eqσ (τ := (zuX σ 43 (upd (zX σ 43) 3 (zX σ 43 3 + nI 1)))) rfl ?_
  refine Z.iret B Rt dX11_copy_83 (ty := .int) rfl rfl (by decide) (by decide) ?_
  exact ⟨rfl, rfl⟩

theorem t_K_copy_2_nw {σ : zSt} (hl : Lay σ) {s t : Nat} (hs : s < 8) (ht : t < 8) (hx : zNo σ (2 + 2 * s)) {j8 : Nat} (hy : zWa σ (2 + 2 * t) j8) {i j n : Int32}  : Dt mX11_copy [.ref 0, .int (nI s), .int (nI t), .int i, .int j, .int n] σ (some (.int (-nI 2))) (zuX σ 43 (upd (zX σ 43) 2 (zX σ 43 2 + nI 1))) := by
  have hqs := (hl.shelf hs).2
  have hqt := (hl.shelf ht).2
  refine Dt.of (by decide) (Nat.le_of_ble_eq_true rfl) fun κ B Rt => ?_
  show Z κ 0 0 σ 0 [(0, .ref 0), (1, .int (nI s)), (2, .int (nI t)), (3, .int i), (4, .int j), (5, .int n)] []
  refine Z.aload_n B dX11_copy_0 (v := .ref 0) rfl rfl ?_
  refine Z.iload_n B dX11_copy_1 (x := nI s) rfl ?_
  refine Z.callVI (σ := σ) B (M' := mX11_shelfAt) (as := [.int (nI s)]) (st := []) (v := .ref (2 + 2 * s)) dX11_copy_2 wX11_shelfAt iX11_shelfAt sX11_shelfAt kX11_59 (hl.n (k := 0) (by decide)) (hl.k (k := 0) (by decide)) (by decide) rfl rfl (t_X11_shelfAt_in (σ := σ) hl hs) rfl rfl (by decide) (by decide) (Nat.le_of_ble_eq_true rfl) (by decide) (by decide) ?_
  refine Z.astore B dX11_copy_5 (by decide) rfl (L' := [(0, .ref 0), (1, .int (nI s)), (2, .int (nI t)), (3, .int i), (4, .int j), (5, .int n), (6, .ref (2 + 2 * s))]) rfl ?_
  refine Z.aload_n B dX11_copy_7 (v := .ref 0) rfl rfl ?_
  refine Z.iload_n B dX11_copy_8 (x := nI t) rfl ?_
  refine Z.callVI (σ := σ) B (M' := mX11_shelfAt) (as := [.int (nI t)]) (st := []) (v := .ref (2 + 2 * t)) dX11_copy_9 wX11_shelfAt iX11_shelfAt sX11_shelfAt kX11_59 (hl.n (k := 0) (by decide)) (hl.k (k := 0) (by decide)) (by decide) rfl rfl (t_X11_shelfAt_in (σ := σ) hl ht) rfl rfl (by decide) (by decide) (Nat.le_of_ble_eq_true rfl) (by decide) (by decide) ?_
  refine Z.astore B dX11_copy_12 (by decide) rfl (L' := [(0, .ref 0), (1, .int (nI s)), (2, .int (nI t)), (3, .int i), (4, .int j), (5, .int n), (6, .ref (2 + 2 * s)), (7, .ref (2 + 2 * t))]) rfl ?_
  refine Z.aload B dX11_copy_14 (v := .ref (2 + 2 * s)) rfl rfl ?_
  refine Z.ifnull_r B dX11_copy_16 ?_
  refine Z.aload B dX11_copy_19 (v := .ref (2 + 2 * t)) rfl rfl ?_
  refine Z.ifnonnull_r B dX11_copy_21 (tgt := 30) rfl ?_
  refine Z.aload B dX11_copy_30 (v := .ref (2 + 2 * s)) rfl rfl ?_
  refine Z.callVI (σ := σ) B (M' := mX6_holdsWay) (as := []) (st := []) (v := .int (nI 0)) dX11_copy_32 wX6_holdsWay iX6_holdsWay sX6_holdsWay kX11_87 (Nat.lt_of_succ_lt hqs.1) hqs.2.1 (by decide) rfl rfl (t_X6_holdsWay_0 (σ := σ) hqs hx.2.2) rfl rfl (by decide) (by decide) (Nat.le_of_ble_eq_true rfl) (by decide) (by decide) ?_
  refine Z.if_neN B dX11_copy_35 (tgt := 56) rfl (by omega) (fun h35 => by exfalso; first | omega | contradiction | simp_all) (fun h35 => ?_)
  refine Z.aload B dX11_copy_38 (v := .ref (2 + 2 * t)) rfl rfl ?_
  refine Z.callVI (σ := σ) B (M' := mX6_holdsWay) (as := []) (st := []) (v := .int (nI 1)) dX11_copy_40 wX6_holdsWay iX6_holdsWay sX6_holdsWay kX11_87 (Nat.lt_of_succ_lt hqt.1) hqt.2.1 (by decide) rfl rfl (t_X6_holdsWay_1 (σ := σ) hqt (Nat.lt_trans hy.2.2.2 (by decide)) hy.2.2.1) rfl rfl (by decide) (by decide) (Nat.le_of_ble_eq_true rfl) (by decide) (by decide) ?_
  refine Z.if_neN B dX11_copy_43 (tgt := 56) rfl (by omega) (fun h43 => ?_) (fun h43 => by exfalso; first | omega | contradiction | simp_all)
  refine Z.aload_n B dX11_copy_56 (v := .ref 0) rfl rfl ?_
  refine Z.iconst B dX11_copy_57 (v := nI 2) rfl ?_
  refine Z.callVI (σ := σ) B (M' := mX11_refuse) (as := [.int (nI 2)]) (st := []) (v := .int (-nI 2)) dX11_copy_58 wX11_refuse iX11_refuse sX11_refuse kX11_63 (hl.n (k := 0) (by decide)) (hl.k (k := 0) (by decide)) (by decide) rfl rfl (t_X11_refuse (σ := σ) hl (b := 2) (by decide)) rfl rfl (by decide) (by decide) (Nat.le_of_ble_eq_true rfl) (by decide) (by decide) ?_
  refine Z.eqσ (τ := (zuX σ 43 (upd (zX σ 43) 2 (zX σ 43 2 + nI 1)))) rfl ?_
  refine Z.iret B Rt dX11_copy_61 (ty := .int) rfl rfl (by decide) (by decide) ?_
  exact ⟨rfl, rfl⟩

theorem t_K_copy_3_nn {σ : zSt} (hl : Lay σ) {s t : Nat} (hs : s < 8) (ht : t < 8) (hx : zNo σ (2 + 2 * s)) (hy : zNo σ (2 + 2 * t)) {i j n : Int32}  : Dt mX11_copy [.ref 0, .int (nI s), .int (nI t), .int i, .int j, .int n] σ (some (.int (-nI 3))) (zuX σ 43 (upd (zX σ 43) 3 (zX σ 43 3 + nI 1))) := by
  have hqs := (hl.shelf hs).2
  have hqt := (hl.shelf ht).2
  refine Dt.of (by decide) (Nat.le_of_ble_eq_true rfl) fun κ B Rt => ?_
  show Z κ 0 0 σ 0 [(0, .ref 0), (1, .int (nI s)), (2, .int (nI t)), (3, .int i), (4, .int j), (5, .int n)] []
  refine Z.aload_n B dX11_copy_0 (v := .ref 0) rfl rfl ?_
  refine Z.iload_n B dX11_copy_1 (x := nI s) rfl ?_
  refine Z.callVI (σ := σ) B (M' := mX11_shelfAt) (as := [.int (nI s)]) (st := []) (v := .ref (2 + 2 * s)) dX11_copy_2 wX11_shelfAt iX11_shelfAt sX11_shelfAt kX11_59 (hl.n (k := 0) (by decide)) (hl.k (k := 0) (by decide)) (by decide) rfl rfl (t_X11_shelfAt_in (σ := σ) hl hs) rfl rfl (by decide) (by decide) (Nat.le_of_ble_eq_true rfl) (by decide) (by decide) ?_
  refine Z.astore B dX11_copy_5 (by decide) rfl (L' := [(0, .ref 0), (1, .int (nI s)), (2, .int (nI t)), (3, .int i), (4, .int j), (5, .int n), (6, .ref (2 + 2 * s))]) rfl ?_
  refine Z.aload_n B dX11_copy_7 (v := .ref 0) rfl rfl ?_
  refine Z.iload_n B dX11_copy_8 (x := nI t) rfl ?_
  refine Z.callVI (σ := σ) B (M' := mX11_shelfAt) (as := [.int (nI t)]) (st := []) (v := .ref (2 + 2 * t)) dX11_copy_9 wX11_shelfAt iX11_shelfAt sX11_shelfAt kX11_59 (hl.n (k := 0) (by decide)) (hl.k (k := 0) (by decide)) (by decide) rfl rfl (t_X11_shelfAt_in (σ := σ) hl ht) rfl rfl (by decide) (by decide) (Nat.le_of_ble_eq_true rfl) (by decide) (by decide) ?_
  refine Z.astore B dX11_copy_12 (by decide) rfl (L' := [(0, .ref 0), (1, .int (nI s)), (2, .int (nI t)), (3, .int i), (4, .int j), (5, .int n), (6, .ref (2 + 2 * s)), (7, .ref (2 + 2 * t))]) rfl ?_
  refine Z.aload B dX11_copy_14 (v := .ref (2 + 2 * s)) rfl rfl ?_
  refine Z.ifnull_r B dX11_copy_16 ?_
  refine Z.aload B dX11_copy_19 (v := .ref (2 + 2 * t)) rfl rfl ?_
  refine Z.ifnonnull_r B dX11_copy_21 (tgt := 30) rfl ?_
  refine Z.aload B dX11_copy_30 (v := .ref (2 + 2 * s)) rfl rfl ?_
  refine Z.callVI (σ := σ) B (M' := mX6_holdsWay) (as := []) (st := []) (v := .int (nI 0)) dX11_copy_32 wX6_holdsWay iX6_holdsWay sX6_holdsWay kX11_87 (Nat.lt_of_succ_lt hqs.1) hqs.2.1 (by decide) rfl rfl (t_X6_holdsWay_0 (σ := σ) hqs hx.2.2) rfl rfl (by decide) (by decide) (Nat.le_of_ble_eq_true rfl) (by decide) (by decide) ?_
  refine Z.if_neN B dX11_copy_35 (tgt := 56) rfl (by omega) (fun h35 => by exfalso; first | omega | contradiction | simp_all) (fun h35 => ?_)
  refine Z.aload B dX11_copy_38 (v := .ref (2 + 2 * t)) rfl rfl ?_
  refine Z.callVI (σ := σ) B (M' := mX6_holdsWay) (as := []) (st := []) (v := .int (nI 0)) dX11_copy_40 wX6_holdsWay iX6_holdsWay sX6_holdsWay kX11_87 (Nat.lt_of_succ_lt hqt.1) hqt.2.1 (by decide) rfl rfl (t_X6_holdsWay_0 (σ := σ) hqt hy.2.2) rfl rfl (by decide) (by decide) (Nat.le_of_ble_eq_true rfl) (by decide) (by decide) ?_
  refine Z.if_neN B dX11_copy_43 (tgt := 56) rfl (by omega) (fun h43 => by exfalso; first | omega | contradiction | simp_all) (fun h43 => ?_)
  refine Z.aload B dX11_copy_46 (v := .ref (2 + 2 * s)) rfl rfl ?_
  refine Z.aload B dX11_copy_48 (v := .ref (2 + 2 * t)) rfl rfl ?_
  refine Z.callVI (σ := σ) B (M' := mX6_isOfOtherSort) (as := [.ref (2 + 2 * t)]) (st := []) (v := .int (nI 0)) dX11_copy_50 wX6_isOfOtherSort iX6_isOfOtherSort sX6_isOfOtherSort kX11_90 (Nat.lt_of_succ_lt hqs.1) hqs.2.1 (by decide) rfl rfl (t_X6_iso_a (σ := σ) hqs hqt hx.1) rfl rfl (by decide) (by decide) (Nat.le_of_ble_eq_true rfl) (by decide) (by decide) ?_
  refine Z.if_eqN B dX11_copy_53 (tgt := 62) rfl (by omega) (fun h53 => ?_) (fun h53 => by exfalso; first | omega | contradiction | simp_all)
  refine Z.aload B dX11_copy_62 (v := .ref (2 + 2 * s)) rfl rfl ?_
  refine Z.callVI (σ := σ) B (M' := mX6_holdsRow) (as := []) (st := []) (v := .int (nI 0)) dX11_copy_64 wX6_holdsRow iX6_holdsRow sX6_holdsRow kX11_71 (Nat.lt_of_succ_lt hqs.1) hqs.2.1 (by decide) rfl rfl (t_X6_holdsRow_0 (σ := σ) hqs hx.1) rfl rfl (by decide) (by decide) (Nat.le_of_ble_eq_true rfl) (by decide) (by decide) ?_
  refine Z.if_eqN B dX11_copy_67 (tgt := 78) rfl (by omega) (fun h67 => ?_) (fun h67 => by exfalso; first | omega | contradiction | simp_all)
  refine Z.aload_n B dX11_copy_78 (v := .ref 0) rfl rfl ?_
  refine Z.iconst B dX11_copy_79 (v := nI 3) rfl ?_
  refine Z.callVI (σ := σ) B (M' := mX11_refuse) (as := [.int (nI 3)]) (st := []) (v := .int (-nI 3)) dX11_copy_80 wX11_refuse iX11_refuse sX11_refuse kX11_63 (hl.n (k := 0) (by decide)) (hl.k (k := 0) (by decide)) (by decide) rfl rfl (t_X11_refuse (σ := σ) hl (b := 3) (by decide)) rfl rfl (by decide) (by decide) (Nat.le_of_ble_eq_true rfl) (by decide) (by decide) ?_
  refine Z.eqσ (τ := (zuX σ 43 (upd (zX σ 43) 3 (zX σ 43 3 + nI 1)))) rfl ?_
  refine Z.iret B Rt dX11_copy_83 (ty := .int) rfl rfl (by decide) (by decide) ?_
  exact ⟨rfl, rfl⟩

theorem t_M_copy_1a {σ : zSt} (hl : Lay σ) {s t : Int32} (hs : zOut s 8) {i j n : Int32}  : Dt mX12_copy [.ref 45, .int s, .int t, .int i, .int j, .int n] σ (some (.int (-1))) (zuX σ 46 (upd (zX σ 46) 1 (zX σ 46 1 + nI 1))) := by
  refine Dt.of (by decide) (Nat.le_of_ble_eq_true rfl) fun κ B Rt => ?_
  show Z κ 0 0 σ 0 [(0, .ref 45), (1, .int s), (2, .int t), (3, .int i), (4, .int j), (5, .int n)] []
  refine Z.aload_n B dX12_copy_0 (v := .ref 45) rfl rfl ?_
  refine Z.iload_n B dX12_copy_1 (x := s) rfl ?_
  refine Z.callVI (σ := σ) B (M' := mX12_isShelf) (as := [.int s]) (st := []) (v := .int (nI 0)) dX12_copy_2 wX12_isShelf iX12_isShelf sX12_isShelf kX12_90 (hl.n (k := 45) (by decide)) (hl.k (k := 45) (by decide)) (by decide) rfl rfl (t_X12_isShelf_out (σ := σ) hs) rfl rfl (by decide) (by decide) (Nat.le_of_ble_eq_true rfl) (by decide) (by decide) ?_
  refine Z.if_eqN B dX12_copy_5 (tgt := 16) rfl (by omega) (fun h5 => ?_) (fun h5 => by exfalso; first | omega | contradiction | simp_all)
  refine Z.aload_n B dX12_copy_16 (v := .ref 45) rfl rfl ?_
  refine Z.iconst B dX12_copy_17 (v := (-1)) rfl ?_
  refine Z.callVI (σ := σ) B (M' := mX12_no) (as := [.int (-1)]) (st := []) (v := .int (-1)) dX12_copy_18 wX12_no iX12_no sX12_no kX12_94 (hl.n (k := 45) (by decide)) (hl.k (k := 45) (by decide)) (by decide) rfl rfl (t_X12_no_1 (σ := σ) hl) rfl rfl (by decide) (by decide) (Nat.le_of_ble_eq_true rfl) (by decide) (by decide) ?_
  refine Z.eqσ (τ := (zuX σ 46 (upd (zX σ 46) 1 (zX σ 46 1 + nI 1)))) rfl ?_
  refine Z.iret B Rt dX12_copy_21 (ty := .int) rfl rfl (by decide) (by decide) ?_
  exact ⟨rfl, rfl⟩

theorem t_M_copy_1c {σ : zSt} (hl : Lay σ) {s : Nat} {t : Int32} (hs : s < 8) (ht : zOut t 8) {i j n : Int32}  : Dt mX12_copy [.ref 45, .int (nI s), .int t, .int i, .int j, .int n] σ (some (.int (-1))) (zuX σ 46 (upd (zX σ 46) 1 (zX σ 46 1 + nI 1))) := by
  refine Dt.of (by decide) (Nat.le_of_ble_eq_true rfl) fun κ B Rt => ?_
  show Z κ 0 0 σ 0 [(0, .ref 45), (1, .int (nI s)), (2, .int t), (3, .int i), (4, .int j), (5, .int n)] []
  refine Z.aload_n B dX12_copy_0 (v := .ref 45) rfl rfl ?_
  refine Z.iload_n B dX12_copy_1 (x := nI s) rfl ?_
  refine Z.callVI (σ := σ) B (M' := mX12_isShelf) (as := [.int (nI s)]) (st := []) (v := .int (nI 1)) dX12_copy_2 wX12_isShelf iX12_isShelf sX12_isShelf kX12_90 (hl.n (k := 45) (by decide)) (hl.k (k := 45) (by decide)) (by decide) rfl rfl (t_X12_isShelf_in (σ := σ) hs) rfl rfl (by decide) (by decide) (Nat.le_of_ble_eq_true rfl) (by decide) (by decide) ?_
  refine Z.if_eqN B dX12_copy_5 (tgt := 16) rfl (by omega) (fun h5 => by exfalso; first | omega | contradiction | simp_all) (fun h5 => ?_)
  refine Z.aload_n B dX12_copy_8 (v := .ref 45) rfl rfl ?_
  refine Z.iload_n B dX12_copy_9 (x := t) rfl ?_
  refine Z.callVI (σ := σ) B (M' := mX12_isShelf) (as := [.int t]) (st := []) (v := .int (nI 0)) dX12_copy_10 wX12_isShelf iX12_isShelf sX12_isShelf kX12_90 (hl.n (k := 45) (by decide)) (hl.k (k := 45) (by decide)) (by decide) rfl rfl (t_X12_isShelf_out (σ := σ) ht) rfl rfl (by decide) (by decide) (Nat.le_of_ble_eq_true rfl) (by decide) (by decide) ?_
  refine Z.if_neN B dX12_copy_13 (tgt := 22) rfl (by omega) (fun h13 => by exfalso; first | omega | contradiction | simp_all) (fun h13 => ?_)
  refine Z.aload_n B dX12_copy_16 (v := .ref 45) rfl rfl ?_
  refine Z.iconst B dX12_copy_17 (v := (-1)) rfl ?_
  refine Z.callVI (σ := σ) B (M' := mX12_no) (as := [.int (-1)]) (st := []) (v := .int (-1)) dX12_copy_18 wX12_no iX12_no sX12_no kX12_94 (hl.n (k := 45) (by decide)) (hl.k (k := 45) (by decide)) (by decide) rfl rfl (t_X12_no_1 (σ := σ) hl) rfl rfl (by decide) (by decide) (Nat.le_of_ble_eq_true rfl) (by decide) (by decide) ?_
  refine Z.eqσ (τ := (zuX σ 46 (upd (zX σ 46) 1 (zX σ 46 1 + nI 1)))) rfl ?_
  refine Z.iret B Rt dX12_copy_21 (ty := .int) rfl rfl (by decide) (by decide) ?_
  exact ⟨rfl, rfl⟩

theorem t_M_copy_2_rr {σ : zSt} (hl : Lay σ) {s t : Nat} (hs : s < 8) (ht : t < 8) {o m : Nat} (hx : zMr σ s o m) {o2 m2 : Nat} (hy : zMr σ t o2 m2) {i j n : Int32} (hne : o ≠ o2) : Dt mX12_copy [.ref 45, .int (nI s), .int (nI t), .int i, .int j, .int n] σ (some (.int (-2))) (zuX σ 46 (upd (zX σ 46) 2 (zX σ 46 2 + nI 1))) := by
  have ho3 := hx.2.2.1
  have ho23 := hy.2.2.1
  have hm160 := hx.2.2.2.2
  have hm2160 := hy.2.2.2.2
  refine Dt.of (by decide) (Nat.le_of_ble_eq_true rfl) fun κ B Rt => ?_
  show Z κ 0 0 σ 0 [(0, .ref 45), (1, .int (nI s)), (2, .int (nI t)), (3, .int i), (4, .int j), (5, .int n)] []
  refine Z.aload_n B dX12_copy_0 (v := .ref 45) rfl rfl ?_
  refine Z.iload_n B dX12_copy_1 (x := nI s) rfl ?_
  refine Z.callVI (σ := σ) B (M' := mX12_isShelf) (as := [.int (nI s)]) (st := []) (v := .int (nI 1)) dX12_copy_2 wX12_isShelf iX12_isShelf sX12_isShelf kX12_90 (hl.n (k := 45) (by decide)) (hl.k (k := 45) (by decide)) (by decide) rfl rfl (t_X12_isShelf_in (σ := σ) hs) rfl rfl (by decide) (by decide) (Nat.le_of_ble_eq_true rfl) (by decide) (by decide) ?_
  refine Z.if_eqN B dX12_copy_5 (tgt := 16) rfl (by omega) (fun h5 => by exfalso; first | omega | contradiction | simp_all) (fun h5 => ?_)
  refine Z.aload_n B dX12_copy_8 (v := .ref 45) rfl rfl ?_
  refine Z.iload_n B dX12_copy_9 (x := nI t) rfl ?_
  refine Z.callVI (σ := σ) B (M' := mX12_isShelf) (as := [.int (nI t)]) (st := []) (v := .int (nI 1)) dX12_copy_10 wX12_isShelf iX12_isShelf sX12_isShelf kX12_90 (hl.n (k := 45) (by decide)) (hl.k (k := 45) (by decide)) (by decide) rfl rfl (t_X12_isShelf_in (σ := σ) ht) rfl rfl (by decide) (by decide) (Nat.le_of_ble_eq_true rfl) (by decide) (by decide) ?_
  refine Z.if_neN B dX12_copy_13 (tgt := 22) rfl (by omega) (fun h13 => ?_) (fun h13 => by exfalso; first | omega | contradiction | simp_all)
  refine Z.aload_n B dX12_copy_22 (v := .ref 45) rfl rfl ?_
  refine Z.getR (σ := σ) B fX12_41_12 dX12_copy_23 (hl.n (k := 45) (by decide)) (hl.k (k := 45) (by decide)) (by decide) (j := 54) (hl.r (k := 45) (f := 13) (by decide) (by decide)) ?_
  refine Z.iload_n B dX12_copy_26 (x := nI s) rfl ?_
  refine Z.iald (σ := σ) B dX12_copy_27 (n := 8) (hl.n (k := 54) (by decide)) (hl.k (k := 54) (by decide)) (hl.l (k := 54) (by decide)) (by decide) (j := s) rfl (by omega) (v := nI 1) hx.1 ?_
  refine Z.iconst B dX12_copy_28 (v := nI 2) rfl ?_
  refine Z.icmp_eqN B dX12_copy_29 (tgt := 77) rfl (by omega) (by omega) (fun h29 => by exfalso; first | omega | contradiction | simp_all) (fun h29 => ?_)
  refine Z.aload_n B dX12_copy_32 (v := .ref 45) rfl rfl ?_
  refine Z.getR (σ := σ) B fX12_41_12 dX12_copy_33 (hl.n (k := 45) (by decide)) (hl.k (k := 45) (by decide)) (by decide) (j := 54) (hl.r (k := 45) (f := 13) (by decide) (by decide)) ?_
  refine Z.iload_n B dX12_copy_36 (x := nI t) rfl ?_
  refine Z.iald (σ := σ) B dX12_copy_37 (n := 8) (hl.n (k := 54) (by decide)) (hl.k (k := 54) (by decide)) (hl.l (k := 54) (by decide)) (by decide) (j := t) rfl (by omega) (v := nI 1) hy.1 ?_
  refine Z.iconst B dX12_copy_38 (v := nI 2) rfl ?_
  refine Z.icmp_eqN B dX12_copy_39 (tgt := 77) rfl (by omega) (by omega) (fun h39 => by exfalso; first | omega | contradiction | simp_all) (fun h39 => ?_)
  refine Z.aload_n B dX12_copy_42 (v := .ref 45) rfl rfl ?_
  refine Z.getR (σ := σ) B fX12_41_12 dX12_copy_43 (hl.n (k := 45) (by decide)) (hl.k (k := 45) (by decide)) (by decide) (j := 54) (hl.r (k := 45) (f := 13) (by decide) (by decide)) ?_
  refine Z.iload_n B dX12_copy_46 (x := nI s) rfl ?_
  refine Z.iald (σ := σ) B dX12_copy_47 (n := 8) (hl.n (k := 54) (by decide)) (hl.k (k := 54) (by decide)) (hl.l (k := 54) (by decide)) (by decide) (j := s) rfl (by omega) (v := nI 1) hx.1 ?_
  refine Z.iconst B dX12_copy_48 (v := nI 1) rfl ?_
  refine Z.icmp_neN B dX12_copy_49 (tgt := 84) rfl (by omega) (by omega) (fun h49 => by exfalso; first | omega | contradiction | simp_all) (fun h49 => ?_)
  refine Z.aload_n B dX12_copy_52 (v := .ref 45) rfl rfl ?_
  refine Z.getR (σ := σ) B fX12_41_12 dX12_copy_53 (hl.n (k := 45) (by decide)) (hl.k (k := 45) (by decide)) (by decide) (j := 54) (hl.r (k := 45) (f := 13) (by decide) (by decide)) ?_
  refine Z.iload_n B dX12_copy_56 (x := nI t) rfl ?_
  refine Z.iald (σ := σ) B dX12_copy_57 (n := 8) (hl.n (k := 54) (by decide)) (hl.k (k := 54) (by decide)) (hl.l (k := 54) (by decide)) (by decide) (j := t) rfl (by omega) (v := nI 1) hy.1 ?_
  refine Z.iconst B dX12_copy_58 (v := nI 1) rfl ?_
  refine Z.icmp_neN B dX12_copy_59 (tgt := 84) rfl (by omega) (by omega) (fun h59 => by exfalso; first | omega | contradiction | simp_all) (fun h59 => ?_)
  refine Z.aload_n B dX12_copy_62 (v := .ref 45) rfl rfl ?_
  refine Z.getR (σ := σ) B fX12_44_12 dX12_copy_63 (hl.n (k := 45) (by decide)) (hl.k (k := 45) (by decide)) (by decide) (j := 55) (hl.r (k := 45) (f := 14) (by decide) (by decide)) ?_
  refine Z.iload_n B dX12_copy_66 (x := nI s) rfl ?_
  refine Z.iald (σ := σ) B dX12_copy_67 (n := 8) (hl.n (k := 55) (by decide)) (hl.k (k := 55) (by decide)) (hl.l (k := 55) (by decide)) (by decide) (j := s) rfl (by omega) (v := nI o) hx.2.1 ?_
  refine Z.aload_n B dX12_copy_68 (v := .ref 45) rfl rfl ?_
  refine Z.getR (σ := σ) B fX12_44_12 dX12_copy_69 (hl.n (k := 45) (by decide)) (hl.k (k := 45) (by decide)) (by decide) (j := 55) (hl.r (k := 45) (f := 14) (by decide) (by decide)) ?_
  refine Z.iload_n B dX12_copy_72 (x := nI t) rfl ?_
  refine Z.iald (σ := σ) B dX12_copy_73 (n := 8) (hl.n (k := 55) (by decide)) (hl.k (k := 55) (by decide)) (hl.l (k := 55) (by decide)) (by decide) (j := t) rfl (by omega) (v := nI o2) hy.2.1 ?_
  refine Z.icmp_eqN B dX12_copy_74 (tgt := 84) rfl (by omega) (by omega) (fun h74 => by exfalso; first | omega | contradiction | simp_all) (fun h74 => ?_)
  refine Z.aload_n B dX12_copy_77 (v := .ref 45) rfl rfl ?_
  refine Z.bipush B dX12_copy_78 (v := (-2)) rfl ?_
  refine Z.callVI (σ := σ) B (M' := mX12_no) (as := [.int (-2)]) (st := []) (v := .int (-2)) dX12_copy_80 wX12_no iX12_no sX12_no kX12_94 (hl.n (k := 45) (by decide)) (hl.k (k := 45) (by decide)) (by decide) rfl rfl (t_X12_no_2 (σ := σ) hl) rfl rfl (by decide) (by decide) (Nat.le_of_ble_eq_true rfl) (by decide) (by decide) ?_
  refine Z.eqσ (τ := (zuX σ 46 (upd (zX σ 46) 2 (zX σ 46 2 + nI 1)))) rfl ?_
  refine Z.iret B Rt dX12_copy_83 (ty := .int) rfl rfl (by decide) (by decide) ?_
  exact ⟨rfl, rfl⟩

theorem t_M_copy_4 {σ : zSt} (hl : Lay σ) {s t : Nat} (hs : s < 8) (ht : t < 8) {o m : Nat} (hx : zMr σ s o m) {m2 : Nat} (hy : zMr σ t o m2) {i j n : Int32} (hn : n < 0) : Dt mX12_copy [.ref 45, .int (nI s), .int (nI t), .int i, .int j, .int n] σ (some (.int (-4))) (zuX σ 46 (upd (zX σ 46) 4 (zX σ 46 4 + nI 1))) := by
  have ho3 := hx.2.2.1
  have ho23 := hy.2.2.1
  have hm160 := hx.2.2.2.2
  have hm2160 := hy.2.2.2.2
  refine Dt.of (by decide) (Nat.le_of_ble_eq_true rfl) fun κ B Rt => ?_
  show Z κ 0 0 σ 0 [(0, .ref 45), (1, .int (nI s)), (2, .int (nI t)), (3, .int i), (4, .int j), (5, .int n)] []
  refine Z.aload_n B dX12_copy_0 (v := .ref 45) rfl rfl ?_
  refine Z.iload_n B dX12_copy_1 (x := nI s) rfl ?_
  refine Z.callVI (σ := σ) B (M' := mX12_isShelf) (as := [.int (nI s)]) (st := []) (v := .int (nI 1)) dX12_copy_2 wX12_isShelf iX12_isShelf sX12_isShelf kX12_90 (hl.n (k := 45) (by decide)) (hl.k (k := 45) (by decide)) (by decide) rfl rfl (t_X12_isShelf_in (σ := σ) hs) rfl rfl (by decide) (by decide) (Nat.le_of_ble_eq_true rfl) (by decide) (by decide) ?_
  refine Z.if_eqN B dX12_copy_5 (tgt := 16) rfl (by omega) (fun h5 => by exfalso; first | omega | contradiction | simp_all) (fun h5 => ?_)
  refine Z.aload_n B dX12_copy_8 (v := .ref 45) rfl rfl ?_
  refine Z.iload_n B dX12_copy_9 (x := nI t) rfl ?_
  refine Z.callVI (σ := σ) B (M' := mX12_isShelf) (as := [.int (nI t)]) (st := []) (v := .int (nI 1)) dX12_copy_10 wX12_isShelf iX12_isShelf sX12_isShelf kX12_90 (hl.n (k := 45) (by decide)) (hl.k (k := 45) (by decide)) (by decide) rfl rfl (t_X12_isShelf_in (σ := σ) ht) rfl rfl (by decide) (by decide) (Nat.le_of_ble_eq_true rfl) (by decide) (by decide) ?_
  refine Z.if_neN B dX12_copy_13 (tgt := 22) rfl (by omega) (fun h13 => ?_) (fun h13 => by exfalso; first | omega | contradiction | simp_all)
  refine Z.aload_n B dX12_copy_22 (v := .ref 45) rfl rfl ?_
  refine Z.getR (σ := σ) B fX12_41_12 dX12_copy_23 (hl.n (k := 45) (by decide)) (hl.k (k := 45) (by decide)) (by decide) (j := 54) (hl.r (k := 45) (f := 13) (by decide) (by decide)) ?_
  refine Z.iload_n B dX12_copy_26 (x := nI s) rfl ?_
  refine Z.iald (σ := σ) B dX12_copy_27 (n := 8) (hl.n (k := 54) (by decide)) (hl.k (k := 54) (by decide)) (hl.l (k := 54) (by decide)) (by decide) (j := s) rfl (by omega) (v := nI 1) hx.1 ?_
  refine Z.iconst B dX12_copy_28 (v := nI 2) rfl ?_
  refine Z.icmp_eqN B dX12_copy_29 (tgt := 77) rfl (by omega) (by omega) (fun h29 => by exfalso; first | omega | contradiction | simp_all) (fun h29 => ?_)
  refine Z.aload_n B dX12_copy_32 (v := .ref 45) rfl rfl ?_
  refine Z.getR (σ := σ) B fX12_41_12 dX12_copy_33 (hl.n (k := 45) (by decide)) (hl.k (k := 45) (by decide)) (by decide) (j := 54) (hl.r (k := 45) (f := 13) (by decide) (by decide)) ?_
  refine Z.iload_n B dX12_copy_36 (x := nI t) rfl ?_
  refine Z.iald (σ := σ) B dX12_copy_37 (n := 8) (hl.n (k := 54) (by decide)) (hl.k (k := 54) (by decide)) (hl.l (k := 54) (by decide)) (by decide) (j := t) rfl (by omega) (v := nI 1) hy.1 ?_
  refine Z.iconst B dX12_copy_38 (v := nI 2) rfl ?_
  refine Z.icmp_eqN B dX12_copy_39 (tgt := 77) rfl (by omega) (by omega) (fun h39 => by exfalso; first | omega | contradiction | simp_all) (fun h39 => ?_)
  refine Z.aload_n B dX12_copy_42 (v := .ref 45) rfl rfl ?_
  refine Z.getR (σ := σ) B fX12_41_12 dX12_copy_43 (hl.n (k := 45) (by decide)) (hl.k (k := 45) (by decide)) (by decide) (j := 54) (hl.r (k := 45) (f := 13) (by decide) (by decide)) ?_
  refine Z.iload_n B dX12_copy_46 (x := nI s) rfl ?_
  refine Z.iald (σ := σ) B dX12_copy_47 (n := 8) (hl.n (k := 54) (by decide)) (hl.k (k := 54) (by decide)) (hl.l (k := 54) (by decide)) (by decide) (j := s) rfl (by omega) (v := nI 1) hx.1 ?_
  refine Z.iconst B dX12_copy_48 (v := nI 1) rfl ?_
  refine Z.icmp_neN B dX12_copy_49 (tgt := 84) rfl (by omega) (by omega) (fun h49 => by exfalso; first | omega | contradiction | simp_all) (fun h49 => ?_)
  refine Z.aload_n B dX12_copy_52 (v := .ref 45) rfl rfl ?_
  refine Z.getR (σ := σ) B fX12_41_12 dX12_copy_53 (hl.n (k := 45) (by decide)) (hl.k (k := 45) (by decide)) (by decide) (j := 54) (hl.r (k := 45) (f := 13) (by decide) (by decide)) ?_
  refine Z.iload_n B dX12_copy_56 (x := nI t) rfl ?_
  refine Z.iald (σ := σ) B dX12_copy_57 (n := 8) (hl.n (k := 54) (by decide)) (hl.k (k := 54) (by decide)) (hl.l (k := 54) (by decide)) (by decide) (j := t) rfl (by omega) (v := nI 1) hy.1 ?_
  refine Z.iconst B dX12_copy_58 (v := nI 1) rfl ?_
  refine Z.icmp_neN B dX12_copy_59 (tgt := 84) rfl (by omega) (by omega) (fun h59 => by exfalso; first | omega | contradiction | simp_all) (fun h59 => ?_)
  refine Z.aload_n B dX12_copy_62 (v := .ref 45) rfl rfl ?_
  refine Z.getR (σ := σ) B fX12_44_12 dX12_copy_63 (hl.n (k := 45) (by decide)) (hl.k (k := 45) (by decide)) (by decide) (j := 55) (hl.r (k := 45) (f := 14) (by decide) (by decide)) ?_
  refine Z.iload_n B dX12_copy_66 (x := nI s) rfl ?_
  refine Z.iald (σ := σ) B dX12_copy_67 (n := 8) (hl.n (k := 55) (by decide)) (hl.k (k := 55) (by decide)) (hl.l (k := 55) (by decide)) (by decide) (j := s) rfl (by omega) (v := nI o) hx.2.1 ?_
  refine Z.aload_n B dX12_copy_68 (v := .ref 45) rfl rfl ?_
  refine Z.getR (σ := σ) B fX12_44_12 dX12_copy_69 (hl.n (k := 45) (by decide)) (hl.k (k := 45) (by decide)) (by decide) (j := 55) (hl.r (k := 45) (f := 14) (by decide) (by decide)) ?_
  refine Z.iload_n B dX12_copy_72 (x := nI t) rfl ?_
  refine Z.iald (σ := σ) B dX12_copy_73 (n := 8) (hl.n (k := 55) (by decide)) (hl.k (k := 55) (by decide)) (hl.l (k := 55) (by decide)) (by decide) (j := t) rfl (by omega) (v := nI o) hy.2.1 ?_
  refine Z.icmp_eqN B dX12_copy_74 (tgt := 84) rfl (by omega) (by omega) (fun h74 => ?_) (fun h74 => by exfalso; first | omega | contradiction | simp_all)
  refine Z.aload_n B dX12_copy_84 (v := .ref 45) rfl rfl ?_
  refine Z.getR (σ := σ) B fX12_41_12 dX12_copy_85 (hl.n (k := 45) (by decide)) (hl.k (k := 45) (by decide)) (by decide) (j := 54) (hl.r (k := 45) (f := 13) (by decide) (by decide)) ?_
  refine Z.iload_n B dX12_copy_88 (x := nI s) rfl ?_
  refine Z.iald (σ := σ) B dX12_copy_89 (n := 8) (hl.n (k := 54) (by decide)) (hl.k (k := 54) (by decide)) (hl.l (k := 54) (by decide)) (by decide) (j := s) rfl (by omega) (v := nI 1) hx.1 ?_
  refine Z.if_eqN B dX12_copy_90 (tgt := 102) rfl (by omega) (fun h90 => by exfalso; first | omega | contradiction | simp_all) (fun h90 => ?_)
  refine Z.aload_n B dX12_copy_93 (v := .ref 45) rfl rfl ?_
  refine Z.getR (σ := σ) B fX12_41_12 dX12_copy_94 (hl.n (k := 45) (by decide)) (hl.k (k := 45) (by decide)) (by decide) (j := 54) (hl.r (k := 45) (f := 13) (by decide) (by decide)) ?_
  refine Z.iload_n B dX12_copy_97 (x := nI t) rfl ?_
  refine Z.iald (σ := σ) B dX12_copy_98 (n := 8) (hl.n (k := 54) (by decide)) (hl.k (k := 54) (by decide)) (hl.l (k := 54) (by decide)) (by decide) (j := t) rfl (by omega) (v := nI 1) hy.1 ?_
  refine Z.if_neN B dX12_copy_99 (tgt := 109) rfl (by omega) (fun h99 => ?_) (fun h99 => by exfalso; first | omega | contradiction | simp_all)
  refine Z.iload B dX12_copy_109 (x := n) rfl ?_
  refine Z.if_ge B dX12_copy_111 (tgt := 121) rfl (fun h111 => (by exfalso; rw [zle_iff] at h111; rw [zlt_iff] at hn; omega)) (fun h111 => ?_)
  refine Z.aload_n B dX12_copy_114 (v := .ref 45) rfl rfl ?_
  refine Z.bipush B dX12_copy_115 (v := (-4)) rfl ?_
  refine Z.callVI (σ := σ) B (M' := mX12_no) (as := [.int (-4)]) (st := []) (v := .int (-4)) dX12_copy_117 wX12_no iX12_no sX12_no kX12_94 (hl.n (k := 45) (by decide)) (hl.k (k := 45) (by decide)) (by decide) rfl rfl (t_X12_no_4 (σ := σ) hl) rfl rfl (by decide) (by decide) (Nat.le_of_ble_eq_true rfl) (by decide) (by decide) ?_
  refine Z.eqσ (τ := (zuX σ 46 (upd (zX σ 46) 4 (zX σ 46 4 + nI 1)))) rfl ?_
  refine Z.iret B Rt dX12_copy_120 (ty := .int) rfl rfl (by decide) (by decide) ?_
  exact ⟨rfl, rfl⟩

theorem t_M_copy_5a1 {σ : zSt} (hl : Lay σ) {s t : Nat} (hs : s < 8) (ht : t < 8) {o m : Nat} (hx : zMr σ s o m) {m2 : Nat} (hy : zMr σ t o m2) {i j : Int32} {n : Nat} (hn : n < 2 ^ 31) (hi : i < 0) : Dt mX12_copy [.ref 45, .int (nI s), .int (nI t), .int i, .int j, .int (nI n)] σ (some (.int (-5))) (zuX σ 46 (upd (zX σ 46) 5 (zX σ 46 5 + nI 1))) := by
  have ho3 := hx.2.2.1
  have ho23 := hy.2.2.1
  have hm160 := hx.2.2.2.2
  have hm2160 := hy.2.2.2.2
  refine Dt.of (by decide) (Nat.le_of_ble_eq_true rfl) fun κ B Rt => ?_
  show Z κ 0 0 σ 0 [(0, .ref 45), (1, .int (nI s)), (2, .int (nI t)), (3, .int i), (4, .int j), (5, .int (nI n))] []
  refine Z.aload_n B dX12_copy_0 (v := .ref 45) rfl rfl ?_
  refine Z.iload_n B dX12_copy_1 (x := nI s) rfl ?_
  refine Z.callVI (σ := σ) B (M' := mX12_isShelf) (as := [.int (nI s)]) (st := []) (v := .int (nI 1)) dX12_copy_2 wX12_isShelf iX12_isShelf sX12_isShelf kX12_90 (hl.n (k := 45) (by decide)) (hl.k (k := 45) (by decide)) (by decide) rfl rfl (t_X12_isShelf_in (σ := σ) hs) rfl rfl (by decide) (by decide) (Nat.le_of_ble_eq_true rfl) (by decide) (by decide) ?_
  refine Z.if_eqN B dX12_copy_5 (tgt := 16) rfl (by omega) (fun h5 => by exfalso; first | omega | contradiction | simp_all) (fun h5 => ?_)
  refine Z.aload_n B dX12_copy_8 (v := .ref 45) rfl rfl ?_
  refine Z.iload_n B dX12_copy_9 (x := nI t) rfl ?_
  refine Z.callVI (σ := σ) B (M' := mX12_isShelf) (as := [.int (nI t)]) (st := []) (v := .int (nI 1)) dX12_copy_10 wX12_isShelf iX12_isShelf sX12_isShelf kX12_90 (hl.n (k := 45) (by decide)) (hl.k (k := 45) (by decide)) (by decide) rfl rfl (t_X12_isShelf_in (σ := σ) ht) rfl rfl (by decide) (by decide) (Nat.le_of_ble_eq_true rfl) (by decide) (by decide) ?_
  refine Z.if_neN B dX12_copy_13 (tgt := 22) rfl (by omega) (fun h13 => ?_) (fun h13 => by exfalso; first | omega | contradiction | simp_all)
  refine Z.aload_n B dX12_copy_22 (v := .ref 45) rfl rfl ?_
  refine Z.getR (σ := σ) B fX12_41_12 dX12_copy_23 (hl.n (k := 45) (by decide)) (hl.k (k := 45) (by decide)) (by decide) (j := 54) (hl.r (k := 45) (f := 13) (by decide) (by decide)) ?_
  refine Z.iload_n B dX12_copy_26 (x := nI s) rfl ?_
  refine Z.iald (σ := σ) B dX12_copy_27 (n := 8) (hl.n (k := 54) (by decide)) (hl.k (k := 54) (by decide)) (hl.l (k := 54) (by decide)) (by decide) (j := s) rfl (by omega) (v := nI 1) hx.1 ?_
  refine Z.iconst B dX12_copy_28 (v := nI 2) rfl ?_
  refine Z.icmp_eqN B dX12_copy_29 (tgt := 77) rfl (by omega) (by omega) (fun h29 => by exfalso; first | omega | contradiction | simp_all) (fun h29 => ?_)
  refine Z.aload_n B dX12_copy_32 (v := .ref 45) rfl rfl ?_
  refine Z.getR (σ := σ) B fX12_41_12 dX12_copy_33 (hl.n (k := 45) (by decide)) (hl.k (k := 45) (by decide)) (by decide) (j := 54) (hl.r (k := 45) (f := 13) (by decide) (by decide)) ?_
  refine Z.iload_n B dX12_copy_36 (x := nI t) rfl ?_
  refine Z.iald (σ := σ) B dX12_copy_37 (n := 8) (hl.n (k := 54) (by decide)) (hl.k (k := 54) (by decide)) (hl.l (k := 54) (by decide)) (by decide) (j := t) rfl (by omega) (v := nI 1) hy.1 ?_
  refine Z.iconst B dX12_copy_38 (v := nI 2) rfl ?_
  refine Z.icmp_eqN B dX12_copy_39 (tgt := 77) rfl (by omega) (by omega) (fun h39 => by exfalso; first | omega | contradiction | simp_all) (fun h39 => ?_)
  refine Z.aload_n B dX12_copy_42 (v := .ref 45) rfl rfl ?_
  refine Z.getR (σ := σ) B fX12_41_12 dX12_copy_43 (hl.n (k := 45) (by decide)) (hl.k (k := 45) (by decide)) (by decide) (j := 54) (hl.r (k := 45) (f := 13) (by decide) (by decide)) ?_
  refine Z.iload_n B dX12_copy_46 (x := nI s) rfl ?_
  refine Z.iald (σ := σ) B dX12_copy_47 (n := 8) (hl.n (k := 54) (by decide)) (hl.k (k := 54) (by decide)) (hl.l (k := 54) (by decide)) (by decide) (j := s) rfl (by omega) (v := nI 1) hx.1 ?_
  refine Z.iconst B dX12_copy_48 (v := nI 1) rfl ?_
  refine Z.icmp_neN B dX12_copy_49 (tgt := 84) rfl (by omega) (by omega) (fun h49 => by exfalso; first | omega | contradiction | simp_all) (fun h49 => ?_)
  refine Z.aload_n B dX12_copy_52 (v := .ref 45) rfl rfl ?_
  refine Z.getR (σ := σ) B fX12_41_12 dX12_copy_53 (hl.n (k := 45) (by decide)) (hl.k (k := 45) (by decide)) (by decide) (j := 54) (hl.r (k := 45) (f := 13) (by decide) (by decide)) ?_
  refine Z.iload_n B dX12_copy_56 (x := nI t) rfl ?_
  refine Z.iald (σ := σ) B dX12_copy_57 (n := 8) (hl.n (k := 54) (by decide)) (hl.k (k := 54) (by decide)) (hl.l (k := 54) (by decide)) (by decide) (j := t) rfl (by omega) (v := nI 1) hy.1 ?_
  refine Z.iconst B dX12_copy_58 (v := nI 1) rfl ?_
  refine Z.icmp_neN B dX12_copy_59 (tgt := 84) rfl (by omega) (by omega) (fun h59 => by exfalso; first | omega | contradiction | simp_all) (fun h59 => ?_)
  refine Z.aload_n B dX12_copy_62 (v := .ref 45) rfl rfl ?_
  refine Z.getR (σ := σ) B fX12_44_12 dX12_copy_63 (hl.n (k := 45) (by decide)) (hl.k (k := 45) (by decide)) (by decide) (j := 55) (hl.r (k := 45) (f := 14) (by decide) (by decide)) ?_
  refine Z.iload_n B dX12_copy_66 (x := nI s) rfl ?_
  refine Z.iald (σ := σ) B dX12_copy_67 (n := 8) (hl.n (k := 55) (by decide)) (hl.k (k := 55) (by decide)) (hl.l (k := 55) (by decide)) (by decide) (j := s) rfl (by omega) (v := nI o) hx.2.1 ?_
  refine Z.aload_n B dX12_copy_68 (v := .ref 45) rfl rfl ?_
  refine Z.getR (σ := σ) B fX12_44_12 dX12_copy_69 (hl.n (k := 45) (by decide)) (hl.k (k := 45) (by decide)) (by decide) (j := 55) (hl.r (k := 45) (f := 14) (by decide) (by decide)) ?_
  refine Z.iload_n B dX12_copy_72 (x := nI t) rfl ?_
  refine Z.iald (σ := σ) B dX12_copy_73 (n := 8) (hl.n (k := 55) (by decide)) (hl.k (k := 55) (by decide)) (hl.l (k := 55) (by decide)) (by decide) (j := t) rfl (by omega) (v := nI o) hy.2.1 ?_
  refine Z.icmp_eqN B dX12_copy_74 (tgt := 84) rfl (by omega) (by omega) (fun h74 => ?_) (fun h74 => by exfalso; first | omega | contradiction | simp_all)
  refine Z.aload_n B dX12_copy_84 (v := .ref 45) rfl rfl ?_
  refine Z.getR (σ := σ) B fX12_41_12 dX12_copy_85 (hl.n (k := 45) (by decide)) (hl.k (k := 45) (by decide)) (by decide) (j := 54) (hl.r (k := 45) (f := 13) (by decide) (by decide)) ?_
  refine Z.iload_n B dX12_copy_88 (x := nI s) rfl ?_
  refine Z.iald (σ := σ) B dX12_copy_89 (n := 8) (hl.n (k := 54) (by decide)) (hl.k (k := 54) (by decide)) (hl.l (k := 54) (by decide)) (by decide) (j := s) rfl (by omega) (v := nI 1) hx.1 ?_
  refine Z.if_eqN B dX12_copy_90 (tgt := 102) rfl (by omega) (fun h90 => by exfalso; first | omega | contradiction | simp_all) (fun h90 => ?_)
  refine Z.aload_n B dX12_copy_93 (v := .ref 45) rfl rfl ?_
  refine Z.getR (σ := σ) B fX12_41_12 dX12_copy_94 (hl.n (k := 45) (by decide)) (hl.k (k := 45) (by decide)) (by decide) (j := 54) (hl.r (k := 45) (f := 13) (by decide) (by decide)) ?_
  refine Z.iload_n B dX12_copy_97 (x := nI t) rfl ?_
  refine Z.iald (σ := σ) B dX12_copy_98 (n := 8) (hl.n (k := 54) (by decide)) (hl.k (k := 54) (by decide)) (hl.l (k := 54) (by decide)) (by decide) (j := t) rfl (by omega) (v := nI 1) hy.1 ?_
  refine Z.if_neN B dX12_copy_99 (tgt := 109) rfl (by omega) (fun h99 => ?_) (fun h99 => by exfalso; first | omega | contradiction | simp_all)
  refine Z.iload B dX12_copy_109 (x := nI n) rfl ?_
  refine Z.if_geN B dX12_copy_111 (tgt := 121) rfl (by omega) ?_
  refine Z.iload_n B dX12_copy_121 (x := i) rfl ?_
  refine Z.if_lt B dX12_copy_122 (tgt := 157) rfl (fun h122 => ?_) (fun h122 => by exfalso; first | omega | contradiction | simp_all)
  refine Z.aload_n B dX12_copy_157 (v := .ref 45) rfl rfl ?_
  refine Z.bipush B dX12_copy_158 (v := (-5)) rfl ?_
  refine Z.callVI (σ := σ) B (M' := mX12_no) (as := [.int (-5)]) (st := []) (v := .int (-5)) dX12_copy_160 wX12_no iX12_no sX12_no kX12_94 (hl.n (k := 45) (by decide)) (hl.k (k := 45) (by decide)) (by decide) rfl rfl (t_X12_no_5 (σ := σ) hl) rfl rfl (by decide) (by decide) (Nat.le_of_ble_eq_true rfl) (by decide) (by decide) ?_
  refine Z.eqσ (τ := (zuX σ 46 (upd (zX σ 46) 5 (zX σ 46 5 + nI 1)))) rfl ?_
  refine Z.iret B Rt dX12_copy_163 (ty := .int) rfl rfl (by decide) (by decide) ?_
  exact ⟨rfl, rfl⟩

theorem t_M_copy_5a2 {σ : zSt} (hl : Lay σ) {s t : Nat} (hs : s < 8) (ht : t < 8) {o m : Nat} (hx : zMr σ s o m) {m2 : Nat} (hy : zMr σ t o m2) {i n : Nat} {j : Int32} (hn : n < 2 ^ 31) (h3 : i < 2 ^ 31) (hi : m < i + n) : Dt mX12_copy [.ref 45, .int (nI s), .int (nI t), .int (nI i), .int j, .int (nI n)] σ (some (.int (-5))) (zuX σ 46 (upd (zX σ 46) 5 (zX σ 46 5 + nI 1))) := by
  have ho3 := hx.2.2.1
  have ho23 := hy.2.2.1
  have hm160 := hx.2.2.2.2
  have hm2160 := hy.2.2.2.2
  refine Dt.of (by decide) (Nat.le_of_ble_eq_true rfl) fun κ B Rt => ?_
  show Z κ 0 0 σ 0 [(0, .ref 45), (1, .int (nI s)), (2, .int (nI t)), (3, .int (nI i)), (4, .int j), (5, .int (nI n))] []
  refine Z.aload_n B dX12_copy_0 (v := .ref 45) rfl rfl ?_
  refine Z.iload_n B dX12_copy_1 (x := nI s) rfl ?_
  refine Z.callVI (σ := σ) B (M' := mX12_isShelf) (as := [.int (nI s)]) (st := []) (v := .int (nI 1)) dX12_copy_2 wX12_isShelf iX12_isShelf sX12_isShelf kX12_90 (hl.n (k := 45) (by decide)) (hl.k (k := 45) (by decide)) (by decide) rfl rfl (t_X12_isShelf_in (σ := σ) hs) rfl rfl (by decide) (by decide) (Nat.le_of_ble_eq_true rfl) (by decide) (by decide) ?_
  refine Z.if_eqN B dX12_copy_5 (tgt := 16) rfl (by omega) (fun h5 => by exfalso; first | omega | contradiction | simp_all) (fun h5 => ?_)
  refine Z.aload_n B dX12_copy_8 (v := .ref 45) rfl rfl ?_
  refine Z.iload_n B dX12_copy_9 (x := nI t) rfl ?_
  refine Z.callVI (σ := σ) B (M' := mX12_isShelf) (as := [.int (nI t)]) (st := []) (v := .int (nI 1)) dX12_copy_10 wX12_isShelf iX12_isShelf sX12_isShelf kX12_90 (hl.n (k := 45) (by decide)) (hl.k (k := 45) (by decide)) (by decide) rfl rfl (t_X12_isShelf_in (σ := σ) ht) rfl rfl (by decide) (by decide) (Nat.le_of_ble_eq_true rfl) (by decide) (by decide) ?_
  refine Z.if_neN B dX12_copy_13 (tgt := 22) rfl (by omega) (fun h13 => ?_) (fun h13 => by exfalso; first | omega | contradiction | simp_all)
  refine Z.aload_n B dX12_copy_22 (v := .ref 45) rfl rfl ?_
  refine Z.getR (σ := σ) B fX12_41_12 dX12_copy_23 (hl.n (k := 45) (by decide)) (hl.k (k := 45) (by decide)) (by decide) (j := 54) (hl.r (k := 45) (f := 13) (by decide) (by decide)) ?_
  refine Z.iload_n B dX12_copy_26 (x := nI s) rfl ?_
  refine Z.iald (σ := σ) B dX12_copy_27 (n := 8) (hl.n (k := 54) (by decide)) (hl.k (k := 54) (by decide)) (hl.l (k := 54) (by decide)) (by decide) (j := s) rfl (by omega) (v := nI 1) hx.1 ?_
  refine Z.iconst B dX12_copy_28 (v := nI 2) rfl ?_
  refine Z.icmp_eqN B dX12_copy_29 (tgt := 77) rfl (by omega) (by omega) (fun h29 => by exfalso; first | omega | contradiction | simp_all) (fun h29 => ?_)
  refine Z.aload_n B dX12_copy_32 (v := .ref 45) rfl rfl ?_
  refine Z.getR (σ := σ) B fX12_41_12 dX12_copy_33 (hl.n (k := 45) (by decide)) (hl.k (k := 45) (by decide)) (by decide) (j := 54) (hl.r (k := 45) (f := 13) (by decide) (by decide)) ?_
  refine Z.iload_n B dX12_copy_36 (x := nI t) rfl ?_
  refine Z.iald (σ := σ) B dX12_copy_37 (n := 8) (hl.n (k := 54) (by decide)) (hl.k (k := 54) (by decide)) (hl.l (k := 54) (by decide)) (by decide) (j := t) rfl (by omega) (v := nI 1) hy.1 ?_
  refine Z.iconst B dX12_copy_38 (v := nI 2) rfl ?_
  refine Z.icmp_eqN B dX12_copy_39 (tgt := 77) rfl (by omega) (by omega) (fun h39 => by exfalso; first | omega | contradiction | simp_all) (fun h39 => ?_)
  refine Z.aload_n B dX12_copy_42 (v := .ref 45) rfl rfl ?_
  refine Z.getR (σ := σ) B fX12_41_12 dX12_copy_43 (hl.n (k := 45) (by decide)) (hl.k (k := 45) (by decide)) (by decide) (j := 54) (hl.r (k := 45) (f := 13) (by decide) (by decide)) ?_
  refine Z.iload_n B dX12_copy_46 (x := nI s) rfl ?_
  refine Z.iald (σ := σ) B dX12_copy_47 (n := 8) (hl.n (k := 54) (by decide)) (hl.k (k := 54) (by decide)) (hl.l (k := 54) (by decide)) (by decide) (j := s) rfl (by omega) (v := nI 1) hx.1 ?_
  refine Z.iconst B dX12_copy_48 (v := nI 1) rfl ?_
  refine Z.icmp_neN B dX12_copy_49 (tgt := 84) rfl (by omega) (by omega) (fun h49 => by exfalso; first | omega | contradiction | simp_all) (fun h49 => ?_)
  refine Z.aload_n B dX12_copy_52 (v := .ref 45) rfl rfl ?_
  refine Z.getR (σ := σ) B fX12_41_12 dX12_copy_53 (hl.n (k := 45) (by decide)) (hl.k (k := 45) (by decide)) (by decide) (j := 54) (hl.r (k := 45) (f := 13) (by decide) (by decide)) ?_
  refine Z.iload_n B dX12_copy_56 (x := nI t) rfl ?_
  refine Z.iald (σ := σ) B dX12_copy_57 (n := 8) (hl.n (k := 54) (by decide)) (hl.k (k := 54) (by decide)) (hl.l (k := 54) (by decide)) (by decide) (j := t) rfl (by omega) (v := nI 1) hy.1 ?_
  refine Z.iconst B dX12_copy_58 (v := nI 1) rfl ?_
  refine Z.icmp_neN B dX12_copy_59 (tgt := 84) rfl (by omega) (by omega) (fun h59 => by exfalso; first | omega | contradiction | simp_all) (fun h59 => ?_)
  refine Z.aload_n B dX12_copy_62 (v := .ref 45) rfl rfl ?_
  refine Z.getR (σ := σ) B fX12_44_12 dX12_copy_63 (hl.n (k := 45) (by decide)) (hl.k (k := 45) (by decide)) (by decide) (j := 55) (hl.r (k := 45) (f := 14) (by decide) (by decide)) ?_
  refine Z.iload_n B dX12_copy_66 (x := nI s) rfl ?_
  refine Z.iald (σ := σ) B dX12_copy_67 (n := 8) (hl.n (k := 55) (by decide)) (hl.k (k := 55) (by decide)) (hl.l (k := 55) (by decide)) (by decide) (j := s) rfl (by omega) (v := nI o) hx.2.1 ?_
  refine Z.aload_n B dX12_copy_68 (v := .ref 45) rfl rfl ?_
  refine Z.getR (σ := σ) B fX12_44_12 dX12_copy_69 (hl.n (k := 45) (by decide)) (hl.k (k := 45) (by decide)) (by decide) (j := 55) (hl.r (k := 45) (f := 14) (by decide) (by decide)) ?_
  refine Z.iload_n B dX12_copy_72 (x := nI t) rfl ?_
  refine Z.iald (σ := σ) B dX12_copy_73 (n := 8) (hl.n (k := 55) (by decide)) (hl.k (k := 55) (by decide)) (hl.l (k := 55) (by decide)) (by decide) (j := t) rfl (by omega) (v := nI o) hy.2.1 ?_
  refine Z.icmp_eqN B dX12_copy_74 (tgt := 84) rfl (by omega) (by omega) (fun h74 => ?_) (fun h74 => by exfalso; first | omega | contradiction | simp_all)
  refine Z.aload_n B dX12_copy_84 (v := .ref 45) rfl rfl ?_
  refine Z.getR (σ := σ) B fX12_41_12 dX12_copy_85 (hl.n (k := 45) (by decide)) (hl.k (k := 45) (by decide)) (by decide) (j := 54) (hl.r (k := 45) (f := 13) (by decide) (by decide)) ?_
  refine Z.iload_n B dX12_copy_88 (x := nI s) rfl ?_
  refine Z.iald (σ := σ) B dX12_copy_89 (n := 8) (hl.n (k := 54) (by decide)) (hl.k (k := 54) (by decide)) (hl.l (k := 54) (by decide)) (by decide) (j := s) rfl (by omega) (v := nI 1) hx.1 ?_
  refine Z.if_eqN B dX12_copy_90 (tgt := 102) rfl (by omega) (fun h90 => by exfalso; first | omega | contradiction | simp_all) (fun h90 => ?_)
  refine Z.aload_n B dX12_copy_93 (v := .ref 45) rfl rfl ?_
  refine Z.getR (σ := σ) B fX12_41_12 dX12_copy_94 (hl.n (k := 45) (by decide)) (hl.k (k := 45) (by decide)) (by decide) (j := 54) (hl.r (k := 45) (f := 13) (by decide) (by decide)) ?_
  refine Z.iload_n B dX12_copy_97 (x := nI t) rfl ?_
  refine Z.iald (σ := σ) B dX12_copy_98 (n := 8) (hl.n (k := 54) (by decide)) (hl.k (k := 54) (by decide)) (hl.l (k := 54) (by decide)) (by decide) (j := t) rfl (by omega) (v := nI 1) hy.1 ?_
  refine Z.if_neN B dX12_copy_99 (tgt := 109) rfl (by omega) (fun h99 => ?_) (fun h99 => by exfalso; first | omega | contradiction | simp_all)
  refine Z.iload B dX12_copy_109 (x := nI n) rfl ?_
  refine Z.if_geN B dX12_copy_111 (tgt := 121) rfl (by omega) ?_
  refine Z.iload_n B dX12_copy_121 (x := nI i) rfl ?_
  refine Z.if_ltN B dX12_copy_122 (tgt := 157) rfl (by omega) ?_
  refine Z.iload B dX12_copy_125 (x := j) rfl ?_
  refine Z.if_lt B dX12_copy_127 (tgt := 157) rfl (fun h127 => ?_) (fun h127 => ?_)
  · skip
    refine Z.aload_n B dX12_copy_157 (v := .ref 45) rfl rfl ?_
    refine Z.bipush B dX12_copy_158 (v := (-5)) rfl ?_
    refine Z.callVI (σ := σ) B (M' := mX12_no) (as := [.int (-5)]) (st := []) (v := .int (-5)) dX12_copy_160 wX12_no iX12_no sX12_no kX12_94 (hl.n (k := 45) (by decide)) (hl.k (k := 45) (by decide)) (by decide) rfl rfl (t_X12_no_5 (σ := σ) hl) rfl rfl (by decide) (by decide) (Nat.le_of_ble_eq_true rfl) (by decide) (by decide) ?_
    refine Z.eqσ (τ := (zuX σ 46 (upd (zX σ 46) 5 (zX σ 46 5 + nI 1)))) rfl ?_
    refine Z.iret B Rt dX12_copy_163 (ty := .int) rfl rfl (by decide) (by decide) ?_
    exact ⟨rfl, rfl⟩
  · skip
    refine Z.iload_n B dX12_copy_130 (x := nI i) rfl ?_
    refine Z.aload_n B dX12_copy_131 (v := .ref 45) rfl rfl ?_
    refine Z.getR (σ := σ) B fX12_47_12 dX12_copy_132 (hl.n (k := 45) (by decide)) (hl.k (k := 45) (by decide)) (by decide) (j := 56) (hl.r (k := 45) (f := 15) (by decide) (by decide)) ?_
    refine Z.iload_n B dX12_copy_135 (x := nI s) rfl ?_
    refine Z.iald (σ := σ) B dX12_copy_136 (n := 8) (hl.n (k := 56) (by decide)) (hl.k (k := 56) (by decide)) (hl.l (k := 56) (by decide)) (by decide) (j := s) rfl (by omega) (v := nI m) hx.2.2.2.1 ?_
    refine Z.iload B dX12_copy_137 (x := nI n) rfl ?_
    refine Z.isub B dX12_copy_139 ?_
    refine Z.icmp_gt B dX12_copy_140 (tgt := 157) rfl (fun h140 => ?_) (fun h140 => (by exfalso; rw [zlt_iff, zsubI (by omega) hn, nI_toInt h3] at h140; omega))
    refine Z.aload_n B dX12_copy_157 (v := .ref 45) rfl rfl ?_
    refine Z.bipush B dX12_copy_158 (v := (-5)) rfl ?_
    refine Z.callVI (σ := σ) B (M' := mX12_no) (as := [.int (-5)]) (st := []) (v := .int (-5)) dX12_copy_160 wX12_no iX12_no sX12_no kX12_94 (hl.n (k := 45) (by decide)) (hl.k (k := 45) (by decide)) (by decide) rfl rfl (t_X12_no_5 (σ := σ) hl) rfl rfl (by decide) (by decide) (Nat.le_of_ble_eq_true rfl) (by decide) (by decide) ?_
    refine Z.eqσ (τ := (zuX σ 46 (upd (zX σ 46) 5 (zX σ 46 5 + nI 1)))) rfl ?_
    refine Z.iret B Rt dX12_copy_163 (ty := .int) rfl rfl (by decide) (by decide) ?_
    exact ⟨rfl, rfl⟩

theorem t_M_copy_5b1 {σ : zSt} (hl : Lay σ) {s t : Nat} (hs : s < 8) (ht : t < 8) {o m : Nat} (hx : zMr σ s o m) {m2 : Nat} (hy : zMr σ t o m2) {i n : Nat} {j : Int32} (hn : n < 2 ^ 31) (hi : i + n ≤ m) (hj : j < 0) : Dt mX12_copy [.ref 45, .int (nI s), .int (nI t), .int (nI i), .int j, .int (nI n)] σ (some (.int (-5))) (zuX σ 46 (upd (zX σ 46) 5 (zX σ 46 5 + nI 1))) := by
  have ho3 := hx.2.2.1
  have ho23 := hy.2.2.1
  have hm160 := hx.2.2.2.2
  have hm2160 := hy.2.2.2.2
  refine Dt.of (by decide) (Nat.le_of_ble_eq_true rfl) fun κ B Rt => ?_
  show Z κ 0 0 σ 0 [(0, .ref 45), (1, .int (nI s)), (2, .int (nI t)), (3, .int (nI i)), (4, .int j), (5, .int (nI n))] []
  refine Z.aload_n B dX12_copy_0 (v := .ref 45) rfl rfl ?_
  refine Z.iload_n B dX12_copy_1 (x := nI s) rfl ?_
  refine Z.callVI (σ := σ) B (M' := mX12_isShelf) (as := [.int (nI s)]) (st := []) (v := .int (nI 1)) dX12_copy_2 wX12_isShelf iX12_isShelf sX12_isShelf kX12_90 (hl.n (k := 45) (by decide)) (hl.k (k := 45) (by decide)) (by decide) rfl rfl (t_X12_isShelf_in (σ := σ) hs) rfl rfl (by decide) (by decide) (Nat.le_of_ble_eq_true rfl) (by decide) (by decide) ?_
  refine Z.if_eqN B dX12_copy_5 (tgt := 16) rfl (by omega) (fun h5 => by exfalso; first | omega | contradiction | simp_all) (fun h5 => ?_)
  refine Z.aload_n B dX12_copy_8 (v := .ref 45) rfl rfl ?_
  refine Z.iload_n B dX12_copy_9 (x := nI t) rfl ?_
  refine Z.callVI (σ := σ) B (M' := mX12_isShelf) (as := [.int (nI t)]) (st := []) (v := .int (nI 1)) dX12_copy_10 wX12_isShelf iX12_isShelf sX12_isShelf kX12_90 (hl.n (k := 45) (by decide)) (hl.k (k := 45) (by decide)) (by decide) rfl rfl (t_X12_isShelf_in (σ := σ) ht) rfl rfl (by decide) (by decide) (Nat.le_of_ble_eq_true rfl) (by decide) (by decide) ?_
  refine Z.if_neN B dX12_copy_13 (tgt := 22) rfl (by omega) (fun h13 => ?_) (fun h13 => by exfalso; first | omega | contradiction | simp_all)
  refine Z.aload_n B dX12_copy_22 (v := .ref 45) rfl rfl ?_
  refine Z.getR (σ := σ) B fX12_41_12 dX12_copy_23 (hl.n (k := 45) (by decide)) (hl.k (k := 45) (by decide)) (by decide) (j := 54) (hl.r (k := 45) (f := 13) (by decide) (by decide)) ?_
  refine Z.iload_n B dX12_copy_26 (x := nI s) rfl ?_
  refine Z.iald (σ := σ) B dX12_copy_27 (n := 8) (hl.n (k := 54) (by decide)) (hl.k (k := 54) (by decide)) (hl.l (k := 54) (by decide)) (by decide) (j := s) rfl (by omega) (v := nI 1) hx.1 ?_
  refine Z.iconst B dX12_copy_28 (v := nI 2) rfl ?_
  refine Z.icmp_eqN B dX12_copy_29 (tgt := 77) rfl (by omega) (by omega) (fun h29 => by exfalso; first | omega | contradiction | simp_all) (fun h29 => ?_)
  refine Z.aload_n B dX12_copy_32 (v := .ref 45) rfl rfl ?_
  refine Z.getR (σ := σ) B fX12_41_12 dX12_copy_33 (hl.n (k := 45) (by decide)) (hl.k (k := 45) (by decide)) (by decide) (j := 54) (hl.r (k := 45) (f := 13) (by decide) (by decide)) ?_
  refine Z.iload_n B dX12_copy_36 (x := nI t) rfl ?_
  refine Z.iald (σ := σ) B dX12_copy_37 (n := 8) (hl.n (k := 54) (by decide)) (hl.k (k := 54) (by decide)) (hl.l (k := 54) (by decide)) (by decide) (j := t) rfl (by omega) (v := nI 1) hy.1 ?_
  refine Z.iconst B dX12_copy_38 (v := nI 2) rfl ?_
  refine Z.icmp_eqN B dX12_copy_39 (tgt := 77) rfl (by omega) (by omega) (fun h39 => by exfalso; first | omega | contradiction | simp_all) (fun h39 => ?_)
  refine Z.aload_n B dX12_copy_42 (v := .ref 45) rfl rfl ?_
  refine Z.getR (σ := σ) B fX12_41_12 dX12_copy_43 (hl.n (k := 45) (by decide)) (hl.k (k := 45) (by decide)) (by decide) (j := 54) (hl.r (k := 45) (f := 13) (by decide) (by decide)) ?_
  refine Z.iload_n B dX12_copy_46 (x := nI s) rfl ?_
  refine Z.iald (σ := σ) B dX12_copy_47 (n := 8) (hl.n (k := 54) (by decide)) (hl.k (k := 54) (by decide)) (hl.l (k := 54) (by decide)) (by decide) (j := s) rfl (by omega) (v := nI 1) hx.1 ?_
  refine Z.iconst B dX12_copy_48 (v := nI 1) rfl ?_
  refine Z.icmp_neN B dX12_copy_49 (tgt := 84) rfl (by omega) (by omega) (fun h49 => by exfalso; first | omega | contradiction | simp_all) (fun h49 => ?_)
  refine Z.aload_n B dX12_copy_52 (v := .ref 45) rfl rfl ?_
  refine Z.getR (σ := σ) B fX12_41_12 dX12_copy_53 (hl.n (k := 45) (by decide)) (hl.k (k := 45) (by decide)) (by decide) (j := 54) (hl.r (k := 45) (f := 13) (by decide) (by decide)) ?_
  refine Z.iload_n B dX12_copy_56 (x := nI t) rfl ?_
  refine Z.iald (σ := σ) B dX12_copy_57 (n := 8) (hl.n (k := 54) (by decide)) (hl.k (k := 54) (by decide)) (hl.l (k := 54) (by decide)) (by decide) (j := t) rfl (by omega) (v := nI 1) hy.1 ?_
  refine Z.iconst B dX12_copy_58 (v := nI 1) rfl ?_
  refine Z.icmp_neN B dX12_copy_59 (tgt := 84) rfl (by omega) (by omega) (fun h59 => by exfalso; first | omega | contradiction | simp_all) (fun h59 => ?_)
  refine Z.aload_n B dX12_copy_62 (v := .ref 45) rfl rfl ?_
  refine Z.getR (σ := σ) B fX12_44_12 dX12_copy_63 (hl.n (k := 45) (by decide)) (hl.k (k := 45) (by decide)) (by decide) (j := 55) (hl.r (k := 45) (f := 14) (by decide) (by decide)) ?_
  refine Z.iload_n B dX12_copy_66 (x := nI s) rfl ?_
  refine Z.iald (σ := σ) B dX12_copy_67 (n := 8) (hl.n (k := 55) (by decide)) (hl.k (k := 55) (by decide)) (hl.l (k := 55) (by decide)) (by decide) (j := s) rfl (by omega) (v := nI o) hx.2.1 ?_
  refine Z.aload_n B dX12_copy_68 (v := .ref 45) rfl rfl ?_
  refine Z.getR (σ := σ) B fX12_44_12 dX12_copy_69 (hl.n (k := 45) (by decide)) (hl.k (k := 45) (by decide)) (by decide) (j := 55) (hl.r (k := 45) (f := 14) (by decide) (by decide)) ?_
  refine Z.iload_n B dX12_copy_72 (x := nI t) rfl ?_
  refine Z.iald (σ := σ) B dX12_copy_73 (n := 8) (hl.n (k := 55) (by decide)) (hl.k (k := 55) (by decide)) (hl.l (k := 55) (by decide)) (by decide) (j := t) rfl (by omega) (v := nI o) hy.2.1 ?_
  refine Z.icmp_eqN B dX12_copy_74 (tgt := 84) rfl (by omega) (by omega) (fun h74 => ?_) (fun h74 => by exfalso; first | omega | contradiction | simp_all)
  refine Z.aload_n B dX12_copy_84 (v := .ref 45) rfl rfl ?_
  refine Z.getR (σ := σ) B fX12_41_12 dX12_copy_85 (hl.n (k := 45) (by decide)) (hl.k (k := 45) (by decide)) (by decide) (j := 54) (hl.r (k := 45) (f := 13) (by decide) (by decide)) ?_
  refine Z.iload_n B dX12_copy_88 (x := nI s) rfl ?_
  refine Z.iald (σ := σ) B dX12_copy_89 (n := 8) (hl.n (k := 54) (by decide)) (hl.k (k := 54) (by decide)) (hl.l (k := 54) (by decide)) (by decide) (j := s) rfl (by omega) (v := nI 1) hx.1 ?_
  refine Z.if_eqN B dX12_copy_90 (tgt := 102) rfl (by omega) (fun h90 => by exfalso; first | omega | contradiction | simp_all) (fun h90 => ?_)
  refine Z.aload_n B dX12_copy_93 (v := .ref 45) rfl rfl ?_
  refine Z.getR (σ := σ) B fX12_41_12 dX12_copy_94 (hl.n (k := 45) (by decide)) (hl.k (k := 45) (by decide)) (by decide) (j := 54) (hl.r (k := 45) (f := 13) (by decide) (by decide)) ?_
  refine Z.iload_n B dX12_copy_97 (x := nI t) rfl ?_
  refine Z.iald (σ := σ) B dX12_copy_98 (n := 8) (hl.n (k := 54) (by decide)) (hl.k (k := 54) (by decide)) (hl.l (k := 54) (by decide)) (by decide) (j := t) rfl (by omega) (v := nI 1) hy.1 ?_
  refine Z.if_neN B dX12_copy_99 (tgt := 109) rfl (by omega) (fun h99 => ?_) (fun h99 => by exfalso; first | omega | contradiction | simp_all)
  refine Z.iload B dX12_copy_109 (x := nI n) rfl ?_
  refine Z.if_geN B dX12_copy_111 (tgt := 121) rfl (by omega) ?_
  refine Z.iload_n B dX12_copy_121 (x := nI i) rfl ?_
  refine Z.if_ltN B dX12_copy_122 (tgt := 157) rfl (by omega) ?_
  refine Z.iload B dX12_copy_125 (x := j) rfl ?_
  refine Z.if_lt B dX12_copy_127 (tgt := 157) rfl (fun h127 => ?_) (fun h127 => by exfalso; first | omega | contradiction | simp_all)
  refine Z.aload_n B dX12_copy_157 (v := .ref 45) rfl rfl ?_
  refine Z.bipush B dX12_copy_158 (v := (-5)) rfl ?_
  refine Z.callVI (σ := σ) B (M' := mX12_no) (as := [.int (-5)]) (st := []) (v := .int (-5)) dX12_copy_160 wX12_no iX12_no sX12_no kX12_94 (hl.n (k := 45) (by decide)) (hl.k (k := 45) (by decide)) (by decide) rfl rfl (t_X12_no_5 (σ := σ) hl) rfl rfl (by decide) (by decide) (Nat.le_of_ble_eq_true rfl) (by decide) (by decide) ?_
  refine Z.eqσ (τ := (zuX σ 46 (upd (zX σ 46) 5 (zX σ 46 5 + nI 1)))) rfl ?_
  refine Z.iret B Rt dX12_copy_163 (ty := .int) rfl rfl (by decide) (by decide) ?_
  exact ⟨rfl, rfl⟩

theorem t_M_copy_5b2 {σ : zSt} (hl : Lay σ) {s t : Nat} (hs : s < 8) (ht : t < 8) {o m : Nat} (hx : zMr σ s o m) {m2 : Nat} (hy : zMr σ t o m2) {i j n : Nat} (hn : n < 2 ^ 31) (hi : i + n ≤ m) (h3 : j < 2 ^ 31) (hj : m2 < j + n) : Dt mX12_copy [.ref 45, .int (nI s), .int (nI t), .int (nI i), .int (nI j), .int (nI n)] σ (some (.int (-5))) (zuX σ 46 (upd (zX σ 46) 5 (zX σ 46 5 + nI 1))) := by
  have ho3 := hx.2.2.1
  have ho23 := hy.2.2.1
  have hm160 := hx.2.2.2.2
  have hm2160 := hy.2.2.2.2
  refine Dt.of (by decide) (Nat.le_of_ble_eq_true rfl) fun κ B Rt => ?_
  show Z κ 0 0 σ 0 [(0, .ref 45), (1, .int (nI s)), (2, .int (nI t)), (3, .int (nI i)), (4, .int (nI j)), (5, .int (nI n))] []
  refine Z.aload_n B dX12_copy_0 (v := .ref 45) rfl rfl ?_
  refine Z.iload_n B dX12_copy_1 (x := nI s) rfl ?_
  refine Z.callVI (σ := σ) B (M' := mX12_isShelf) (as := [.int (nI s)]) (st := []) (v := .int (nI 1)) dX12_copy_2 wX12_isShelf iX12_isShelf sX12_isShelf kX12_90 (hl.n (k := 45) (by decide)) (hl.k (k := 45) (by decide)) (by decide) rfl rfl (t_X12_isShelf_in (σ := σ) hs) rfl rfl (by decide) (by decide) (Nat.le_of_ble_eq_true rfl) (by decide) (by decide) ?_
  refine Z.if_eqN B dX12_copy_5 (tgt := 16) rfl (by omega) (fun h5 => by exfalso; first | omega | contradiction | simp_all) (fun h5 => ?_)
  refine Z.aload_n B dX12_copy_8 (v := .ref 45) rfl rfl ?_
  refine Z.iload_n B dX12_copy_9 (x := nI t) rfl ?_
  refine Z.callVI (σ := σ) B (M' := mX12_isShelf) (as := [.int (nI t)]) (st := []) (v := .int (nI 1)) dX12_copy_10 wX12_isShelf iX12_isShelf sX12_isShelf kX12_90 (hl.n (k := 45) (by decide)) (hl.k (k := 45) (by decide)) (by decide) rfl rfl (t_X12_isShelf_in (σ := σ) ht) rfl rfl (by decide) (by decide) (Nat.le_of_ble_eq_true rfl) (by decide) (by decide) ?_
  refine Z.if_neN B dX12_copy_13 (tgt := 22) rfl (by omega) (fun h13 => ?_) (fun h13 => by exfalso; first | omega | contradiction | simp_all)
  refine Z.aload_n B dX12_copy_22 (v := .ref 45) rfl rfl ?_
  refine Z.getR (σ := σ) B fX12_41_12 dX12_copy_23 (hl.n (k := 45) (by decide)) (hl.k (k := 45) (by decide)) (by decide) (j := 54) (hl.r (k := 45) (f := 13) (by decide) (by decide)) ?_
  refine Z.iload_n B dX12_copy_26 (x := nI s) rfl ?_
  refine Z.iald (σ := σ) B dX12_copy_27 (n := 8) (hl.n (k := 54) (by decide)) (hl.k (k := 54) (by decide)) (hl.l (k := 54) (by decide)) (by decide) (j := s) rfl (by omega) (v := nI 1) hx.1 ?_
  refine Z.iconst B dX12_copy_28 (v := nI 2) rfl ?_
  refine Z.icmp_eqN B dX12_copy_29 (tgt := 77) rfl (by omega) (by omega) (fun h29 => by exfalso; first | omega | contradiction | simp_all) (fun h29 => ?_)
  refine Z.aload_n B dX12_copy_32 (v := .ref 45) rfl rfl ?_
  refine Z.getR (σ := σ) B fX12_41_12 dX12_copy_33 (hl.n (k := 45) (by decide)) (hl.k (k := 45) (by decide)) (by decide) (j := 54) (hl.r (k := 45) (f := 13) (by decide) (by decide)) ?_
  refine Z.iload_n B dX12_copy_36 (x := nI t) rfl ?_
  refine Z.iald (σ := σ) B dX12_copy_37 (n := 8) (hl.n (k := 54) (by decide)) (hl.k (k := 54) (by decide)) (hl.l (k := 54) (by decide)) (by decide) (j := t) rfl (by omega) (v := nI 1) hy.1 ?_
  refine Z.iconst B dX12_copy_38 (v := nI 2) rfl ?_
  refine Z.icmp_eqN B dX12_copy_39 (tgt := 77) rfl (by omega) (by omega) (fun h39 => by exfalso; first | omega | contradiction | simp_all) (fun h39 => ?_)
  refine Z.aload_n B dX12_copy_42 (v := .ref 45) rfl rfl ?_
  refine Z.getR (σ := σ) B fX12_41_12 dX12_copy_43 (hl.n (k := 45) (by decide)) (hl.k (k := 45) (by decide)) (by decide) (j := 54) (hl.r (k := 45) (f := 13) (by decide) (by decide)) ?_
  refine Z.iload_n B dX12_copy_46 (x := nI s) rfl ?_
  refine Z.iald (σ := σ) B dX12_copy_47 (n := 8) (hl.n (k := 54) (by decide)) (hl.k (k := 54) (by decide)) (hl.l (k := 54) (by decide)) (by decide) (j := s) rfl (by omega) (v := nI 1) hx.1 ?_
  refine Z.iconst B dX12_copy_48 (v := nI 1) rfl ?_
  refine Z.icmp_neN B dX12_copy_49 (tgt := 84) rfl (by omega) (by omega) (fun h49 => by exfalso; first | omega | contradiction | simp_all) (fun h49 => ?_)
  refine Z.aload_n B dX12_copy_52 (v := .ref 45) rfl rfl ?_
  refine Z.getR (σ := σ) B fX12_41_12 dX12_copy_53 (hl.n (k := 45) (by decide)) (hl.k (k := 45) (by decide)) (by decide) (j := 54) (hl.r (k := 45) (f := 13) (by decide) (by decide)) ?_
  refine Z.iload_n B dX12_copy_56 (x := nI t) rfl ?_
  refine Z.iald (σ := σ) B dX12_copy_57 (n := 8) (hl.n (k := 54) (by decide)) (hl.k (k := 54) (by decide)) (hl.l (k := 54) (by decide)) (by decide) (j := t) rfl (by omega) (v := nI 1) hy.1 ?_
  refine Z.iconst B dX12_copy_58 (v := nI 1) rfl ?_
  refine Z.icmp_neN B dX12_copy_59 (tgt := 84) rfl (by omega) (by omega) (fun h59 => by exfalso; first | omega | contradiction | simp_all) (fun h59 => ?_)
  refine Z.aload_n B dX12_copy_62 (v := .ref 45) rfl rfl ?_
  refine Z.getR (σ := σ) B fX12_44_12 dX12_copy_63 (hl.n (k := 45) (by decide)) (hl.k (k := 45) (by decide)) (by decide) (j := 55) (hl.r (k := 45) (f := 14) (by decide) (by decide)) ?_
  refine Z.iload_n B dX12_copy_66 (x := nI s) rfl ?_
  refine Z.iald (σ := σ) B dX12_copy_67 (n := 8) (hl.n (k := 55) (by decide)) (hl.k (k := 55) (by decide)) (hl.l (k := 55) (by decide)) (by decide) (j := s) rfl (by omega) (v := nI o) hx.2.1 ?_
  refine Z.aload_n B dX12_copy_68 (v := .ref 45) rfl rfl ?_
  refine Z.getR (σ := σ) B fX12_44_12 dX12_copy_69 (hl.n (k := 45) (by decide)) (hl.k (k := 45) (by decide)) (by decide) (j := 55) (hl.r (k := 45) (f := 14) (by decide) (by decide)) ?_
  refine Z.iload_n B dX12_copy_72 (x := nI t) rfl ?_
  refine Z.iald (σ := σ) B dX12_copy_73 (n := 8) (hl.n (k := 55) (by decide)) (hl.k (k := 55) (by decide)) (hl.l (k := 55) (by decide)) (by decide) (j := t) rfl (by omega) (v := nI o) hy.2.1 ?_
  refine Z.icmp_eqN B dX12_copy_74 (tgt := 84) rfl (by omega) (by omega) (fun h74 => ?_) (fun h74 => by exfalso; first | omega | contradiction | simp_all)
  refine Z.aload_n B dX12_copy_84 (v := .ref 45) rfl rfl ?_
  refine Z.getR (σ := σ) B fX12_41_12 dX12_copy_85 (hl.n (k := 45) (by decide)) (hl.k (k := 45) (by decide)) (by decide) (j := 54) (hl.r (k := 45) (f := 13) (by decide) (by decide)) ?_
  refine Z.iload_n B dX12_copy_88 (x := nI s) rfl ?_
  refine Z.iald (σ := σ) B dX12_copy_89 (n := 8) (hl.n (k := 54) (by decide)) (hl.k (k := 54) (by decide)) (hl.l (k := 54) (by decide)) (by decide) (j := s) rfl (by omega) (v := nI 1) hx.1 ?_
  refine Z.if_eqN B dX12_copy_90 (tgt := 102) rfl (by omega) (fun h90 => by exfalso; first | omega | contradiction | simp_all) (fun h90 => ?_)
  refine Z.aload_n B dX12_copy_93 (v := .ref 45) rfl rfl ?_
  refine Z.getR (σ := σ) B fX12_41_12 dX12_copy_94 (hl.n (k := 45) (by decide)) (hl.k (k := 45) (by decide)) (by decide) (j := 54) (hl.r (k := 45) (f := 13) (by decide) (by decide)) ?_
  refine Z.iload_n B dX12_copy_97 (x := nI t) rfl ?_
  refine Z.iald (σ := σ) B dX12_copy_98 (n := 8) (hl.n (k := 54) (by decide)) (hl.k (k := 54) (by decide)) (hl.l (k := 54) (by decide)) (by decide) (j := t) rfl (by omega) (v := nI 1) hy.1 ?_
  refine Z.if_neN B dX12_copy_99 (tgt := 109) rfl (by omega) (fun h99 => ?_) (fun h99 => by exfalso; first | omega | contradiction | simp_all)
  refine Z.iload B dX12_copy_109 (x := nI n) rfl ?_
  refine Z.if_geN B dX12_copy_111 (tgt := 121) rfl (by omega) ?_
  refine Z.iload_n B dX12_copy_121 (x := nI i) rfl ?_
  refine Z.if_ltN B dX12_copy_122 (tgt := 157) rfl (by omega) ?_
  refine Z.iload B dX12_copy_125 (x := nI j) rfl ?_
  refine Z.if_ltN B dX12_copy_127 (tgt := 157) rfl (by omega) ?_
  refine Z.iload_n B dX12_copy_130 (x := nI i) rfl ?_
  refine Z.aload_n B dX12_copy_131 (v := .ref 45) rfl rfl ?_
  refine Z.getR (σ := σ) B fX12_47_12 dX12_copy_132 (hl.n (k := 45) (by decide)) (hl.k (k := 45) (by decide)) (by decide) (j := 56) (hl.r (k := 45) (f := 15) (by decide) (by decide)) ?_
  refine Z.iload_n B dX12_copy_135 (x := nI s) rfl ?_
  refine Z.iald (σ := σ) B dX12_copy_136 (n := 8) (hl.n (k := 56) (by decide)) (hl.k (k := 56) (by decide)) (hl.l (k := 56) (by decide)) (by decide) (j := s) rfl (by omega) (v := nI m) hx.2.2.2.1 ?_
  refine Z.iload B dX12_copy_137 (x := nI n) rfl ?_
  refine Z.isubN B dX12_copy_139 (a := m) (b := n) (by omega) ?_
  refine Z.icmp_gtN B dX12_copy_140 (tgt := 157) rfl (by omega) (by omega) (fun h140 => by exfalso; first | omega | contradiction | simp_all) (fun h140 => ?_)
  refine Z.iload B dX12_copy_143 (x := nI j) rfl ?_
  refine Z.aload_n B dX12_copy_145 (v := .ref 45) rfl rfl ?_
  refine Z.getR (σ := σ) B fX12_47_12 dX12_copy_146 (hl.n (k := 45) (by decide)) (hl.k (k := 45) (by decide)) (by decide) (j := 56) (hl.r (k := 45) (f := 15) (by decide) (by decide)) ?_
  refine Z.iload_n B dX12_copy_149 (x := nI t) rfl ?_
  refine Z.iald (σ := σ) B dX12_copy_150 (n := 8) (hl.n (k := 56) (by decide)) (hl.k (k := 56) (by decide)) (hl.l (k := 56) (by decide)) (by decide) (j := t) rfl (by omega) (v := nI m2) hy.2.2.2.1 ?_
  refine Z.iload B dX12_copy_151 (x := nI n) rfl ?_
  refine Z.isub B dX12_copy_153 ?_
  refine Z.icmp_le B dX12_copy_154 (tgt := 164) rfl (fun h154 => (by exfalso; rw [zle_iff, zsubI (by omega) hn, nI_toInt h3] at h154; omega)) (fun h154 => ?_)
  refine Z.aload_n B dX12_copy_157 (v := .ref 45) rfl rfl ?_
  refine Z.bipush B dX12_copy_158 (v := (-5)) rfl ?_
  refine Z.callVI (σ := σ) B (M' := mX12_no) (as := [.int (-5)]) (st := []) (v := .int (-5)) dX12_copy_160 wX12_no iX12_no sX12_no kX12_94 (hl.n (k := 45) (by decide)) (hl.k (k := 45) (by decide)) (by decide) rfl rfl (t_X12_no_5 (σ := σ) hl) rfl rfl (by decide) (by decide) (Nat.le_of_ble_eq_true rfl) (by decide) (by decide) ?_
  refine Z.eqσ (τ := (zuX σ 46 (upd (zX σ 46) 5 (zX σ 46 5 + nI 1)))) rfl ?_
  refine Z.iret B Rt dX12_copy_163 (ty := .int) rfl rfl (by decide) (by decide) ?_
  exact ⟨rfl, rfl⟩

theorem t_M_copy_0 {σ : zSt} (hl : Lay σ) {s t : Nat} (hs : s < 8) (ht : t < 8) {o m : Nat} (hx : zMr σ s o m) {m2 : Nat} (hy : zMr σ t o m2) {i j n : Nat} (hi : i + n ≤ m) (hj : j + n ≤ m2) : Dt mX12_copy [.ref 45, .int (nI s), .int (nI t), .int (nI i), .int (nI j), .int (nI n)] σ (some (.int (nI 1))) (zuY (zuY σ 59 (va_cpy (zY σ 58) (zY σ 59) (s * 160 + i) 0 n)) 58 (va_cpy (va_cpy (zY σ 58) (zY σ 59) (s * 160 + i) 0 n) (zY σ 58) 0 (t * 160 + j) n)) := by
  have ho3 := hx.2.2.1
  have ho23 := hy.2.2.1
  have hm160 := hx.2.2.2.2
  have hm2160 := hy.2.2.2.2
  refine Dt.of (by decide) (Nat.le_of_ble_eq_true rfl) fun κ B Rt => ?_
  show Z κ 0 0 σ 0 [(0, .ref 45), (1, .int (nI s)), (2, .int (nI t)), (3, .int (nI i)), (4, .int (nI j)), (5, .int (nI n))] []
  refine Z.aload_n B dX12_copy_0 (v := .ref 45) rfl rfl ?_
  refine Z.iload_n B dX12_copy_1 (x := nI s) rfl ?_
  refine Z.callVI (σ := σ) B (M' := mX12_isShelf) (as := [.int (nI s)]) (st := []) (v := .int (nI 1)) dX12_copy_2 wX12_isShelf iX12_isShelf sX12_isShelf kX12_90 (hl.n (k := 45) (by decide)) (hl.k (k := 45) (by decide)) (by decide) rfl rfl (t_X12_isShelf_in (σ := σ) hs) rfl rfl (by decide) (by decide) (Nat.le_of_ble_eq_true rfl) (by decide) (by decide) ?_
  refine Z.if_eqN B dX12_copy_5 (tgt := 16) rfl (by omega) (fun h5 => by exfalso; first | omega | contradiction | simp_all) (fun h5 => ?_)
  refine Z.aload_n B dX12_copy_8 (v := .ref 45) rfl rfl ?_
  refine Z.iload_n B dX12_copy_9 (x := nI t) rfl ?_
  refine Z.callVI (σ := σ) B (M' := mX12_isShelf) (as := [.int (nI t)]) (st := []) (v := .int (nI 1)) dX12_copy_10 wX12_isShelf iX12_isShelf sX12_isShelf kX12_90 (hl.n (k := 45) (by decide)) (hl.k (k := 45) (by decide)) (by decide) rfl rfl (t_X12_isShelf_in (σ := σ) ht) rfl rfl (by decide) (by decide) (Nat.le_of_ble_eq_true rfl) (by decide) (by decide) ?_
  refine Z.if_neN B dX12_copy_13 (tgt := 22) rfl (by omega) (fun h13 => ?_) (fun h13 => by exfalso; first | omega | contradiction | simp_all)
  refine Z.aload_n B dX12_copy_22 (v := .ref 45) rfl rfl ?_
  refine Z.getR (σ := σ) B fX12_41_12 dX12_copy_23 (hl.n (k := 45) (by decide)) (hl.k (k := 45) (by decide)) (by decide) (j := 54) (hl.r (k := 45) (f := 13) (by decide) (by decide)) ?_
  refine Z.iload_n B dX12_copy_26 (x := nI s) rfl ?_
  refine Z.iald (σ := σ) B dX12_copy_27 (n := 8) (hl.n (k := 54) (by decide)) (hl.k (k := 54) (by decide)) (hl.l (k := 54) (by decide)) (by decide) (j := s) rfl (by omega) (v := nI 1) hx.1 ?_
  refine Z.iconst B dX12_copy_28 (v := nI 2) rfl ?_
  refine Z.icmp_eqN B dX12_copy_29 (tgt := 77) rfl (by omega) (by omega) (fun h29 => by exfalso; first | omega | contradiction | simp_all) (fun h29 => ?_)
  refine Z.aload_n B dX12_copy_32 (v := .ref 45) rfl rfl ?_
  refine Z.getR (σ := σ) B fX12_41_12 dX12_copy_33 (hl.n (k := 45) (by decide)) (hl.k (k := 45) (by decide)) (by decide) (j := 54) (hl.r (k := 45) (f := 13) (by decide) (by decide)) ?_
  refine Z.iload_n B dX12_copy_36 (x := nI t) rfl ?_
  refine Z.iald (σ := σ) B dX12_copy_37 (n := 8) (hl.n (k := 54) (by decide)) (hl.k (k := 54) (by decide)) (hl.l (k := 54) (by decide)) (by decide) (j := t) rfl (by omega) (v := nI 1) hy.1 ?_
  refine Z.iconst B dX12_copy_38 (v := nI 2) rfl ?_
  refine Z.icmp_eqN B dX12_copy_39 (tgt := 77) rfl (by omega) (by omega) (fun h39 => by exfalso; first | omega | contradiction | simp_all) (fun h39 => ?_)
  refine Z.aload_n B dX12_copy_42 (v := .ref 45) rfl rfl ?_
  refine Z.getR (σ := σ) B fX12_41_12 dX12_copy_43 (hl.n (k := 45) (by decide)) (hl.k (k := 45) (by decide)) (by decide) (j := 54) (hl.r (k := 45) (f := 13) (by decide) (by decide)) ?_
  refine Z.iload_n B dX12_copy_46 (x := nI s) rfl ?_
  refine Z.iald (σ := σ) B dX12_copy_47 (n := 8) (hl.n (k := 54) (by decide)) (hl.k (k := 54) (by decide)) (hl.l (k := 54) (by decide)) (by decide) (j := s) rfl (by omega) (v := nI 1) hx.1 ?_
  refine Z.iconst B dX12_copy_48 (v := nI 1) rfl ?_
  refine Z.icmp_neN B dX12_copy_49 (tgt := 84) rfl (by omega) (by omega) (fun h49 => by exfalso; first | omega | contradiction | simp_all) (fun h49 => ?_)
  refine Z.aload_n B dX12_copy_52 (v := .ref 45) rfl rfl ?_
  refine Z.getR (σ := σ) B fX12_41_12 dX12_copy_53 (hl.n (k := 45) (by decide)) (hl.k (k := 45) (by decide)) (by decide) (j := 54) (hl.r (k := 45) (f := 13) (by decide) (by decide)) ?_
  refine Z.iload_n B dX12_copy_56 (x := nI t) rfl ?_
  refine Z.iald (σ := σ) B dX12_copy_57 (n := 8) (hl.n (k := 54) (by decide)) (hl.k (k := 54) (by decide)) (hl.l (k := 54) (by decide)) (by decide) (j := t) rfl (by omega) (v := nI 1) hy.1 ?_
  refine Z.iconst B dX12_copy_58 (v := nI 1) rfl ?_
  refine Z.icmp_neN B dX12_copy_59 (tgt := 84) rfl (by omega) (by omega) (fun h59 => by exfalso; first | omega | contradiction | simp_all) (fun h59 => ?_)
  refine Z.aload_n B dX12_copy_62 (v := .ref 45) rfl rfl ?_
  refine Z.getR (σ := σ) B fX12_44_12 dX12_copy_63 (hl.n (k := 45) (by decide)) (hl.k (k := 45) (by decide)) (by decide) (j := 55) (hl.r (k := 45) (f := 14) (by decide) (by decide)) ?_
  refine Z.iload_n B dX12_copy_66 (x := nI s) rfl ?_
  refine Z.iald (σ := σ) B dX12_copy_67 (n := 8) (hl.n (k := 55) (by decide)) (hl.k (k := 55) (by decide)) (hl.l (k := 55) (by decide)) (by decide) (j := s) rfl (by omega) (v := nI o) hx.2.1 ?_
  refine Z.aload_n B dX12_copy_68 (v := .ref 45) rfl rfl ?_
  refine Z.getR (σ := σ) B fX12_44_12 dX12_copy_69 (hl.n (k := 45) (by decide)) (hl.k (k := 45) (by decide)) (by decide) (j := 55) (hl.r (k := 45) (f := 14) (by decide) (by decide)) ?_
  refine Z.iload_n B dX12_copy_72 (x := nI t) rfl ?_
  refine Z.iald (σ := σ) B dX12_copy_73 (n := 8) (hl.n (k := 55) (by decide)) (hl.k (k := 55) (by decide)) (hl.l (k := 55) (by decide)) (by decide) (j := t) rfl (by omega) (v := nI o) hy.2.1 ?_
  refine Z.icmp_eqN B dX12_copy_74 (tgt := 84) rfl (by omega) (by omega) (fun h74 => ?_) (fun h74 => by exfalso; first | omega | contradiction | simp_all)
  refine Z.aload_n B dX12_copy_84 (v := .ref 45) rfl rfl ?_
  refine Z.getR (σ := σ) B fX12_41_12 dX12_copy_85 (hl.n (k := 45) (by decide)) (hl.k (k := 45) (by decide)) (by decide) (j := 54) (hl.r (k := 45) (f := 13) (by decide) (by decide)) ?_
  refine Z.iload_n B dX12_copy_88 (x := nI s) rfl ?_
  refine Z.iald (σ := σ) B dX12_copy_89 (n := 8) (hl.n (k := 54) (by decide)) (hl.k (k := 54) (by decide)) (hl.l (k := 54) (by decide)) (by decide) (j := s) rfl (by omega) (v := nI 1) hx.1 ?_
  refine Z.if_eqN B dX12_copy_90 (tgt := 102) rfl (by omega) (fun h90 => by exfalso; first | omega | contradiction | simp_all) (fun h90 => ?_)
  refine Z.aload_n B dX12_copy_93 (v := .ref 45) rfl rfl ?_
  refine Z.getR (σ := σ) B fX12_41_12 dX12_copy_94 (hl.n (k := 45) (by decide)) (hl.k (k := 45) (by decide)) (by decide) (j := 54) (hl.r (k := 45) (f := 13) (by decide) (by decide)) ?_
  refine Z.iload_n B dX12_copy_97 (x := nI t) rfl ?_
  refine Z.iald (σ := σ) B dX12_copy_98 (n := 8) (hl.n (k := 54) (by decide)) (hl.k (k := 54) (by decide)) (hl.l (k := 54) (by decide)) (by decide) (j := t) rfl (by omega) (v := nI 1) hy.1 ?_
  refine Z.if_neN B dX12_copy_99 (tgt := 109) rfl (by omega) (fun h99 => ?_) (fun h99 => by exfalso; first | omega | contradiction | simp_all)
  refine Z.iload B dX12_copy_109 (x := nI n) rfl ?_
  refine Z.if_geN B dX12_copy_111 (tgt := 121) rfl (by omega) ?_
  refine Z.iload_n B dX12_copy_121 (x := nI i) rfl ?_
  refine Z.if_ltN B dX12_copy_122 (tgt := 157) rfl (by omega) ?_
  refine Z.iload B dX12_copy_125 (x := nI j) rfl ?_
  refine Z.if_ltN B dX12_copy_127 (tgt := 157) rfl (by omega) ?_
  refine Z.iload_n B dX12_copy_130 (x := nI i) rfl ?_
  refine Z.aload_n B dX12_copy_131 (v := .ref 45) rfl rfl ?_
  refine Z.getR (σ := σ) B fX12_47_12 dX12_copy_132 (hl.n (k := 45) (by decide)) (hl.k (k := 45) (by decide)) (by decide) (j := 56) (hl.r (k := 45) (f := 15) (by decide) (by decide)) ?_
  refine Z.iload_n B dX12_copy_135 (x := nI s) rfl ?_
  refine Z.iald (σ := σ) B dX12_copy_136 (n := 8) (hl.n (k := 56) (by decide)) (hl.k (k := 56) (by decide)) (hl.l (k := 56) (by decide)) (by decide) (j := s) rfl (by omega) (v := nI m) hx.2.2.2.1 ?_
  refine Z.iload B dX12_copy_137 (x := nI n) rfl ?_
  refine Z.isubN B dX12_copy_139 (a := m) (b := n) (by omega) ?_
  refine Z.icmp_gtN B dX12_copy_140 (tgt := 157) rfl (by omega) (by omega) (fun h140 => by exfalso; first | omega | contradiction | simp_all) (fun h140 => ?_)
  refine Z.iload B dX12_copy_143 (x := nI j) rfl ?_
  refine Z.aload_n B dX12_copy_145 (v := .ref 45) rfl rfl ?_
  refine Z.getR (σ := σ) B fX12_47_12 dX12_copy_146 (hl.n (k := 45) (by decide)) (hl.k (k := 45) (by decide)) (by decide) (j := 56) (hl.r (k := 45) (f := 15) (by decide) (by decide)) ?_
  refine Z.iload_n B dX12_copy_149 (x := nI t) rfl ?_
  refine Z.iald (σ := σ) B dX12_copy_150 (n := 8) (hl.n (k := 56) (by decide)) (hl.k (k := 56) (by decide)) (hl.l (k := 56) (by decide)) (by decide) (j := t) rfl (by omega) (v := nI m2) hy.2.2.2.1 ?_
  refine Z.iload B dX12_copy_151 (x := nI n) rfl ?_
  refine Z.isubN B dX12_copy_153 (a := m2) (b := n) (by omega) ?_
  refine Z.icmp_leN B dX12_copy_154 (tgt := 164) rfl (by omega) (by omega) (fun h154 => ?_) (fun h154 => by exfalso; first | omega | contradiction | simp_all)
  refine Z.iconst B dX12_copy_164 (v := nI 0) rfl ?_
  refine Z.istore B dX12_copy_165 (by decide) (L' := [(0, .ref 45), (1, .int (nI s)), (2, .int (nI t)), (3, .int (nI i)), (4, .int (nI j)), (5, .int (nI n)), (6, .int (nI 0))]) rfl ?_
  have hloop167 : ∀ k : Nat, k ≤ n → Z κ 0 0 (zuY σ 59 (va_cpy (zY σ 58) (zY σ 59) (s * 160 + i) 0 k)) 167 [(0, .ref 45), (1, .int (nI s)), (2, .int (nI t)), (3, .int (nI i)), (4, .int (nI j)), (5, .int (nI n)), (6, .int (nI k))] [] := by
    refine z_loop (fun k => n - k) (fun k ih hk => ?_)
    refine Z.iload B dX12_copy_167 (x := nI k) rfl ?_
    refine Z.iload B dX12_copy_169 (x := nI n) rfl ?_
    refine Z.icmp_geN B dX12_copy_171 (tgt := 202) rfl (by omega) (by omega) (fun h171 => ?_) (fun h171 => ?_)
    · skip
      obtain rfl : n = k := by omega
      refine Z.iconst B dX12_copy_202 (v := nI 0) rfl ?_
      refine Z.istore B dX12_copy_203 (by decide) (L' := [(0, .ref 45), (1, .int (nI s)), (2, .int (nI t)), (3, .int (nI i)), (4, .int (nI j)), (5, .int (nI n)), (6, .int (nI 0))]) rfl ?_
      have hloop205 : ∀ k : Nat, k ≤ n → Z κ 0 0 (zuY (zuY σ 59 (va_cpy (zY σ 58) (zY σ 59) (s * 160 + i) 0 n)) 58 (va_cpy (va_cpy (zY σ 58) (zY σ 59) (s * 160 + i) 0 n) (zY σ 58) 0 (t * 160 + j) k)) 205 [(0, .ref 45), (1, .int (nI s)), (2, .int (nI t)), (3, .int (nI i)), (4, .int (nI j)), (5, .int (nI n)), (6, .int (nI k))] [] := by
        refine z_loop (fun k => n - k) (fun k ihk hk => ?_)
        refine Z.iload B dX12_copy_205 (x := nI k) rfl ?_
        refine Z.iload B dX12_copy_207 (x := nI n) rfl ?_
        refine Z.icmp_geN B dX12_copy_209 (tgt := 241) rfl (by omega) (by omega) (fun h209 => ?_) (fun h209 => ?_)
        · skip
          obtain rfl : n = k := by omega
          refine Z.iconst B dX12_copy_241 (v := nI 1) rfl ?_
          refine Z.iret B Rt dX12_copy_242 (ty := .int) rfl rfl (by decide) (by decide) ?_
          exact ⟨rfl, rfl⟩
        · skip
          refine Z.aload_n B dX12_copy_212 (v := .ref 45) rfl rfl ?_
          refine Z.getR (σ := (zuY (zuY σ 59 (va_cpy (zY σ 58) (zY σ 59) (s * 160 + i) 0 n)) 58 (va_cpy (va_cpy (zY σ 58) (zY σ 59) (s * 160 + i) 0 n) (zY σ 58) 0 (t * 160 + j) k))) B fX12_53_12 dX12_copy_213 (hl.n (k := 45) (by decide)) (hl.k (k := 45) (by decide)) (by decide) (j := 58) (hl.r (k := 45) (f := 17) (by decide) (by decide)) ?_
          refine Z.sipush B dX12_copy_216 (v := nI 160) rfl ?_
          refine Z.iload_n B dX12_copy_219 (x := nI t) rfl ?_
          refine Z.imulNc B dX12_copy_220 (a := 160) (b := t) ?_
          refine Z.iload B dX12_copy_221 (x := nI j) rfl ?_
          refine Z.iaddN B dX12_copy_223 (a := t * 160) (b := j) ?_
          refine Z.iload B dX12_copy_224 (x := nI k) rfl ?_
          refine Z.iaddN B dX12_copy_226 (a := (t * 160) + j) (b := k) ?_
          refine Z.aload_n B dX12_copy_227 (v := .ref 45) rfl rfl ?_
          refine Z.getR (σ := (zuY (zuY σ 59 (va_cpy (zY σ 58) (zY σ 59) (s * 160 + i) 0 n)) 58 (va_cpy (va_cpy (zY σ 58) (zY σ 59) (s * 160 + i) 0 n) (zY σ 58) 0 (t * 160 + j) k))) B fX12_57_12 dX12_copy_228 (hl.n (k := 45) (by decide)) (hl.k (k := 45) (by decide)) (by decide) (j := 59) (hl.r (k := 45) (f := 18) (by decide) (by decide)) ?_
          refine Z.iload B dX12_copy_231 (x := nI k) rfl ?_
          refine Z.lald (σ := (zuY (zuY σ 59 (va_cpy (zY σ 58) (zY σ 59) (s * 160 + i) 0 n)) 58 (va_cpy (va_cpy (zY σ 58) (zY σ 59) (s * 160 + i) 0 n) (zY σ 58) 0 (t * 160 + j) k))) B dX12_copy_233 (n := 160) (hl.n (k := 59) (by decide)) (hl.k (k := 59) (by decide)) (hl.l (k := 59) (by decide)) (by decide) (j := k) rfl (by omega) (v := ((va_cpy (zY σ 58) (zY σ 59) (s * 160 + i) 0 n) k)) rfl ?_
          refine Z.last (σ := (zuY (zuY σ 59 (va_cpy (zY σ 58) (zY σ 59) (s * 160 + i) 0 n)) 58 (va_cpy (va_cpy (zY σ 58) (zY σ 59) (s * 160 + i) 0 n) (zY σ 58) 0 (t * 160 + j) k))) B dX12_copy_234 (n := 1280) (hl.n (k := 58) (by decide)) (hl.k (k := 58) (by decide)) (hl.l (k := 58) (by decide)) (by decide) (j := ((t * 160) + j) + k) rfl (by omega) (τ := (zuY (zuY σ 59 (va_cpy (zY σ 58) (zY σ 59) (s * 160 + i) 0 n)) 58 (va_cpy (va_cpy (zY σ 58) (zY σ 59) (s * 160 + i) 0 n) (zY σ 58) 0 (t * 160 + j) (k + 1)))) (by rw [zY_self, zuY_uY, cpyL_s (by rw [Nat.zero_add])]) ?_
          refine Z.iincN B dX12_copy_235 (by decide) (a := k) rfl (L' := [(0, .ref 45), (1, .int (nI s)), (2, .int (nI t)), (3, .int (nI i)), (4, .int (nI j)), (5, .int (nI n)), (6, .int (nI (k + 1)))]) rfl ?_
          refine Z.goto B dX12_copy_238 (tgt := 205) rfl ?_
          exact ihk (k + 1) (by omega) (by omega)
      have h1 := hloop205 0 (Nat.zero_le _)
      rw [cpyL_0] at h1
      refine Z.eqσ ?_ h1
      exact (zuY_id (σ := (zuY σ 59 (va_cpy (zY σ 58) (zY σ 59) (s * 160 + i) 0 n))) (k := 58)).symm
    · skip
      refine Z.aload_n B dX12_copy_174 (v := .ref 45) rfl rfl ?_
      refine Z.getR (σ := (zuY σ 59 (va_cpy (zY σ 58) (zY σ 59) (s * 160 + i) 0 k))) B fX12_57_12 dX12_copy_175 (hl.n (k := 45) (by decide)) (hl.k (k := 45) (by decide)) (by decide) (j := 59) (hl.r (k := 45) (f := 18) (by decide) (by decide)) ?_
      refine Z.iload B dX12_copy_178 (x := nI k) rfl ?_
      refine Z.aload_n B dX12_copy_180 (v := .ref 45) rfl rfl ?_
      refine Z.getR (σ := (zuY σ 59 (va_cpy (zY σ 58) (zY σ 59) (s * 160 + i) 0 k))) B fX12_53_12 dX12_copy_181 (hl.n (k := 45) (by decide)) (hl.k (k := 45) (by decide)) (by decide) (j := 58) (hl.r (k := 45) (f := 17) (by decide) (by decide)) ?_
      refine Z.sipush B dX12_copy_184 (v := nI 160) rfl ?_
      refine Z.iload_n B dX12_copy_187 (x := nI s) rfl ?_
      refine Z.imulNc B dX12_copy_188 (a := 160) (b := s) ?_
      refine Z.iload_n B dX12_copy_189 (x := nI i) rfl ?_
      refine Z.iaddN B dX12_copy_190 (a := s * 160) (b := i) ?_
      refine Z.iload B dX12_copy_191 (x := nI k) rfl ?_
      refine Z.iaddN B dX12_copy_193 (a := (s * 160) + i) (b := k) ?_
      refine Z.lald (σ := (zuY σ 59 (va_cpy (zY σ 58) (zY σ 59) (s * 160 + i) 0 k))) B dX12_copy_194 (n := 1280) (hl.n (k := 58) (by decide)) (hl.k (k := 58) (by decide)) (hl.l (k := 58) (by decide)) (by decide) (j := ((s * 160) + i) + k) rfl (by omega) (v := (zY σ 58 (((s * 160) + i) + k))) rfl ?_
      refine Z.last (σ := (zuY σ 59 (va_cpy (zY σ 58) (zY σ 59) (s * 160 + i) 0 k))) B dX12_copy_195 (n := 160) (hl.n (k := 59) (by decide)) (hl.k (k := 59) (by decide)) (hl.l (k := 59) (by decide)) (by decide) (j := 0 + k) (by rw [Nat.zero_add]) (by omega) (τ := (zuY σ 59 (va_cpy (zY σ 58) (zY σ 59) (s * 160 + i) 0 (k + 1)))) (by rw [zY_self, zuY_uY, cpyL_s rfl]) ?_
      refine Z.iincN B dX12_copy_196 (by decide) (a := k) rfl (L' := [(0, .ref 45), (1, .int (nI s)), (2, .int (nI t)), (3, .int (nI i)), (4, .int (nI j)), (5, .int (nI n)), (6, .int (nI (k + 1)))]) rfl ?_
      refine Z.goto B dX12_copy_199 (tgt := 167) rfl ?_
      exact ih (k + 1) (by omega) (by omega)
  have h0 := hloop167 0 (Nat.zero_le _)
  rw [cpyL_0, zuY_id] at h0
  exact h0

theorem t_M_copy_2_rw {σ : zSt} (hl : Lay σ) {s t : Nat} (hs : s < 8) (ht : t < 8) {o m : Nat} (hx : zMr σ s o m) {j8 : Nat} (hy : zMa σ t j8) {i j n : Int32}  : Dt mX12_copy [.ref 45, .int (nI s), .int (nI t), .int i, .int j, .int n] σ (some (.int (-2))) (zuX σ 46 (upd (zX σ 46) 2 (zX σ 46 2 + nI 1))) := by
  refine Dt.of (by decide) (Nat.le_of_ble_eq_true rfl) fun κ B Rt => ?_
  show Z κ 0 0 σ 0 [(0, .ref 45), (1, .int (nI s)), (2, .int (nI t)), (3, .int i), (4, .int j), (5, .int n)] []
  refine Z.aload_n B dX12_copy_0 (v := .ref 45) rfl rfl ?_
  refine Z.iload_n B dX12_copy_1 (x := nI s) rfl ?_
  refine Z.callVI (σ := σ) B (M' := mX12_isShelf) (as := [.int (nI s)]) (st := []) (v := .int (nI 1)) dX12_copy_2 wX12_isShelf iX12_isShelf sX12_isShelf kX12_90 (hl.n (k := 45) (by decide)) (hl.k (k := 45) (by decide)) (by decide) rfl rfl (t_X12_isShelf_in (σ := σ) hs) rfl rfl (by decide) (by decide) (Nat.le_of_ble_eq_true rfl) (by decide) (by decide) ?_
  refine Z.if_eqN B dX12_copy_5 (tgt := 16) rfl (by omega) (fun h5 => by exfalso; first | omega | contradiction | simp_all) (fun h5 => ?_)
  refine Z.aload_n B dX12_copy_8 (v := .ref 45) rfl rfl ?_
  refine Z.iload_n B dX12_copy_9 (x := nI t) rfl ?_
  refine Z.callVI (σ := σ) B (M' := mX12_isShelf) (as := [.int (nI t)]) (st := []) (v := .int (nI 1)) dX12_copy_10 wX12_isShelf iX12_isShelf sX12_isShelf kX12_90 (hl.n (k := 45) (by decide)) (hl.k (k := 45) (by decide)) (by decide) rfl rfl (t_X12_isShelf_in (σ := σ) ht) rfl rfl (by decide) (by decide) (Nat.le_of_ble_eq_true rfl) (by decide) (by decide) ?_
  refine Z.if_neN B dX12_copy_13 (tgt := 22) rfl (by omega) (fun h13 => ?_) (fun h13 => by exfalso; first | omega | contradiction | simp_all)
  refine Z.aload_n B dX12_copy_22 (v := .ref 45) rfl rfl ?_
  refine Z.getR (σ := σ) B fX12_41_12 dX12_copy_23 (hl.n (k := 45) (by decide)) (hl.k (k := 45) (by decide)) (by decide) (j := 54) (hl.r (k := 45) (f := 13) (by decide) (by decide)) ?_
  refine Z.iload_n B dX12_copy_26 (x := nI s) rfl ?_
  refine Z.iald (σ := σ) B dX12_copy_27 (n := 8) (hl.n (k := 54) (by decide)) (hl.k (k := 54) (by decide)) (hl.l (k := 54) (by decide)) (by decide) (j := s) rfl (by omega) (v := nI 1) hx.1 ?_
  refine Z.iconst B dX12_copy_28 (v := nI 2) rfl ?_
  refine Z.icmp_eqN B dX12_copy_29 (tgt := 77) rfl (by omega) (by omega) (fun h29 => by exfalso; first | omega | contradiction | simp_all) (fun h29 => ?_)
  refine Z.aload_n B dX12_copy_32 (v := .ref 45) rfl rfl ?_
  refine Z.getR (σ := σ) B fX12_41_12 dX12_copy_33 (hl.n (k := 45) (by decide)) (hl.k (k := 45) (by decide)) (by decide) (j := 54) (hl.r (k := 45) (f := 13) (by decide) (by decide)) ?_
  refine Z.iload_n B dX12_copy_36 (x := nI t) rfl ?_
  refine Z.iald (σ := σ) B dX12_copy_37 (n := 8) (hl.n (k := 54) (by decide)) (hl.k (k := 54) (by decide)) (hl.l (k := 54) (by decide)) (by decide) (j := t) rfl (by omega) (v := nI 2) hy.1 ?_
  refine Z.iconst B dX12_copy_38 (v := nI 2) rfl ?_
  refine Z.icmp_eqN B dX12_copy_39 (tgt := 77) rfl (by omega) (by omega) (fun h39 => ?_) (fun h39 => by exfalso; first | omega | contradiction | simp_all)
  refine Z.aload_n B dX12_copy_77 (v := .ref 45) rfl rfl ?_
  refine Z.bipush B dX12_copy_78 (v := (-2)) rfl ?_
  refine Z.callVI (σ := σ) B (M' := mX12_no) (as := [.int (-2)]) (st := []) (v := .int (-2)) dX12_copy_80 wX12_no iX12_no sX12_no kX12_94 (hl.n (k := 45) (by decide)) (hl.k (k := 45) (by decide)) (by decide) rfl rfl (t_X12_no_2 (σ := σ) hl) rfl rfl (by decide) (by decide) (Nat.le_of_ble_eq_true rfl) (by decide) (by decide) ?_
  refine Z.eqσ (τ := (zuX σ 46 (upd (zX σ 46) 2 (zX σ 46 2 + nI 1)))) rfl ?_
  refine Z.iret B Rt dX12_copy_83 (ty := .int) rfl rfl (by decide) (by decide) ?_
  exact ⟨rfl, rfl⟩

theorem t_M_copy_3_rn {σ : zSt} (hl : Lay σ) {s t : Nat} (hs : s < 8) (ht : t < 8) {o m : Nat} (hx : zMr σ s o m) (hy : zMn σ t) {i j n : Int32}  : Dt mX12_copy [.ref 45, .int (nI s), .int (nI t), .int i, .int j, .int n] σ (some (.int (-3))) (zuX σ 46 (upd (zX σ 46) 3 (zX σ 46 3 + nI 1))) := by
  refine Dt.of (by decide) (Nat.le_of_ble_eq_true rfl) fun κ B Rt => ?_
  show Z κ 0 0 σ 0 [(0, .ref 45), (1, .int (nI s)), (2, .int (nI t)), (3, .int i), (4, .int j), (5, .int n)] []
  refine Z.aload_n B dX12_copy_0 (v := .ref 45) rfl rfl ?_
  refine Z.iload_n B dX12_copy_1 (x := nI s) rfl ?_
  refine Z.callVI (σ := σ) B (M' := mX12_isShelf) (as := [.int (nI s)]) (st := []) (v := .int (nI 1)) dX12_copy_2 wX12_isShelf iX12_isShelf sX12_isShelf kX12_90 (hl.n (k := 45) (by decide)) (hl.k (k := 45) (by decide)) (by decide) rfl rfl (t_X12_isShelf_in (σ := σ) hs) rfl rfl (by decide) (by decide) (Nat.le_of_ble_eq_true rfl) (by decide) (by decide) ?_
  refine Z.if_eqN B dX12_copy_5 (tgt := 16) rfl (by omega) (fun h5 => by exfalso; first | omega | contradiction | simp_all) (fun h5 => ?_)
  refine Z.aload_n B dX12_copy_8 (v := .ref 45) rfl rfl ?_
  refine Z.iload_n B dX12_copy_9 (x := nI t) rfl ?_
  refine Z.callVI (σ := σ) B (M' := mX12_isShelf) (as := [.int (nI t)]) (st := []) (v := .int (nI 1)) dX12_copy_10 wX12_isShelf iX12_isShelf sX12_isShelf kX12_90 (hl.n (k := 45) (by decide)) (hl.k (k := 45) (by decide)) (by decide) rfl rfl (t_X12_isShelf_in (σ := σ) ht) rfl rfl (by decide) (by decide) (Nat.le_of_ble_eq_true rfl) (by decide) (by decide) ?_
  refine Z.if_neN B dX12_copy_13 (tgt := 22) rfl (by omega) (fun h13 => ?_) (fun h13 => by exfalso; first | omega | contradiction | simp_all)
  refine Z.aload_n B dX12_copy_22 (v := .ref 45) rfl rfl ?_
  refine Z.getR (σ := σ) B fX12_41_12 dX12_copy_23 (hl.n (k := 45) (by decide)) (hl.k (k := 45) (by decide)) (by decide) (j := 54) (hl.r (k := 45) (f := 13) (by decide) (by decide)) ?_
  refine Z.iload_n B dX12_copy_26 (x := nI s) rfl ?_
  refine Z.iald (σ := σ) B dX12_copy_27 (n := 8) (hl.n (k := 54) (by decide)) (hl.k (k := 54) (by decide)) (hl.l (k := 54) (by decide)) (by decide) (j := s) rfl (by omega) (v := nI 1) hx.1 ?_
  refine Z.iconst B dX12_copy_28 (v := nI 2) rfl ?_
  refine Z.icmp_eqN B dX12_copy_29 (tgt := 77) rfl (by omega) (by omega) (fun h29 => by exfalso; first | omega | contradiction | simp_all) (fun h29 => ?_)
  refine Z.aload_n B dX12_copy_32 (v := .ref 45) rfl rfl ?_
  refine Z.getR (σ := σ) B fX12_41_12 dX12_copy_33 (hl.n (k := 45) (by decide)) (hl.k (k := 45) (by decide)) (by decide) (j := 54) (hl.r (k := 45) (f := 13) (by decide) (by decide)) ?_
  refine Z.iload_n B dX12_copy_36 (x := nI t) rfl ?_
  refine Z.iald (σ := σ) B dX12_copy_37 (n := 8) (hl.n (k := 54) (by decide)) (hl.k (k := 54) (by decide)) (hl.l (k := 54) (by decide)) (by decide) (j := t) rfl (by omega) (v := nI 0) hy ?_
  refine Z.iconst B dX12_copy_38 (v := nI 2) rfl ?_
  refine Z.icmp_eqN B dX12_copy_39 (tgt := 77) rfl (by omega) (by omega) (fun h39 => by exfalso; first | omega | contradiction | simp_all) (fun h39 => ?_)
  refine Z.aload_n B dX12_copy_42 (v := .ref 45) rfl rfl ?_
  refine Z.getR (σ := σ) B fX12_41_12 dX12_copy_43 (hl.n (k := 45) (by decide)) (hl.k (k := 45) (by decide)) (by decide) (j := 54) (hl.r (k := 45) (f := 13) (by decide) (by decide)) ?_
  refine Z.iload_n B dX12_copy_46 (x := nI s) rfl ?_
  refine Z.iald (σ := σ) B dX12_copy_47 (n := 8) (hl.n (k := 54) (by decide)) (hl.k (k := 54) (by decide)) (hl.l (k := 54) (by decide)) (by decide) (j := s) rfl (by omega) (v := nI 1) hx.1 ?_
  refine Z.iconst B dX12_copy_48 (v := nI 1) rfl ?_
  refine Z.icmp_neN B dX12_copy_49 (tgt := 84) rfl (by omega) (by omega) (fun h49 => by exfalso; first | omega | contradiction | simp_all) (fun h49 => ?_)
  refine Z.aload_n B dX12_copy_52 (v := .ref 45) rfl rfl ?_
  refine Z.getR (σ := σ) B fX12_41_12 dX12_copy_53 (hl.n (k := 45) (by decide)) (hl.k (k := 45) (by decide)) (by decide) (j := 54) (hl.r (k := 45) (f := 13) (by decide) (by decide)) ?_
  refine Z.iload_n B dX12_copy_56 (x := nI t) rfl ?_
  refine Z.iald (σ := σ) B dX12_copy_57 (n := 8) (hl.n (k := 54) (by decide)) (hl.k (k := 54) (by decide)) (hl.l (k := 54) (by decide)) (by decide) (j := t) rfl (by omega) (v := nI 0) hy ?_
  refine Z.iconst B dX12_copy_58 (v := nI 1) rfl ?_
  refine Z.icmp_neN B dX12_copy_59 (tgt := 84) rfl (by omega) (by omega) (fun h59 => ?_) (fun h59 => by exfalso; first | omega | contradiction | simp_all)
  refine Z.aload_n B dX12_copy_84 (v := .ref 45) rfl rfl ?_
  refine Z.getR (σ := σ) B fX12_41_12 dX12_copy_85 (hl.n (k := 45) (by decide)) (hl.k (k := 45) (by decide)) (by decide) (j := 54) (hl.r (k := 45) (f := 13) (by decide) (by decide)) ?_
  refine Z.iload_n B dX12_copy_88 (x := nI s) rfl ?_
  refine Z.iald (σ := σ) B dX12_copy_89 (n := 8) (hl.n (k := 54) (by decide)) (hl.k (k := 54) (by decide)) (hl.l (k := 54) (by decide)) (by decide) (j := s) rfl (by omega) (v := nI 1) hx.1 ?_
  refine Z.if_eqN B dX12_copy_90 (tgt := 102) rfl (by omega) (fun h90 => by exfalso; first | omega | contradiction | simp_all) (fun h90 => ?_)
  refine Z.aload_n B dX12_copy_93 (v := .ref 45) rfl rfl ?_
  refine Z.getR (σ := σ) B fX12_41_12 dX12_copy_94 (hl.n (k := 45) (by decide)) (hl.k (k := 45) (by decide)) (by decide) (j := 54) (hl.r (k := 45) (f := 13) (by decide) (by decide)) ?_
  refine Z.iload_n B dX12_copy_97 (x := nI t) rfl ?_
  refine Z.iald (σ := σ) B dX12_copy_98 (n := 8) (hl.n (k := 54) (by decide)) (hl.k (k := 54) (by decide)) (hl.l (k := 54) (by decide)) (by decide) (j := t) rfl (by omega) (v := nI 0) hy ?_
  refine Z.if_neN B dX12_copy_99 (tgt := 109) rfl (by omega) (fun h99 => by exfalso; first | omega | contradiction | simp_all) (fun h99 => ?_)
  refine Z.aload_n B dX12_copy_102 (v := .ref 45) rfl rfl ?_
  refine Z.bipush B dX12_copy_103 (v := (-3)) rfl ?_
  refine Z.callVI (σ := σ) B (M' := mX12_no) (as := [.int (-3)]) (st := []) (v := .int (-3)) dX12_copy_105 wX12_no iX12_no sX12_no kX12_94 (hl.n (k := 45) (by decide)) (hl.k (k := 45) (by decide)) (by decide) rfl rfl (t_X12_no_3 (σ := σ) hl) rfl rfl (by decide) (by decide) (Nat.le_of_ble_eq_true rfl) (by decide) (by decide) ?_
  refine Z.eqσ (τ := (zuX σ 46 (upd (zX σ 46) 3 (zX σ 46 3 + nI 1)))) rfl ?_
  refine Z.iret B Rt dX12_copy_108 (ty := .int) rfl rfl (by decide) (by decide) ?_
  exact ⟨rfl, rfl⟩

theorem t_M_copy_2_wr {σ : zSt} (hl : Lay σ) {s t : Nat} (hs : s < 8) (ht : t < 8) {i8 : Nat} (hx : zMa σ s i8) {o2 m2 : Nat} (hy : zMr σ t o2 m2) {i j n : Int32}  : Dt mX12_copy [.ref 45, .int (nI s), .int (nI t), .int i, .int j, .int n] σ (some (.int (-2))) (zuX σ 46 (upd (zX σ 46) 2 (zX σ 46 2 + nI 1))) := by
  refine Dt.of (by decide) (Nat.le_of_ble_eq_true rfl) fun κ B Rt => ?_
  show Z κ 0 0 σ 0 [(0, .ref 45), (1, .int (nI s)), (2, .int (nI t)), (3, .int i), (4, .int j), (5, .int n)] []
  refine Z.aload_n B dX12_copy_0 (v := .ref 45) rfl rfl ?_
  refine Z.iload_n B dX12_copy_1 (x := nI s) rfl ?_
  refine Z.callVI (σ := σ) B (M' := mX12_isShelf) (as := [.int (nI s)]) (st := []) (v := .int (nI 1)) dX12_copy_2 wX12_isShelf iX12_isShelf sX12_isShelf kX12_90 (hl.n (k := 45) (by decide)) (hl.k (k := 45) (by decide)) (by decide) rfl rfl (t_X12_isShelf_in (σ := σ) hs) rfl rfl (by decide) (by decide) (Nat.le_of_ble_eq_true rfl) (by decide) (by decide) ?_
  refine Z.if_eqN B dX12_copy_5 (tgt := 16) rfl (by omega) (fun h5 => by exfalso; first | omega | contradiction | simp_all) (fun h5 => ?_)
  refine Z.aload_n B dX12_copy_8 (v := .ref 45) rfl rfl ?_
  refine Z.iload_n B dX12_copy_9 (x := nI t) rfl ?_
  refine Z.callVI (σ := σ) B (M' := mX12_isShelf) (as := [.int (nI t)]) (st := []) (v := .int (nI 1)) dX12_copy_10 wX12_isShelf iX12_isShelf sX12_isShelf kX12_90 (hl.n (k := 45) (by decide)) (hl.k (k := 45) (by decide)) (by decide) rfl rfl (t_X12_isShelf_in (σ := σ) ht) rfl rfl (by decide) (by decide) (Nat.le_of_ble_eq_true rfl) (by decide) (by decide) ?_
  refine Z.if_neN B dX12_copy_13 (tgt := 22) rfl (by omega) (fun h13 => ?_) (fun h13 => by exfalso; first | omega | contradiction | simp_all)
  refine Z.aload_n B dX12_copy_22 (v := .ref 45) rfl rfl ?_
  refine Z.getR (σ := σ) B fX12_41_12 dX12_copy_23 (hl.n (k := 45) (by decide)) (hl.k (k := 45) (by decide)) (by decide) (j := 54) (hl.r (k := 45) (f := 13) (by decide) (by decide)) ?_
  refine Z.iload_n B dX12_copy_26 (x := nI s) rfl ?_
  refine Z.iald (σ := σ) B dX12_copy_27 (n := 8) (hl.n (k := 54) (by decide)) (hl.k (k := 54) (by decide)) (hl.l (k := 54) (by decide)) (by decide) (j := s) rfl (by omega) (v := nI 2) hx.1 ?_
  refine Z.iconst B dX12_copy_28 (v := nI 2) rfl ?_
  refine Z.icmp_eqN B dX12_copy_29 (tgt := 77) rfl (by omega) (by omega) (fun h29 => ?_) (fun h29 => by exfalso; first | omega | contradiction | simp_all)
  refine Z.aload_n B dX12_copy_77 (v := .ref 45) rfl rfl ?_
  refine Z.bipush B dX12_copy_78 (v := (-2)) rfl ?_
  refine Z.callVI (σ := σ) B (M' := mX12_no) (as := [.int (-2)]) (st := []) (v := .int (-2)) dX12_copy_80 wX12_no iX12_no sX12_no kX12_94 (hl.n (k := 45) (by decide)) (hl.k (k := 45) (by decide)) (by decide) rfl rfl (t_X12_no_2 (σ := σ) hl) rfl rfl (by decide) (by decide) (Nat.le_of_ble_eq_true rfl) (by decide) (by decide) ?_
  refine Z.eqσ (τ := (zuX σ 46 (upd (zX σ 46) 2 (zX σ 46 2 + nI 1)))) rfl ?_
  refine Z.iret B Rt dX12_copy_83 (ty := .int) rfl rfl (by decide) (by decide) ?_
  exact ⟨rfl, rfl⟩

theorem t_M_copy_2_ww {σ : zSt} (hl : Lay σ) {s t : Nat} (hs : s < 8) (ht : t < 8) {i8 : Nat} (hx : zMa σ s i8) {j8 : Nat} (hy : zMa σ t j8) {i j n : Int32}  : Dt mX12_copy [.ref 45, .int (nI s), .int (nI t), .int i, .int j, .int n] σ (some (.int (-2))) (zuX σ 46 (upd (zX σ 46) 2 (zX σ 46 2 + nI 1))) := by
  refine Dt.of (by decide) (Nat.le_of_ble_eq_true rfl) fun κ B Rt => ?_
  show Z κ 0 0 σ 0 [(0, .ref 45), (1, .int (nI s)), (2, .int (nI t)), (3, .int i), (4, .int j), (5, .int n)] []
  refine Z.aload_n B dX12_copy_0 (v := .ref 45) rfl rfl ?_
  refine Z.iload_n B dX12_copy_1 (x := nI s) rfl ?_
  refine Z.callVI (σ := σ) B (M' := mX12_isShelf) (as := [.int (nI s)]) (st := []) (v := .int (nI 1)) dX12_copy_2 wX12_isShelf iX12_isShelf sX12_isShelf kX12_90 (hl.n (k := 45) (by decide)) (hl.k (k := 45) (by decide)) (by decide) rfl rfl (t_X12_isShelf_in (σ := σ) hs) rfl rfl (by decide) (by decide) (Nat.le_of_ble_eq_true rfl) (by decide) (by decide) ?_
  refine Z.if_eqN B dX12_copy_5 (tgt := 16) rfl (by omega) (fun h5 => by exfalso; first | omega | contradiction | simp_all) (fun h5 => ?_)
  refine Z.aload_n B dX12_copy_8 (v := .ref 45) rfl rfl ?_
  refine Z.iload_n B dX12_copy_9 (x := nI t) rfl ?_
  refine Z.callVI (σ := σ) B (M' := mX12_isShelf) (as := [.int (nI t)]) (st := []) (v := .int (nI 1)) dX12_copy_10 wX12_isShelf iX12_isShelf sX12_isShelf kX12_90 (hl.n (k := 45) (by decide)) (hl.k (k := 45) (by decide)) (by decide) rfl rfl (t_X12_isShelf_in (σ := σ) ht) rfl rfl (by decide) (by decide) (Nat.le_of_ble_eq_true rfl) (by decide) (by decide) ?_
  refine Z.if_neN B dX12_copy_13 (tgt := 22) rfl (by omega) (fun h13 => ?_) (fun h13 => by exfalso; first | omega | contradiction | simp_all)
  refine Z.aload_n B dX12_copy_22 (v := .ref 45) rfl rfl ?_
  refine Z.getR (σ := σ) B fX12_41_12 dX12_copy_23 (hl.n (k := 45) (by decide)) (hl.k (k := 45) (by decide)) (by decide) (j := 54) (hl.r (k := 45) (f := 13) (by decide) (by decide)) ?_
  refine Z.iload_n B dX12_copy_26 (x := nI s) rfl ?_
  refine Z.iald (σ := σ) B dX12_copy_27 (n := 8) (hl.n (k := 54) (by decide)) (hl.k (k := 54) (by decide)) (hl.l (k := 54) (by decide)) (by decide) (j := s) rfl (by omega) (v := nI 2) hx.1 ?_
  refine Z.iconst B dX12_copy_28 (v := nI 2) rfl ?_
  refine Z.icmp_eqN B dX12_copy_29 (tgt := 77) rfl (by omega) (by omega) (fun h29 => ?_) (fun h29 => by exfalso; first | omega | contradiction | simp_all)
  refine Z.aload_n B dX12_copy_77 (v := .ref 45) rfl rfl ?_
  refine Z.bipush B dX12_copy_78 (v := (-2)) rfl ?_
  refine Z.callVI (σ := σ) B (M' := mX12_no) (as := [.int (-2)]) (st := []) (v := .int (-2)) dX12_copy_80 wX12_no iX12_no sX12_no kX12_94 (hl.n (k := 45) (by decide)) (hl.k (k := 45) (by decide)) (by decide) rfl rfl (t_X12_no_2 (σ := σ) hl) rfl rfl (by decide) (by decide) (Nat.le_of_ble_eq_true rfl) (by decide) (by decide) ?_
  refine Z.eqσ (τ := (zuX σ 46 (upd (zX σ 46) 2 (zX σ 46 2 + nI 1)))) rfl ?_
  refine Z.iret B Rt dX12_copy_83 (ty := .int) rfl rfl (by decide) (by decide) ?_
  exact ⟨rfl, rfl⟩

theorem t_M_copy_2_wn {σ : zSt} (hl : Lay σ) {s t : Nat} (hs : s < 8) (ht : t < 8) {i8 : Nat} (hx : zMa σ s i8) (hy : zMn σ t) {i j n : Int32}  : Dt mX12_copy [.ref 45, .int (nI s), .int (nI t), .int i, .int j, .int n] σ (some (.int (-2))) (zuX σ 46 (upd (zX σ 46) 2 (zX σ 46 2 + nI 1))) := by
  refine Dt.of (by decide) (Nat.le_of_ble_eq_true rfl) fun κ B Rt => ?_
  show Z κ 0 0 σ 0 [(0, .ref 45), (1, .int (nI s)), (2, .int (nI t)), (3, .int i), (4, .int j), (5, .int n)] []
  refine Z.aload_n B dX12_copy_0 (v := .ref 45) rfl rfl ?_
  refine Z.iload_n B dX12_copy_1 (x := nI s) rfl ?_
  refine Z.callVI (σ := σ) B (M' := mX12_isShelf) (as := [.int (nI s)]) (st := []) (v := .int (nI 1)) dX12_copy_2 wX12_isShelf iX12_isShelf sX12_isShelf kX12_90 (hl.n (k := 45) (by decide)) (hl.k (k := 45) (by decide)) (by decide) rfl rfl (t_X12_isShelf_in (σ := σ) hs) rfl rfl (by decide) (by decide) (Nat.le_of_ble_eq_true rfl) (by decide) (by decide) ?_
  refine Z.if_eqN B dX12_copy_5 (tgt := 16) rfl (by omega) (fun h5 => by exfalso; first | omega | contradiction | simp_all) (fun h5 => ?_)
  refine Z.aload_n B dX12_copy_8 (v := .ref 45) rfl rfl ?_
  refine Z.iload_n B dX12_copy_9 (x := nI t) rfl ?_
  refine Z.callVI (σ := σ) B (M' := mX12_isShelf) (as := [.int (nI t)]) (st := []) (v := .int (nI 1)) dX12_copy_10 wX12_isShelf iX12_isShelf sX12_isShelf kX12_90 (hl.n (k := 45) (by decide)) (hl.k (k := 45) (by decide)) (by decide) rfl rfl (t_X12_isShelf_in (σ := σ) ht) rfl rfl (by decide) (by decide) (Nat.le_of_ble_eq_true rfl) (by decide) (by decide) ?_
  refine Z.if_neN B dX12_copy_13 (tgt := 22) rfl (by omega) (fun h13 => ?_) (fun h13 => by exfalso; first | omega | contradiction | simp_all)
  refine Z.aload_n B dX12_copy_22 (v := .ref 45) rfl rfl ?_
  refine Z.getR (σ := σ) B fX12_41_12 dX12_copy_23 (hl.n (k := 45) (by decide)) (hl.k (k := 45) (by decide)) (by decide) (j := 54) (hl.r (k := 45) (f := 13) (by decide) (by decide)) ?_
  refine Z.iload_n B dX12_copy_26 (x := nI s) rfl ?_
  refine Z.iald (σ := σ) B dX12_copy_27 (n := 8) (hl.n (k := 54) (by decide)) (hl.k (k := 54) (by decide)) (hl.l (k := 54) (by decide)) (by decide) (j := s) rfl (by omega) (v := nI 2) hx.1 ?_
  refine Z.iconst B dX12_copy_28 (v := nI 2) rfl ?_
  refine Z.icmp_eqN B dX12_copy_29 (tgt := 77) rfl (by omega) (by omega) (fun h29 => ?_) (fun h29 => by exfalso; first | omega | contradiction | simp_all)
  refine Z.aload_n B dX12_copy_77 (v := .ref 45) rfl rfl ?_
  refine Z.bipush B dX12_copy_78 (v := (-2)) rfl ?_
  refine Z.callVI (σ := σ) B (M' := mX12_no) (as := [.int (-2)]) (st := []) (v := .int (-2)) dX12_copy_80 wX12_no iX12_no sX12_no kX12_94 (hl.n (k := 45) (by decide)) (hl.k (k := 45) (by decide)) (by decide) rfl rfl (t_X12_no_2 (σ := σ) hl) rfl rfl (by decide) (by decide) (Nat.le_of_ble_eq_true rfl) (by decide) (by decide) ?_
  refine Z.eqσ (τ := (zuX σ 46 (upd (zX σ 46) 2 (zX σ 46 2 + nI 1)))) rfl ?_
  refine Z.iret B Rt dX12_copy_83 (ty := .int) rfl rfl (by decide) (by decide) ?_
  exact ⟨rfl, rfl⟩

theorem t_M_copy_3_nr {σ : zSt} (hl : Lay σ) {s t : Nat} (hs : s < 8) (ht : t < 8) (hx : zMn σ s) {o2 m2 : Nat} (hy : zMr σ t o2 m2) {i j n : Int32}  : Dt mX12_copy [.ref 45, .int (nI s), .int (nI t), .int i, .int j, .int n] σ (some (.int (-3))) (zuX σ 46 (upd (zX σ 46) 3 (zX σ 46 3 + nI 1))) := by
  refine Dt.of (by decide) (Nat.le_of_ble_eq_true rfl) fun κ B Rt => ?_
  show Z κ 0 0 σ 0 [(0, .ref 45), (1, .int (nI s)), (2, .int (nI t)), (3, .int i), (4, .int j), (5, .int n)] []
  refine Z.aload_n B dX12_copy_0 (v := .ref 45) rfl rfl ?_
  refine Z.iload_n B dX12_copy_1 (x := nI s) rfl ?_
  refine Z.callVI (σ := σ) B (M' := mX12_isShelf) (as := [.int (nI s)]) (st := []) (v := .int (nI 1)) dX12_copy_2 wX12_isShelf iX12_isShelf sX12_isShelf kX12_90 (hl.n (k := 45) (by decide)) (hl.k (k := 45) (by decide)) (by decide) rfl rfl (t_X12_isShelf_in (σ := σ) hs) rfl rfl (by decide) (by decide) (Nat.le_of_ble_eq_true rfl) (by decide) (by decide) ?_
  refine Z.if_eqN B dX12_copy_5 (tgt := 16) rfl (by omega) (fun h5 => by exfalso; first | omega | contradiction | simp_all) (fun h5 => ?_)
  refine Z.aload_n B dX12_copy_8 (v := .ref 45) rfl rfl ?_
  refine Z.iload_n B dX12_copy_9 (x := nI t) rfl ?_
  refine Z.callVI (σ := σ) B (M' := mX12_isShelf) (as := [.int (nI t)]) (st := []) (v := .int (nI 1)) dX12_copy_10 wX12_isShelf iX12_isShelf sX12_isShelf kX12_90 (hl.n (k := 45) (by decide)) (hl.k (k := 45) (by decide)) (by decide) rfl rfl (t_X12_isShelf_in (σ := σ) ht) rfl rfl (by decide) (by decide) (Nat.le_of_ble_eq_true rfl) (by decide) (by decide) ?_
  refine Z.if_neN B dX12_copy_13 (tgt := 22) rfl (by omega) (fun h13 => ?_) (fun h13 => by exfalso; first | omega | contradiction | simp_all)
  refine Z.aload_n B dX12_copy_22 (v := .ref 45) rfl rfl ?_
  refine Z.getR (σ := σ) B fX12_41_12 dX12_copy_23 (hl.n (k := 45) (by decide)) (hl.k (k := 45) (by decide)) (by decide) (j := 54) (hl.r (k := 45) (f := 13) (by decide) (by decide)) ?_
  refine Z.iload_n B dX12_copy_26 (x := nI s) rfl ?_
  refine Z.iald (σ := σ) B dX12_copy_27 (n := 8) (hl.n (k := 54) (by decide)) (hl.k (k := 54) (by decide)) (hl.l (k := 54) (by decide)) (by decide) (j := s) rfl (by omega) (v := nI 0) hx ?_
  refine Z.iconst B dX12_copy_28 (v := nI 2) rfl ?_
  refine Z.icmp_eqN B dX12_copy_29 (tgt := 77) rfl (by omega) (by omega) (fun h29 => by exfalso; first | omega | contradiction | simp_all) (fun h29 => ?_)
  refine Z.aload_n B dX12_copy_32 (v := .ref 45) rfl rfl ?_
  refine Z.getR (σ := σ) B fX12_41_12 dX12_copy_33 (hl.n (k := 45) (by decide)) (hl.k (k := 45) (by decide)) (by decide) (j := 54) (hl.r (k := 45) (f := 13) (by decide) (by decide)) ?_
  refine Z.iload_n B dX12_copy_36 (x := nI t) rfl ?_
  refine Z.iald (σ := σ) B dX12_copy_37 (n := 8) (hl.n (k := 54) (by decide)) (hl.k (k := 54) (by decide)) (hl.l (k := 54) (by decide)) (by decide) (j := t) rfl (by omega) (v := nI 1) hy.1 ?_
  refine Z.iconst B dX12_copy_38 (v := nI 2) rfl ?_
  refine Z.icmp_eqN B dX12_copy_39 (tgt := 77) rfl (by omega) (by omega) (fun h39 => by exfalso; first | omega | contradiction | simp_all) (fun h39 => ?_)
  refine Z.aload_n B dX12_copy_42 (v := .ref 45) rfl rfl ?_
  refine Z.getR (σ := σ) B fX12_41_12 dX12_copy_43 (hl.n (k := 45) (by decide)) (hl.k (k := 45) (by decide)) (by decide) (j := 54) (hl.r (k := 45) (f := 13) (by decide) (by decide)) ?_
  refine Z.iload_n B dX12_copy_46 (x := nI s) rfl ?_
  refine Z.iald (σ := σ) B dX12_copy_47 (n := 8) (hl.n (k := 54) (by decide)) (hl.k (k := 54) (by decide)) (hl.l (k := 54) (by decide)) (by decide) (j := s) rfl (by omega) (v := nI 0) hx ?_
  refine Z.iconst B dX12_copy_48 (v := nI 1) rfl ?_
  refine Z.icmp_neN B dX12_copy_49 (tgt := 84) rfl (by omega) (by omega) (fun h49 => ?_) (fun h49 => by exfalso; first | omega | contradiction | simp_all)
  refine Z.aload_n B dX12_copy_84 (v := .ref 45) rfl rfl ?_
  refine Z.getR (σ := σ) B fX12_41_12 dX12_copy_85 (hl.n (k := 45) (by decide)) (hl.k (k := 45) (by decide)) (by decide) (j := 54) (hl.r (k := 45) (f := 13) (by decide) (by decide)) ?_
  refine Z.iload_n B dX12_copy_88 (x := nI s) rfl ?_
  refine Z.iald (σ := σ) B dX12_copy_89 (n := 8) (hl.n (k := 54) (by decide)) (hl.k (k := 54) (by decide)) (hl.l (k := 54) (by decide)) (by decide) (j := s) rfl (by omega) (v := nI 0) hx ?_
  refine Z.if_eqN B dX12_copy_90 (tgt := 102) rfl (by omega) (fun h90 => ?_) (fun h90 => by exfalso; first | omega | contradiction | simp_all)
  refine Z.aload_n B dX12_copy_102 (v := .ref 45) rfl rfl ?_
  refine Z.bipush B dX12_copy_103 (v := (-3)) rfl ?_
  refine Z.callVI (σ := σ) B (M' := mX12_no) (as := [.int (-3)]) (st := []) (v := .int (-3)) dX12_copy_105 wX12_no iX12_no sX12_no kX12_94 (hl.n (k := 45) (by decide)) (hl.k (k := 45) (by decide)) (by decide) rfl rfl (t_X12_no_3 (σ := σ) hl) rfl rfl (by decide) (by decide) (Nat.le_of_ble_eq_true rfl) (by decide) (by decide) ?_
  refine Z.eqσ (τ := (zuX σ 46 (upd (zX σ 46) 3 (zX σ 46 3 + nI 1)))) rfl ?_
  refine Z.iret B Rt dX12_copy_108 (ty := .int) rfl rfl (by decide) (by decide) ?_
  exact ⟨rfl, rfl⟩

theorem t_M_copy_2_nw {σ : zSt} (hl : Lay σ) {s t : Nat} (hs : s < 8) (ht : t < 8) (hx : zMn σ s) {j8 : Nat} (hy : zMa σ t j8) {i j n : Int32}  : Dt mX12_copy [.ref 45, .int (nI s), .int (nI t), .int i, .int j, .int n] σ (some (.int (-2))) (zuX σ 46 (upd (zX σ 46) 2 (zX σ 46 2 + nI 1))) := by
  refine Dt.of (by decide) (Nat.le_of_ble_eq_true rfl) fun κ B Rt => ?_
  show Z κ 0 0 σ 0 [(0, .ref 45), (1, .int (nI s)), (2, .int (nI t)), (3, .int i), (4, .int j), (5, .int n)] []
  refine Z.aload_n B dX12_copy_0 (v := .ref 45) rfl rfl ?_
  refine Z.iload_n B dX12_copy_1 (x := nI s) rfl ?_
  refine Z.callVI (σ := σ) B (M' := mX12_isShelf) (as := [.int (nI s)]) (st := []) (v := .int (nI 1)) dX12_copy_2 wX12_isShelf iX12_isShelf sX12_isShelf kX12_90 (hl.n (k := 45) (by decide)) (hl.k (k := 45) (by decide)) (by decide) rfl rfl (t_X12_isShelf_in (σ := σ) hs) rfl rfl (by decide) (by decide) (Nat.le_of_ble_eq_true rfl) (by decide) (by decide) ?_
  refine Z.if_eqN B dX12_copy_5 (tgt := 16) rfl (by omega) (fun h5 => by exfalso; first | omega | contradiction | simp_all) (fun h5 => ?_)
  refine Z.aload_n B dX12_copy_8 (v := .ref 45) rfl rfl ?_
  refine Z.iload_n B dX12_copy_9 (x := nI t) rfl ?_
  refine Z.callVI (σ := σ) B (M' := mX12_isShelf) (as := [.int (nI t)]) (st := []) (v := .int (nI 1)) dX12_copy_10 wX12_isShelf iX12_isShelf sX12_isShelf kX12_90 (hl.n (k := 45) (by decide)) (hl.k (k := 45) (by decide)) (by decide) rfl rfl (t_X12_isShelf_in (σ := σ) ht) rfl rfl (by decide) (by decide) (Nat.le_of_ble_eq_true rfl) (by decide) (by decide) ?_
  refine Z.if_neN B dX12_copy_13 (tgt := 22) rfl (by omega) (fun h13 => ?_) (fun h13 => by exfalso; first | omega | contradiction | simp_all)
  refine Z.aload_n B dX12_copy_22 (v := .ref 45) rfl rfl ?_
  refine Z.getR (σ := σ) B fX12_41_12 dX12_copy_23 (hl.n (k := 45) (by decide)) (hl.k (k := 45) (by decide)) (by decide) (j := 54) (hl.r (k := 45) (f := 13) (by decide) (by decide)) ?_
  refine Z.iload_n B dX12_copy_26 (x := nI s) rfl ?_
  refine Z.iald (σ := σ) B dX12_copy_27 (n := 8) (hl.n (k := 54) (by decide)) (hl.k (k := 54) (by decide)) (hl.l (k := 54) (by decide)) (by decide) (j := s) rfl (by omega) (v := nI 0) hx ?_
  refine Z.iconst B dX12_copy_28 (v := nI 2) rfl ?_
  refine Z.icmp_eqN B dX12_copy_29 (tgt := 77) rfl (by omega) (by omega) (fun h29 => by exfalso; first | omega | contradiction | simp_all) (fun h29 => ?_)
  refine Z.aload_n B dX12_copy_32 (v := .ref 45) rfl rfl ?_
  refine Z.getR (σ := σ) B fX12_41_12 dX12_copy_33 (hl.n (k := 45) (by decide)) (hl.k (k := 45) (by decide)) (by decide) (j := 54) (hl.r (k := 45) (f := 13) (by decide) (by decide)) ?_
  refine Z.iload_n B dX12_copy_36 (x := nI t) rfl ?_
  refine Z.iald (σ := σ) B dX12_copy_37 (n := 8) (hl.n (k := 54) (by decide)) (hl.k (k := 54) (by decide)) (hl.l (k := 54) (by decide)) (by decide) (j := t) rfl (by omega) (v := nI 2) hy.1 ?_
  refine Z.iconst B dX12_copy_38 (v := nI 2) rfl ?_
  refine Z.icmp_eqN B dX12_copy_39 (tgt := 77) rfl (by omega) (by omega) (fun h39 => ?_) (fun h39 => by exfalso; first | omega | contradiction | simp_all)
  refine Z.aload_n B dX12_copy_77 (v := .ref 45) rfl rfl ?_
  refine Z.bipush B dX12_copy_78 (v := (-2)) rfl ?_
  refine Z.callVI (σ := σ) B (M' := mX12_no) (as := [.int (-2)]) (st := []) (v := .int (-2)) dX12_copy_80 wX12_no iX12_no sX12_no kX12_94 (hl.n (k := 45) (by decide)) (hl.k (k := 45) (by decide)) (by decide) rfl rfl (t_X12_no_2 (σ := σ) hl) rfl rfl (by decide) (by decide) (Nat.le_of_ble_eq_true rfl) (by decide) (by decide) ?_
  refine Z.eqσ (τ := (zuX σ 46 (upd (zX σ 46) 2 (zX σ 46 2 + nI 1)))) rfl ?_
  refine Z.iret B Rt dX12_copy_83 (ty := .int) rfl rfl (by decide) (by decide) ?_
  exact ⟨rfl, rfl⟩

theorem t_M_copy_3_nn {σ : zSt} (hl : Lay σ) {s t : Nat} (hs : s < 8) (ht : t < 8) (hx : zMn σ s) (hy : zMn σ t) {i j n : Int32}  : Dt mX12_copy [.ref 45, .int (nI s), .int (nI t), .int i, .int j, .int n] σ (some (.int (-3))) (zuX σ 46 (upd (zX σ 46) 3 (zX σ 46 3 + nI 1))) := by
  refine Dt.of (by decide) (Nat.le_of_ble_eq_true rfl) fun κ B Rt => ?_
  show Z κ 0 0 σ 0 [(0, .ref 45), (1, .int (nI s)), (2, .int (nI t)), (3, .int i), (4, .int j), (5, .int n)] []
  refine Z.aload_n B dX12_copy_0 (v := .ref 45) rfl rfl ?_
  refine Z.iload_n B dX12_copy_1 (x := nI s) rfl ?_
  refine Z.callVI (σ := σ) B (M' := mX12_isShelf) (as := [.int (nI s)]) (st := []) (v := .int (nI 1)) dX12_copy_2 wX12_isShelf iX12_isShelf sX12_isShelf kX12_90 (hl.n (k := 45) (by decide)) (hl.k (k := 45) (by decide)) (by decide) rfl rfl (t_X12_isShelf_in (σ := σ) hs) rfl rfl (by decide) (by decide) (Nat.le_of_ble_eq_true rfl) (by decide) (by decide) ?_
  refine Z.if_eqN B dX12_copy_5 (tgt := 16) rfl (by omega) (fun h5 => by exfalso; first | omega | contradiction | simp_all) (fun h5 => ?_)
  refine Z.aload_n B dX12_copy_8 (v := .ref 45) rfl rfl ?_
  refine Z.iload_n B dX12_copy_9 (x := nI t) rfl ?_
  refine Z.callVI (σ := σ) B (M' := mX12_isShelf) (as := [.int (nI t)]) (st := []) (v := .int (nI 1)) dX12_copy_10 wX12_isShelf iX12_isShelf sX12_isShelf kX12_90 (hl.n (k := 45) (by decide)) (hl.k (k := 45) (by decide)) (by decide) rfl rfl (t_X12_isShelf_in (σ := σ) ht) rfl rfl (by decide) (by decide) (Nat.le_of_ble_eq_true rfl) (by decide) (by decide) ?_
  refine Z.if_neN B dX12_copy_13 (tgt := 22) rfl (by omega) (fun h13 => ?_) (fun h13 => by exfalso; first | omega | contradiction | simp_all)
  refine Z.aload_n B dX12_copy_22 (v := .ref 45) rfl rfl ?_
  refine Z.getR (σ := σ) B fX12_41_12 dX12_copy_23 (hl.n (k := 45) (by decide)) (hl.k (k := 45) (by decide)) (by decide) (j := 54) (hl.r (k := 45) (f := 13) (by decide) (by decide)) ?_
  refine Z.iload_n B dX12_copy_26 (x := nI s) rfl ?_
  refine Z.iald (σ := σ) B dX12_copy_27 (n := 8) (hl.n (k := 54) (by decide)) (hl.k (k := 54) (by decide)) (hl.l (k := 54) (by decide)) (by decide) (j := s) rfl (by omega) (v := nI 0) hx ?_
  refine Z.iconst B dX12_copy_28 (v := nI 2) rfl ?_
  refine Z.icmp_eqN B dX12_copy_29 (tgt := 77) rfl (by omega) (by omega) (fun h29 => by exfalso; first | omega | contradiction | simp_all) (fun h29 => ?_)
  refine Z.aload_n B dX12_copy_32 (v := .ref 45) rfl rfl ?_
  refine Z.getR (σ := σ) B fX12_41_12 dX12_copy_33 (hl.n (k := 45) (by decide)) (hl.k (k := 45) (by decide)) (by decide) (j := 54) (hl.r (k := 45) (f := 13) (by decide) (by decide)) ?_
  refine Z.iload_n B dX12_copy_36 (x := nI t) rfl ?_
  refine Z.iald (σ := σ) B dX12_copy_37 (n := 8) (hl.n (k := 54) (by decide)) (hl.k (k := 54) (by decide)) (hl.l (k := 54) (by decide)) (by decide) (j := t) rfl (by omega) (v := nI 0) hy ?_
  refine Z.iconst B dX12_copy_38 (v := nI 2) rfl ?_
  refine Z.icmp_eqN B dX12_copy_39 (tgt := 77) rfl (by omega) (by omega) (fun h39 => by exfalso; first | omega | contradiction | simp_all) (fun h39 => ?_)
  refine Z.aload_n B dX12_copy_42 (v := .ref 45) rfl rfl ?_
  refine Z.getR (σ := σ) B fX12_41_12 dX12_copy_43 (hl.n (k := 45) (by decide)) (hl.k (k := 45) (by decide)) (by decide) (j := 54) (hl.r (k := 45) (f := 13) (by decide) (by decide)) ?_
  refine Z.iload_n B dX12_copy_46 (x := nI s) rfl ?_
  refine Z.iald (σ := σ) B dX12_copy_47 (n := 8) (hl.n (k := 54) (by decide)) (hl.k (k := 54) (by decide)) (hl.l (k := 54) (by decide)) (by decide) (j := s) rfl (by omega) (v := nI 0) hx ?_
  refine Z.iconst B dX12_copy_48 (v := nI 1) rfl ?_
  refine Z.icmp_neN B dX12_copy_49 (tgt := 84) rfl (by omega) (by omega) (fun h49 => ?_) (fun h49 => by exfalso; first | omega | contradiction | simp_all)
  refine Z.aload_n B dX12_copy_84 (v := .ref 45) rfl rfl ?_
  refine Z.getR (σ := σ) B fX12_41_12 dX12_copy_85 (hl.n (k := 45) (by decide)) (hl.k (k := 45) (by decide)) (by decide) (j := 54) (hl.r (k := 45) (f := 13) (by decide) (by decide)) ?_
  refine Z.iload_n B dX12_copy_88 (x := nI s) rfl ?_
  refine Z.iald (σ := σ) B dX12_copy_89 (n := 8) (hl.n (k := 54) (by decide)) (hl.k (k := 54) (by decide)) (hl.l (k := 54) (by decide)) (by decide) (j := s) rfl (by omega) (v := nI 0) hx ?_
  refine Z.if_eqN B dX12_copy_90 (tgt := 102) rfl (by omega) (fun h90 => ?_) (fun h90 => by exfalso; first | omega | contradiction | simp_all)
  refine Z.aload_n B dX12_copy_102 (v := .ref 45) rfl rfl ?_
  refine Z.bipush B dX12_copy_103 (v := (-3)) rfl ?_
  refine Z.callVI (σ := σ) B (M' := mX12_no) (as := [.int (-3)]) (st := []) (v := .int (-3)) dX12_copy_105 wX12_no iX12_no sX12_no kX12_94 (hl.n (k := 45) (by decide)) (hl.k (k := 45) (by decide)) (by decide) rfl rfl (t_X12_no_3 (σ := σ) hl) rfl rfl (by decide) (by decide) (Nat.le_of_ble_eq_true rfl) (by decide) (by decide) ?_
  refine Z.eqσ (τ := (zuX σ 46 (upd (zX σ 46) 3 (zX σ 46 3 + nI 1)))) rfl ?_
  refine Z.iret B Rt dX12_copy_108 (ty := .int) rfl rfl (by decide) (by decide) ?_
  exact ⟨rfl, rfl⟩
