/-! comers from rows: the class and the model -/
theorem zb_t {b : Bool} (h : b = true) : zb b = nI 1 := by rw [h]; rfl
theorem zb_f {b : Bool} (h : b = false) : zb b = nI 0 := by rw [h]; rfl

theorem t_K_comer_5 {σ : zSt} (hl : Lay σ) {s : Nat} (hs : s < 8) {o m : Nat} (hh : zRw σ (2 + 2 * s) o m){i : Int32} (hi : zBad i m 6) : Dt mX11_comer [.ref 0, .int (nI s), .int i] σ (some (.int (-nI 5))) (zuX σ 43 (upd (zX σ 43) 5 (zX σ 43 5 + nI 1))) := by
  have hqs := (hl.shelf hs).2
  refine Dt.of (by decide) (Nat.le_of_ble_eq_true rfl) fun κ B Rt => ?_
  show Z κ 0 0 σ 0 [(0, .ref 0), (1, .int (nI s)), (2, .int i)] []
  refine Z.aload_n B dX11_comer_0 (v := .ref 0) rfl rfl ?_
  refine Z.iload_n B dX11_comer_1 (x := nI s) rfl ?_
  refine Z.callVI (σ := σ) B (M' := mX11_shelfAt) (as := [.int (nI s)]) (st := []) (v := .ref (2 + 2 * s)) dX11_comer_2 wX11_shelfAt iX11_shelfAt sX11_shelfAt kX11_59 (hl.n (k := 0) (by decide)) (hl.k (k := 0) (by decide)) (by decide) rfl rfl (t_X11_shelfAt_in (σ := σ) hl hs) rfl rfl (by decide) (by decide) (Nat.le_of_ble_eq_true rfl) (by decide) (by decide) ?_
  refine Z.astore_n B dX11_comer_5 (by decide) rfl (L' := [(0, .ref 0), (1, .int (nI s)), (2, .int i), (3, .ref (2 + 2 * s))]) rfl ?_
  refine Z.aload_n B dX11_comer_6 (v := .ref (2 + 2 * s)) rfl rfl ?_
  refine Z.ifnull_r B dX11_comer_7 ?_
  refine Z.aload_n B dX11_comer_10 (v := .ref (2 + 2 * s)) rfl rfl ?_
  refine Z.callVI (σ := σ) B (M' := mX6_holdsRow) (as := []) (st := []) (v := .int (nI 1)) dX11_comer_11 wX6_holdsRow iX6_holdsRow sX6_holdsRow kX11_71 (Nat.lt_of_succ_lt hqs.1) hqs.2.1 (by decide) rfl rfl (t_X6_holdsRow_1 (σ := σ) hqs (Nat.lt_of_le_of_lt hh.2.1 (by decide)) hh.1) rfl rfl (by decide) (by decide) (Nat.le_of_ble_eq_true rfl) (by decide) (by decide) ?_
  refine Z.if_neN B dX11_comer_14 (tgt := 26) rfl (by omega) (fun h14 => ?_) (fun h14 => by exfalso; first | omega | contradiction | simp_all)
  refine Z.aload_n B dX11_comer_26 (v := .ref (2 + 2 * s)) rfl rfl ?_
  refine Z.iload_n B dX11_comer_27 (x := i) rfl ?_
  refine Z.bipush B dX11_comer_28 (v := nI 6) rfl ?_
  refine Z.callVI (σ := σ) B (M' := mX6_hasRun) (as := [.int i, .int (nI 6)]) (st := []) (v := .int (nI 0)) dX11_comer_30 wX6_hasRun iX6_hasRun sX6_hasRun kX11_79 (Nat.lt_of_succ_lt hqs.1) hqs.2.1 (by decide) rfl rfl (t_X6_hasRun_out (σ := σ) hqs hh.2.2.1 hh.2.2.2.1 hi (by decide)) rfl rfl (by decide) (by decide) (Nat.le_of_ble_eq_true rfl) (by decide) (by decide) ?_
  refine Z.if_neN B dX11_comer_33 (tgt := 42) rfl (by omega) (fun h33 => by exfalso; first | omega | contradiction | simp_all) (fun h33 => ?_)
  refine Z.aload_n B dX11_comer_36 (v := .ref 0) rfl rfl ?_
  refine Z.iconst B dX11_comer_37 (v := nI 5) rfl ?_
  refine Z.callVI (σ := σ) B (M' := mX11_refuse) (as := [.int (nI 5)]) (st := []) (v := .int (-nI 5)) dX11_comer_38 wX11_refuse iX11_refuse sX11_refuse kX11_63 (hl.n (k := 0) (by decide)) (hl.k (k := 0) (by decide)) (by decide) rfl rfl (t_X11_refuse (σ := σ) hl (b := 5) (by decide)) rfl rfl (by decide) (by decide) (Nat.le_of_ble_eq_true rfl) (by decide) (by decide) ?_
  refine Z.eqσ (τ := (zuX σ 43 (upd (zX σ 43) 5 (zX σ 43 5 + nI 1)))) rfl ?_
  refine Z.iret B Rt dX11_comer_41 (ty := .int) rfl rfl (by decide) (by decide) ?_
  exact ⟨rfl, rfl⟩

theorem t_K_comer_6 {σ : zSt} (hl : Lay σ) {s : Nat} (hs : s < 8) {o m : Nat} (hh : zRw σ (2 + 2 * s) o m){i : Nat} (hi : i + 6 ≤ m) {k0 : Nat} {d : Nat → Nat} (hk0 : k0 < 6) (hd : ∀ z, z < k0 → (fun o => (zY σ (2 + 2 * s + 1) (i + o)).toInt32) z = nI (d z) ∧ d z ≤ mo z) (hb : zOut ((fun o => (zY σ (2 + 2 * s + 1) (i + o)).toInt32) k0) (mo k0 + 1)) : Dt mX11_comer [.ref 0, .int (nI s), .int (nI i)] σ (some (.int (-nI 6))) (zuX (zuX σ 44 (fi 6 (fun o => (zY σ (2 + 2 * s + 1) (i + o)).toInt32) (zX σ 44))) 43 (upd (zX σ 43) 6 (zX σ 43 6 + nI 1))) := by
  have hqs := (hl.shelf hs).2
  refine Dt.of (by decide) (Nat.le_of_ble_eq_true rfl) fun κ B Rt => ?_
  show Z κ 0 0 σ 0 [(0, .ref 0), (1, .int (nI s)), (2, .int (nI i))] []
  refine Z.aload_n B dX11_comer_0 (v := .ref 0) rfl rfl ?_
  refine Z.iload_n B dX11_comer_1 (x := nI s) rfl ?_
  refine Z.callVI (σ := σ) B (M' := mX11_shelfAt) (as := [.int (nI s)]) (st := []) (v := .ref (2 + 2 * s)) dX11_comer_2 wX11_shelfAt iX11_shelfAt sX11_shelfAt kX11_59 (hl.n (k := 0) (by decide)) (hl.k (k := 0) (by decide)) (by decide) rfl rfl (t_X11_shelfAt_in (σ := σ) hl hs) rfl rfl (by decide) (by decide) (Nat.le_of_ble_eq_true rfl) (by decide) (by decide) ?_
  refine Z.astore_n B dX11_comer_5 (by decide) rfl (L' := [(0, .ref 0), (1, .int (nI s)), (2, .int (nI i)), (3, .ref (2 + 2 * s))]) rfl ?_
  refine Z.aload_n B dX11_comer_6 (v := .ref (2 + 2 * s)) rfl rfl ?_
  refine Z.ifnull_r B dX11_comer_7 ?_
  refine Z.aload_n B dX11_comer_10 (v := .ref (2 + 2 * s)) rfl rfl ?_
  refine Z.callVI (σ := σ) B (M' := mX6_holdsRow) (as := []) (st := []) (v := .int (nI 1)) dX11_comer_11 wX6_holdsRow iX6_holdsRow sX6_holdsRow kX11_71 (Nat.lt_of_succ_lt hqs.1) hqs.2.1 (by decide) rfl rfl (t_X6_holdsRow_1 (σ := σ) hqs (Nat.lt_of_le_of_lt hh.2.1 (by decide)) hh.1) rfl rfl (by decide) (by decide) (Nat.le_of_ble_eq_true rfl) (by decide) (by decide) ?_
  refine Z.if_neN B dX11_comer_14 (tgt := 26) rfl (by omega) (fun h14 => ?_) (fun h14 => by exfalso; first | omega | contradiction | simp_all)
  refine Z.aload_n B dX11_comer_26 (v := .ref (2 + 2 * s)) rfl rfl ?_
  refine Z.iload_n B dX11_comer_27 (x := nI i) rfl ?_
  refine Z.bipush B dX11_comer_28 (v := nI 6) rfl ?_
  refine Z.callVI (σ := σ) B (M' := mX6_hasRun) (as := [.int (nI i), .int (nI 6)]) (st := []) (v := .int (nI 1)) dX11_comer_30 wX6_hasRun iX6_hasRun sX6_hasRun kX11_79 (Nat.lt_of_succ_lt hqs.1) hqs.2.1 (by decide) rfl rfl (t_X6_hasRun_in (σ := σ) hqs hh.2.2.1 hh.2.2.2.1 hi) rfl rfl (by decide) (by decide) (Nat.le_of_ble_eq_true rfl) (by decide) (by decide) ?_
  refine Z.if_neN B dX11_comer_33 (tgt := 42) rfl (by omega) (fun h33 => ?_) (fun h33 => by exfalso; first | omega | contradiction | simp_all)
  refine Z.iconst B dX11_comer_42 (v := nI 1) rfl ?_
  refine Z.istore B dX11_comer_43 (by decide) (L' := [(0, .ref 0), (1, .int (nI s)), (2, .int (nI i)), (3, .ref (2 + 2 * s)), (4, .int (nI 1))]) rfl ?_
  refine Z.iconst B dX11_comer_45 (v := nI 0) rfl ?_
  refine Z.istore B dX11_comer_46 (by decide) (L' := [(0, .ref 0), (1, .int (nI s)), (2, .int (nI i)), (3, .ref (2 + 2 * s)), (4, .int (nI 1)), (5, .int (nI 0))]) rfl ?_
  have hloop48 : ∀ z : Nat, z ≤ 6 → Z κ 0 0 (zuX σ 44 (fi z (fun o => (zY σ (2 + 2 * s + 1) (i + o)).toInt32) (zX σ 44))) 48 [(0, .ref 0), (1, .int (nI s)), (2, .int (nI i)), (3, .ref (2 + 2 * s)), (4, .int (zb (decide (z ≤ k0)))), (5, .int (nI z))] [] := by
    refine z_loop (fun z => 6 - z) (fun z ih hz => ?_)
    refine Z.iload B dX11_comer_48 (x := nI z) rfl ?_
    refine Z.bipush B dX11_comer_50 (v := nI 6) rfl ?_
    refine Z.icmp_geN B dX11_comer_52 (tgt := 107) rfl (by omega) (by omega) (fun h52 => ?_) (fun h52 => ?_)
    · skip
      obtain rfl : 6 = z := by omega
      refine Z.iload B dX11_comer_107 (x := zb (decide (6 ≤ k0))) rfl ?_
      refine Z.if_neB B dX11_comer_109 (tgt := 119) rfl (fun h109 => (by exfalso; have := of_decide_eq_true h109; omega)) (fun h109 => ?_)
      refine Z.aload_n B dX11_comer_112 (v := .ref 0) rfl rfl ?_
      refine Z.bipush B dX11_comer_113 (v := nI 6) rfl ?_
      refine Z.callVI (σ := (zuX σ 44 (fi 6 (fun o => (zY σ (2 + 2 * s + 1) (i + o)).toInt32) (zX σ 44)))) B (M' := mX11_refuse) (as := [.int (nI 6)]) (st := []) (v := .int (-nI 6)) dX11_comer_115 wX11_refuse iX11_refuse sX11_refuse kX11_63 (hl.n (k := 0) (by decide)) (hl.k (k := 0) (by decide)) (by decide) rfl rfl (t_X11_refuse (σ := (zuX σ 44 (fi 6 (fun o => (zY σ (2 + 2 * s + 1) (i + o)).toInt32) (zX σ 44)))) hl (b := 6) (by decide)) rfl rfl (by decide) (by decide) (Nat.le_of_ble_eq_true rfl) (by decide) (by decide) ?_
      refine Z.eqσ (τ := (zuX (zuX σ 44 (fi 6 (fun o => (zY σ (2 + 2 * s + 1) (i + o)).toInt32) (zX σ 44))) 43 (upd (zX σ 43) 6 (zX σ 43 6 + nI 1)))) rfl ?_
      refine Z.iret B Rt dX11_comer_118 (ty := .int) rfl rfl (by decide) (by decide) ?_
      exact ⟨rfl, rfl⟩
    · skip
      refine Z.aload_n B dX11_comer_55 (v := .ref 0) rfl rfl ?_
      refine Z.getR (σ := (zuX σ 44 (fi z (fun o => (zY σ (2 + 2 * s + 1) (i + o)).toInt32) (zX σ 44)))) B fX11_48_11 dX11_comer_56 (hl.n (k := 0) (by decide)) (hl.k (k := 0) (by decide)) (by decide) (j := 44) (hl.r (k := 0) (f := 6) (by decide) (by decide)) ?_
      refine Z.iload B dX11_comer_59 (x := nI z) rfl ?_
      refine Z.aload_n B dX11_comer_61 (v := .ref (2 + 2 * s)) rfl rfl ?_
      refine Z.iload_n B dX11_comer_62 (x := nI i) rfl ?_
      refine Z.iload B dX11_comer_63 (x := nI z) rfl ?_
      refine Z.iaddN B dX11_comer_65 (a := i) (b := z) ?_
      have hm160 := hh.2.2.2.1
      have hm2 : zX (zuX σ 44 (fi z (fun o => (zY σ (2 + 2 * s + 1) (i + o)).toInt32) (zX σ 44))) (2 + 2 * s) 2 = nI m := by rw [show zX (zuX σ 44 (fi z (fun o => (zY σ (2 + 2 * s + 1) (i + o)).toInt32) (zX σ 44))) (2 + 2 * s) = zX σ (2 + 2 * s) from zfu_ne (by omega)]; exact hh.2.2.1
      refine Z.callVI (σ := (zuX σ 44 (fi z (fun o => (zY σ (2 + 2 * s + 1) (i + o)).toInt32) (zX σ 44)))) B (M' := mX6_intAt) (as := [.int (nI (i + z))]) (st := [.int (nI z), .ref 44]) (v := .int ((fun o => (zY σ (2 + 2 * s + 1) (i + o)).toInt32) z)) dX11_comer_66 wX6_intAt iX6_intAt sX6_intAt kX11_121 (Nat.lt_of_succ_lt hqs.1) hqs.2.1 (by decide) rfl rfl (t_X6_intAt_in (σ := (zuX σ 44 (fi z (fun o => (zY σ (2 + 2 * s + 1) (i + o)).toInt32) (zX σ 44)))) hqs hm2 hm160 (i := i + z) (by omega)) rfl rfl (by decide) (by decide) (Nat.le_of_ble_eq_true rfl) (by decide) (by decide) ?_
      refine Z.iast (σ := (zuX σ 44 (fi z (fun o => (zY σ (2 + 2 * s + 1) (i + o)).toInt32) (zX σ 44)))) B dX11_comer_69 (n := 6) (hl.n (k := 44) (by decide)) (hl.k (k := 44) (by decide)) (hl.l (k := 44) (by decide)) (by decide) (j := z) rfl (by omega) (τ := (zuX σ 44 (fi (z + 1) (fun o => (zY σ (2 + 2 * s + 1) (i + o)).toInt32) (zX σ 44)))) (by rw [zX_self, zuX_uX, fi_s rfl]) ?_
      refine Z.iload B dX11_comer_70 (x := zb (decide (z ≤ k0))) rfl ?_
      refine Z.if_eqB B dX11_comer_72 (tgt := 98) rfl (fun h72 => ?_) (fun h72 => ?_)
      · skip
        have hzk := of_decide_eq_false h72
        refine Z.iconst B dX11_comer_98 (v := nI 0) rfl ?_
        refine Z.istore B dX11_comer_99 (by decide) (L' := [(0, .ref 0), (1, .int (nI s)), (2, .int (nI i)), (3, .ref (2 + 2 * s)), (4, .int (nI 0)), (5, .int (nI z))]) rfl ?_
        refine Z.iincN B dX11_comer_101 (by decide) (a := z) rfl (L' := [(0, .ref 0), (1, .int (nI s)), (2, .int (nI i)), (3, .ref (2 + 2 * s)), (4, .int (nI 0)), (5, .int (nI (z + 1)))]) rfl ?_
        refine Z.goto B dX11_comer_104 (tgt := 48) rfl ?_
        have e := ih (z + 1) (by omega) (by omega)
        first | (rw [zb_t (decide_eq_true (show z + 1 ≤ k0 by omega))] at e; exact e) | (rw [zb_f (decide_eq_false (show ¬ z + 1 ≤ k0 by omega))] at e; exact e)
      · skip
        have hzk := of_decide_eq_true h72
        refine Z.aload_n B dX11_comer_75 (v := .ref 0) rfl rfl ?_
        refine Z.getR (σ := (zuX σ 44 (fi (z + 1) (fun o => (zY σ (2 + 2 * s + 1) (i + o)).toInt32) (zX σ 44)))) B fX11_48_11 dX11_comer_76 (hl.n (k := 0) (by decide)) (hl.k (k := 0) (by decide)) (by decide) (j := 44) (hl.r (k := 0) (f := 6) (by decide) (by decide)) ?_
        refine Z.iload B dX11_comer_79 (x := nI z) rfl ?_
        refine Z.iald (σ := (zuX σ 44 (fi (z + 1) (fun o => (zY σ (2 + 2 * s + 1) (i + o)).toInt32) (zX σ 44)))) B dX11_comer_81 (n := 6) (hl.n (k := 44) (by decide)) (hl.k (k := 44) (by decide)) (hl.l (k := 44) (by decide)) (by decide) (j := z) rfl (by omega) (v := ((fun o => (zY σ (2 + 2 * s + 1) (i + o)).toInt32) z)) (by rw [zX_self]; exact fi_at (Nat.lt_succ_self z)) ?_
        refine Z.gets B (x := 0) zKon0 (zT_at 441 (by decide +kernel) rfl) dX11_comer_82 ?_
        refine Z.iload B dX11_comer_85 (x := nI z) rfl ?_
        refine Z.cld B (j := z) zKt0 dX11_comer_87 (by decide) (by omega) (v := nI (mo z)) (mo_A (by omega)) ?_
        rcases (by omega : z < k0 ∨ z = k0) with hlt | hz0
        · skip
          have hmo : mo z ≤ 9 := mo_le
          rw [(hd z hlt).1]
          refine Z.callSI (σ := (zuX σ 44 (fi (z + 1) (fun o => (zY σ (2 + 2 * s + 1) (i + o)).toInt32) (zX σ 44)))) B (M' := mX11_isUpTo) (as := [.int (nI (d z)), .int (nI (mo z))]) (st := []) (v := .int (nI 1)) dX11_comer_88 wX11_isUpTo iX11_isUpTo kX11_127 (t_X11_isUpTo_in (σ := (zuX σ 44 (fi (z + 1) (fun o => (zY σ (2 + 2 * s + 1) (i + o)).toInt32) (zX σ 44)))) (hd z hlt).2 (by omega)) rfl rfl (by decide) (by decide) (Nat.le_of_ble_eq_true rfl) (by decide) (by decide) ?_
          refine Z.if_eqN B dX11_comer_91 (tgt := 98) rfl (by omega) (fun h91 => by exfalso; first | omega | contradiction | simp_all) (fun h91 => ?_)
          refine Z.iconst B dX11_comer_94 (v := nI 1) rfl ?_
          refine Z.goto B dX11_comer_95 (tgt := 99) rfl ?_
          refine Z.istore B dX11_comer_99 (by decide) (L' := [(0, .ref 0), (1, .int (nI s)), (2, .int (nI i)), (3, .ref (2 + 2 * s)), (4, .int (nI 1)), (5, .int (nI z))]) rfl ?_
          refine Z.iincN B dX11_comer_101 (by decide) (a := z) rfl (L' := [(0, .ref 0), (1, .int (nI s)), (2, .int (nI i)), (3, .ref (2 + 2 * s)), (4, .int (nI 1)), (5, .int (nI (z + 1)))]) rfl ?_
          refine Z.goto B dX11_comer_104 (tgt := 48) rfl ?_
          have e := ih (z + 1) (by omega) (by omega)
          first | (rw [zb_t (decide_eq_true (show z + 1 ≤ k0 by omega))] at e; exact e) | (rw [zb_f (decide_eq_false (show ¬ z + 1 ≤ k0 by omega))] at e; exact e)
        · skip
          have hmo : mo z ≤ 9 := mo_le
          refine Z.callSI (σ := (zuX σ 44 (fi (z + 1) (fun o => (zY σ (2 + 2 * s + 1) (i + o)).toInt32) (zX σ 44)))) B (M' := mX11_isUpTo) (as := [.int ((fun o => (zY σ (2 + 2 * s + 1) (i + o)).toInt32) z), .int (nI (mo z))]) (st := []) (v := .int (nI 0)) dX11_comer_88 wX11_isUpTo iX11_isUpTo kX11_127 (t_X11_isUpTo_out (σ := (zuX σ 44 (fi (z + 1) (fun o => (zY σ (2 + 2 * s + 1) (i + o)).toInt32) (zX σ 44)))) (n := mo z) (by rw [hz0]; exact hb) (by omega)) rfl rfl (by decide) (by decide) (Nat.le_of_ble_eq_true rfl) (by decide) (by decide) ?_
          refine Z.if_eqN B dX11_comer_91 (tgt := 98) rfl (by omega) (fun h91 => ?_) (fun h91 => by exfalso; first | omega | contradiction | simp_all)
          refine Z.iconst B dX11_comer_98 (v := nI 0) rfl ?_
          refine Z.istore B dX11_comer_99 (by decide) (L' := [(0, .ref 0), (1, .int (nI s)), (2, .int (nI i)), (3, .ref (2 + 2 * s)), (4, .int (nI 0)), (5, .int (nI z))]) rfl ?_
          refine Z.iincN B dX11_comer_101 (by decide) (a := z) rfl (L' := [(0, .ref 0), (1, .int (nI s)), (2, .int (nI i)), (3, .ref (2 + 2 * s)), (4, .int (nI 0)), (5, .int (nI (z + 1)))]) rfl ?_
          refine Z.goto B dX11_comer_104 (tgt := 48) rfl ?_
          have e := ih (z + 1) (by omega) (by omega)
          first | (rw [zb_t (decide_eq_true (show z + 1 ≤ k0 by omega))] at e; exact e) | (rw [zb_f (decide_eq_false (show ¬ z + 1 ≤ k0 by omega))] at e; exact e)
  have h0 := hloop48 0 (Nat.zero_le _)
  rw [fi_0, zuX_id, zb_t (decide_eq_true (Nat.zero_le k0))] at h0
  exact h0

theorem t_K_comer_7 {σ : zSt} (hl : Lay σ) {n a y : Nat} (H : zHd σ n a y) {s : Nat} (hs : s < 8) {o m : Nat} (hh : zRw σ (2 + 2 * s) o m){i : Nat} (hi : i + 6 ≤ m) {d : Nat → Nat} (hd : ∀ z, z < 6 → (fun o => (zY σ (2 + 2 * s + 1) (i + o)).toInt32) z = nI (d z) ∧ d z ≤ mo z) (h8 : n = 8) : Dt mX11_comer [.ref 0, .int (nI s), .int (nI i)] σ (some (.int (-nI 7))) (zuX (zuX σ 44 (fi 6 (fun o => (zY σ (2 + 2 * s + 1) (i + o)).toInt32) (zX σ 44))) 43 (upd (zX σ 43) 7 (zX σ 43 7 + nI 1))) := by
  have hqs := (hl.shelf hs).2
  obtain ⟨-, hn, hn8, ha, ha4, hy, hy8⟩ := id H
  refine Dt.of (by decide) (Nat.le_of_ble_eq_true rfl) fun κ B Rt => ?_
  show Z κ 0 0 σ 0 [(0, .ref 0), (1, .int (nI s)), (2, .int (nI i))] []
  refine Z.aload_n B dX11_comer_0 (v := .ref 0) rfl rfl ?_
  refine Z.iload_n B dX11_comer_1 (x := nI s) rfl ?_
  refine Z.callVI (σ := σ) B (M' := mX11_shelfAt) (as := [.int (nI s)]) (st := []) (v := .ref (2 + 2 * s)) dX11_comer_2 wX11_shelfAt iX11_shelfAt sX11_shelfAt kX11_59 (hl.n (k := 0) (by decide)) (hl.k (k := 0) (by decide)) (by decide) rfl rfl (t_X11_shelfAt_in (σ := σ) hl hs) rfl rfl (by decide) (by decide) (Nat.le_of_ble_eq_true rfl) (by decide) (by decide) ?_
  refine Z.astore_n B dX11_comer_5 (by decide) rfl (L' := [(0, .ref 0), (1, .int (nI s)), (2, .int (nI i)), (3, .ref (2 + 2 * s))]) rfl ?_
  refine Z.aload_n B dX11_comer_6 (v := .ref (2 + 2 * s)) rfl rfl ?_
  refine Z.ifnull_r B dX11_comer_7 ?_
  refine Z.aload_n B dX11_comer_10 (v := .ref (2 + 2 * s)) rfl rfl ?_
  refine Z.callVI (σ := σ) B (M' := mX6_holdsRow) (as := []) (st := []) (v := .int (nI 1)) dX11_comer_11 wX6_holdsRow iX6_holdsRow sX6_holdsRow kX11_71 (Nat.lt_of_succ_lt hqs.1) hqs.2.1 (by decide) rfl rfl (t_X6_holdsRow_1 (σ := σ) hqs (Nat.lt_of_le_of_lt hh.2.1 (by decide)) hh.1) rfl rfl (by decide) (by decide) (Nat.le_of_ble_eq_true rfl) (by decide) (by decide) ?_
  refine Z.if_neN B dX11_comer_14 (tgt := 26) rfl (by omega) (fun h14 => ?_) (fun h14 => by exfalso; first | omega | contradiction | simp_all)
  refine Z.aload_n B dX11_comer_26 (v := .ref (2 + 2 * s)) rfl rfl ?_
  refine Z.iload_n B dX11_comer_27 (x := nI i) rfl ?_
  refine Z.bipush B dX11_comer_28 (v := nI 6) rfl ?_
  refine Z.callVI (σ := σ) B (M' := mX6_hasRun) (as := [.int (nI i), .int (nI 6)]) (st := []) (v := .int (nI 1)) dX11_comer_30 wX6_hasRun iX6_hasRun sX6_hasRun kX11_79 (Nat.lt_of_succ_lt hqs.1) hqs.2.1 (by decide) rfl rfl (t_X6_hasRun_in (σ := σ) hqs hh.2.2.1 hh.2.2.2.1 hi) rfl rfl (by decide) (by decide) (Nat.le_of_ble_eq_true rfl) (by decide) (by decide) ?_
  refine Z.if_neN B dX11_comer_33 (tgt := 42) rfl (by omega) (fun h33 => ?_) (fun h33 => by exfalso; first | omega | contradiction | simp_all)
  refine Z.iconst B dX11_comer_42 (v := nI 1) rfl ?_
  refine Z.istore B dX11_comer_43 (by decide) (L' := [(0, .ref 0), (1, .int (nI s)), (2, .int (nI i)), (3, .ref (2 + 2 * s)), (4, .int (nI 1))]) rfl ?_
  refine Z.iconst B dX11_comer_45 (v := nI 0) rfl ?_
  refine Z.istore B dX11_comer_46 (by decide) (L' := [(0, .ref 0), (1, .int (nI s)), (2, .int (nI i)), (3, .ref (2 + 2 * s)), (4, .int (nI 1)), (5, .int (nI 0))]) rfl ?_
  have hloop48 : ∀ z : Nat, z ≤ 6 → Z κ 0 0 (zuX σ 44 (fi z (fun o => (zY σ (2 + 2 * s + 1) (i + o)).toInt32) (zX σ 44))) 48 [(0, .ref 0), (1, .int (nI s)), (2, .int (nI i)), (3, .ref (2 + 2 * s)), (4, .int (nI 1)), (5, .int (nI z))] [] := by
    refine z_loop (fun z => 6 - z) (fun z ih hz => ?_)
    refine Z.iload B dX11_comer_48 (x := nI z) rfl ?_
    refine Z.bipush B dX11_comer_50 (v := nI 6) rfl ?_
    refine Z.icmp_geN B dX11_comer_52 (tgt := 107) rfl (by omega) (by omega) (fun h52 => ?_) (fun h52 => ?_)
    · skip
      obtain rfl : 6 = z := by omega
      refine Z.iload B dX11_comer_107 (x := nI 1) rfl ?_
      refine Z.if_neN B dX11_comer_109 (tgt := 119) rfl (by omega) (fun h109 => ?_) (fun h109 => by exfalso; first | omega | contradiction | simp_all)
      refine Z.aload_n B dX11_comer_119 (v := .ref 0) rfl rfl ?_
      refine Z.getR (σ := (zuX σ 44 (fi 6 (fun o => (zY σ (2 + 2 * s + 1) (i + o)).toInt32) (zX σ 44)))) B fX11_28_11 dX11_comer_120 (hl.n (k := 0) (by decide)) (hl.k (k := 0) (by decide)) (by decide) (j := 20) (hl.r (k := 0) (f := 2) (by decide) (by decide)) ?_
      refine Z.iconst B dX11_comer_123 (v := nI 0) rfl ?_
      refine Z.callVI (σ := (zuX σ 44 (fi 6 (fun o => (zY σ (2 + 2 * s + 1) (i + o)).toInt32) (zX σ 44)))) B (M' := mX1_hasRoomFor) (as := [.int (nI 0)]) (st := []) (v := .int (nI 0)) dX11_comer_124 wX1_hasRoomFor iX1_hasRoomFor sX1_hasRoomFor kX11_130 (hl.n (k := 20) (by decide)) (hl.k (k := 20) (by decide)) (by decide) rfl rfl (t_X1_hasRoomFor_0_0 (σ := (zuX σ 44 (fi 6 (fun o => (zY σ (2 + 2 * s + 1) (i + o)).toInt32) (zX σ 44)))) hl hn hn8 ha ha4 hy hy8 h8) rfl rfl (by decide) (by decide) (Nat.le_of_ble_eq_true rfl) (by decide) (by decide) ?_
      refine Z.if_eqN B dX11_comer_127 (tgt := 144) rfl (by omega) (fun h127 => ?_) (fun h127 => by exfalso; first | omega | contradiction | simp_all)
      refine Z.aload_n B dX11_comer_144 (v := .ref 0) rfl rfl ?_
      refine Z.bipush B dX11_comer_145 (v := nI 7) rfl ?_
      refine Z.callVI (σ := (zuX σ 44 (fi 6 (fun o => (zY σ (2 + 2 * s + 1) (i + o)).toInt32) (zX σ 44)))) B (M' := mX11_refuse) (as := [.int (nI 7)]) (st := []) (v := .int (-nI 7)) dX11_comer_147 wX11_refuse iX11_refuse sX11_refuse kX11_63 (hl.n (k := 0) (by decide)) (hl.k (k := 0) (by decide)) (by decide) rfl rfl (t_X11_refuse (σ := (zuX σ 44 (fi 6 (fun o => (zY σ (2 + 2 * s + 1) (i + o)).toInt32) (zX σ 44)))) hl (b := 7) (by decide)) rfl rfl (by decide) (by decide) (Nat.le_of_ble_eq_true rfl) (by decide) (by decide) ?_
      refine Z.eqσ (τ := (zuX (zuX σ 44 (fi 6 (fun o => (zY σ (2 + 2 * s + 1) (i + o)).toInt32) (zX σ 44))) 43 (upd (zX σ 43) 7 (zX σ 43 7 + nI 1)))) rfl ?_
      refine Z.iret B Rt dX11_comer_150 (ty := .int) rfl rfl (by decide) (by decide) ?_
      exact ⟨rfl, rfl⟩
    · skip
      refine Z.aload_n B dX11_comer_55 (v := .ref 0) rfl rfl ?_
      refine Z.getR (σ := (zuX σ 44 (fi z (fun o => (zY σ (2 + 2 * s + 1) (i + o)).toInt32) (zX σ 44)))) B fX11_48_11 dX11_comer_56 (hl.n (k := 0) (by decide)) (hl.k (k := 0) (by decide)) (by decide) (j := 44) (hl.r (k := 0) (f := 6) (by decide) (by decide)) ?_
      refine Z.iload B dX11_comer_59 (x := nI z) rfl ?_
      refine Z.aload_n B dX11_comer_61 (v := .ref (2 + 2 * s)) rfl rfl ?_
      refine Z.iload_n B dX11_comer_62 (x := nI i) rfl ?_
      refine Z.iload B dX11_comer_63 (x := nI z) rfl ?_
      refine Z.iaddN B dX11_comer_65 (a := i) (b := z) ?_
      have hm160 := hh.2.2.2.1
      have hm2 : zX (zuX σ 44 (fi z (fun o => (zY σ (2 + 2 * s + 1) (i + o)).toInt32) (zX σ 44))) (2 + 2 * s) 2 = nI m := by rw [show zX (zuX σ 44 (fi z (fun o => (zY σ (2 + 2 * s + 1) (i + o)).toInt32) (zX σ 44))) (2 + 2 * s) = zX σ (2 + 2 * s) from zfu_ne (by omega)]; exact hh.2.2.1
      refine Z.callVI (σ := (zuX σ 44 (fi z (fun o => (zY σ (2 + 2 * s + 1) (i + o)).toInt32) (zX σ 44)))) B (M' := mX6_intAt) (as := [.int (nI (i + z))]) (st := [.int (nI z), .ref 44]) (v := .int ((fun o => (zY σ (2 + 2 * s + 1) (i + o)).toInt32) z)) dX11_comer_66 wX6_intAt iX6_intAt sX6_intAt kX11_121 (Nat.lt_of_succ_lt hqs.1) hqs.2.1 (by decide) rfl rfl (t_X6_intAt_in (σ := (zuX σ 44 (fi z (fun o => (zY σ (2 + 2 * s + 1) (i + o)).toInt32) (zX σ 44)))) hqs hm2 hm160 (i := i + z) (by omega)) rfl rfl (by decide) (by decide) (Nat.le_of_ble_eq_true rfl) (by decide) (by decide) ?_
      refine Z.iast (σ := (zuX σ 44 (fi z (fun o => (zY σ (2 + 2 * s + 1) (i + o)).toInt32) (zX σ 44)))) B dX11_comer_69 (n := 6) (hl.n (k := 44) (by decide)) (hl.k (k := 44) (by decide)) (hl.l (k := 44) (by decide)) (by decide) (j := z) rfl (by omega) (τ := (zuX σ 44 (fi (z + 1) (fun o => (zY σ (2 + 2 * s + 1) (i + o)).toInt32) (zX σ 44)))) (by rw [zX_self, zuX_uX, fi_s rfl]) ?_
      refine Z.iload B dX11_comer_70 (x := nI 1) rfl ?_
      refine Z.if_eqN B dX11_comer_72 (tgt := 98) rfl (by omega) (fun h72 => by exfalso; first | omega | contradiction | simp_all) (fun h72 => ?_)
      refine Z.aload_n B dX11_comer_75 (v := .ref 0) rfl rfl ?_
      refine Z.getR (σ := (zuX σ 44 (fi (z + 1) (fun o => (zY σ (2 + 2 * s + 1) (i + o)).toInt32) (zX σ 44)))) B fX11_48_11 dX11_comer_76 (hl.n (k := 0) (by decide)) (hl.k (k := 0) (by decide)) (by decide) (j := 44) (hl.r (k := 0) (f := 6) (by decide) (by decide)) ?_
      refine Z.iload B dX11_comer_79 (x := nI z) rfl ?_
      refine Z.iald (σ := (zuX σ 44 (fi (z + 1) (fun o => (zY σ (2 + 2 * s + 1) (i + o)).toInt32) (zX σ 44)))) B dX11_comer_81 (n := 6) (hl.n (k := 44) (by decide)) (hl.k (k := 44) (by decide)) (hl.l (k := 44) (by decide)) (by decide) (j := z) rfl (by omega) (v := ((fun o => (zY σ (2 + 2 * s + 1) (i + o)).toInt32) z)) (by rw [zX_self]; exact fi_at (Nat.lt_succ_self z)) ?_
      refine Z.gets B (x := 0) zKon0 (zT_at 441 (by decide +kernel) rfl) dX11_comer_82 ?_
      refine Z.iload B dX11_comer_85 (x := nI z) rfl ?_
      refine Z.cld B (j := z) zKt0 dX11_comer_87 (by decide) (by omega) (v := nI (mo z)) (mo_A (by omega)) ?_
      have hmo : mo z ≤ 9 := mo_le
      rw [(hd z (by omega)).1]
      refine Z.callSI (σ := (zuX σ 44 (fi (z + 1) (fun o => (zY σ (2 + 2 * s + 1) (i + o)).toInt32) (zX σ 44)))) B (M' := mX11_isUpTo) (as := [.int (nI (d z)), .int (nI (mo z))]) (st := []) (v := .int (nI 1)) dX11_comer_88 wX11_isUpTo iX11_isUpTo kX11_127 (t_X11_isUpTo_in (σ := (zuX σ 44 (fi (z + 1) (fun o => (zY σ (2 + 2 * s + 1) (i + o)).toInt32) (zX σ 44)))) (hd z (by omega)).2 (by omega)) rfl rfl (by decide) (by decide) (Nat.le_of_ble_eq_true rfl) (by decide) (by decide) ?_
      refine Z.if_eqN B dX11_comer_91 (tgt := 98) rfl (by omega) (fun h91 => by exfalso; first | omega | contradiction | simp_all) (fun h91 => ?_)
      refine Z.iconst B dX11_comer_94 (v := nI 1) rfl ?_
      refine Z.goto B dX11_comer_95 (tgt := 99) rfl ?_
      refine Z.istore B dX11_comer_99 (by decide) (L' := [(0, .ref 0), (1, .int (nI s)), (2, .int (nI i)), (3, .ref (2 + 2 * s)), (4, .int (nI 1)), (5, .int (nI z))]) rfl ?_
      refine Z.iincN B dX11_comer_101 (by decide) (a := z) rfl (L' := [(0, .ref 0), (1, .int (nI s)), (2, .int (nI i)), (3, .ref (2 + 2 * s)), (4, .int (nI 1)), (5, .int (nI (z + 1)))]) rfl ?_
      refine Z.goto B dX11_comer_104 (tgt := 48) rfl ?_
      exact ih (z + 1) (by omega) (by omega)
  have h0 := hloop48 0 (Nat.zero_le _)
  rw [fi_0, zuX_id] at h0
  exact h0

theorem t_K_comer_0 {σ : zSt} (hl : Lay σ) {n a y : Nat} (H : zHd σ n a y) {s : Nat} (hs : s < 8) {o m : Nat} (hh : zRw σ (2 + 2 * s) o m){i : Nat} (hi : i + 6 ≤ m) {d : Nat → Nat} (hd : ∀ z, z < 6 → (fun o => (zY σ (2 + 2 * s + 1) (i + o)).toInt32) z = nI (d z) ∧ d z ≤ mo z) (h8 : n < 8) : Dt mX11_comer [.ref 0, .int (nI s), .int (nI i)] σ (some (.int (nI n))) (zuX (zuX (zuX σ 44 (fi 6 (fun o => (zY σ (2 + 2 * s + 1) (i + o)).toInt32) (zX σ 44))) 21 (va_cpy (fi 6 (fun o => (zY σ (2 + 2 * s + 1) (i + o)).toInt32) (zX σ 44)) (zX σ 21) 0 (n * 6) 6)) 20 (upd (zX σ 20) 2 (nI (n + 1)))) := by
  have hqs := (hl.shelf hs).2
  obtain ⟨-, hn, hn8, ha, ha4, hy, hy8⟩ := id H
  refine Dt.of (by decide) (Nat.le_of_ble_eq_true rfl) fun κ B Rt => ?_
  show Z κ 0 0 σ 0 [(0, .ref 0), (1, .int (nI s)), (2, .int (nI i))] []
  refine Z.aload_n B dX11_comer_0 (v := .ref 0) rfl rfl ?_
  refine Z.iload_n B dX11_comer_1 (x := nI s) rfl ?_
  refine Z.callVI (σ := σ) B (M' := mX11_shelfAt) (as := [.int (nI s)]) (st := []) (v := .ref (2 + 2 * s)) dX11_comer_2 wX11_shelfAt iX11_shelfAt sX11_shelfAt kX11_59 (hl.n (k := 0) (by decide)) (hl.k (k := 0) (by decide)) (by decide) rfl rfl (t_X11_shelfAt_in (σ := σ) hl hs) rfl rfl (by decide) (by decide) (Nat.le_of_ble_eq_true rfl) (by decide) (by decide) ?_
  refine Z.astore_n B dX11_comer_5 (by decide) rfl (L' := [(0, .ref 0), (1, .int (nI s)), (2, .int (nI i)), (3, .ref (2 + 2 * s))]) rfl ?_
  refine Z.aload_n B dX11_comer_6 (v := .ref (2 + 2 * s)) rfl rfl ?_
  refine Z.ifnull_r B dX11_comer_7 ?_
  refine Z.aload_n B dX11_comer_10 (v := .ref (2 + 2 * s)) rfl rfl ?_
  refine Z.callVI (σ := σ) B (M' := mX6_holdsRow) (as := []) (st := []) (v := .int (nI 1)) dX11_comer_11 wX6_holdsRow iX6_holdsRow sX6_holdsRow kX11_71 (Nat.lt_of_succ_lt hqs.1) hqs.2.1 (by decide) rfl rfl (t_X6_holdsRow_1 (σ := σ) hqs (Nat.lt_of_le_of_lt hh.2.1 (by decide)) hh.1) rfl rfl (by decide) (by decide) (Nat.le_of_ble_eq_true rfl) (by decide) (by decide) ?_
  refine Z.if_neN B dX11_comer_14 (tgt := 26) rfl (by omega) (fun h14 => ?_) (fun h14 => by exfalso; first | omega | contradiction | simp_all)
  refine Z.aload_n B dX11_comer_26 (v := .ref (2 + 2 * s)) rfl rfl ?_
  refine Z.iload_n B dX11_comer_27 (x := nI i) rfl ?_
  refine Z.bipush B dX11_comer_28 (v := nI 6) rfl ?_
  refine Z.callVI (σ := σ) B (M' := mX6_hasRun) (as := [.int (nI i), .int (nI 6)]) (st := []) (v := .int (nI 1)) dX11_comer_30 wX6_hasRun iX6_hasRun sX6_hasRun kX11_79 (Nat.lt_of_succ_lt hqs.1) hqs.2.1 (by decide) rfl rfl (t_X6_hasRun_in (σ := σ) hqs hh.2.2.1 hh.2.2.2.1 hi) rfl rfl (by decide) (by decide) (Nat.le_of_ble_eq_true rfl) (by decide) (by decide) ?_
  refine Z.if_neN B dX11_comer_33 (tgt := 42) rfl (by omega) (fun h33 => ?_) (fun h33 => by exfalso; first | omega | contradiction | simp_all)
  refine Z.iconst B dX11_comer_42 (v := nI 1) rfl ?_
  refine Z.istore B dX11_comer_43 (by decide) (L' := [(0, .ref 0), (1, .int (nI s)), (2, .int (nI i)), (3, .ref (2 + 2 * s)), (4, .int (nI 1))]) rfl ?_
  refine Z.iconst B dX11_comer_45 (v := nI 0) rfl ?_
  refine Z.istore B dX11_comer_46 (by decide) (L' := [(0, .ref 0), (1, .int (nI s)), (2, .int (nI i)), (3, .ref (2 + 2 * s)), (4, .int (nI 1)), (5, .int (nI 0))]) rfl ?_
  have hloop48 : ∀ z : Nat, z ≤ 6 → Z κ 0 0 (zuX σ 44 (fi z (fun o => (zY σ (2 + 2 * s + 1) (i + o)).toInt32) (zX σ 44))) 48 [(0, .ref 0), (1, .int (nI s)), (2, .int (nI i)), (3, .ref (2 + 2 * s)), (4, .int (nI 1)), (5, .int (nI z))] [] := by
    refine z_loop (fun z => 6 - z) (fun z ih hz => ?_)
    refine Z.iload B dX11_comer_48 (x := nI z) rfl ?_
    refine Z.bipush B dX11_comer_50 (v := nI 6) rfl ?_
    refine Z.icmp_geN B dX11_comer_52 (tgt := 107) rfl (by omega) (by omega) (fun h52 => ?_) (fun h52 => ?_)
    · skip
      obtain rfl : 6 = z := by omega
      refine Z.iload B dX11_comer_107 (x := nI 1) rfl ?_
      refine Z.if_neN B dX11_comer_109 (tgt := 119) rfl (by omega) (fun h109 => ?_) (fun h109 => by exfalso; first | omega | contradiction | simp_all)
      refine Z.aload_n B dX11_comer_119 (v := .ref 0) rfl rfl ?_
      refine Z.getR (σ := (zuX σ 44 (fi 6 (fun o => (zY σ (2 + 2 * s + 1) (i + o)).toInt32) (zX σ 44)))) B fX11_28_11 dX11_comer_120 (hl.n (k := 0) (by decide)) (hl.k (k := 0) (by decide)) (by decide) (j := 20) (hl.r (k := 0) (f := 2) (by decide) (by decide)) ?_
      refine Z.iconst B dX11_comer_123 (v := nI 0) rfl ?_
      refine Z.callVI (σ := (zuX σ 44 (fi 6 (fun o => (zY σ (2 + 2 * s + 1) (i + o)).toInt32) (zX σ 44)))) B (M' := mX1_hasRoomFor) (as := [.int (nI 0)]) (st := []) (v := .int (nI 1)) dX11_comer_124 wX1_hasRoomFor iX1_hasRoomFor sX1_hasRoomFor kX11_130 (hl.n (k := 20) (by decide)) (hl.k (k := 20) (by decide)) (by decide) rfl rfl (t_X1_hasRoomFor_0_1 (σ := (zuX σ 44 (fi 6 (fun o => (zY σ (2 + 2 * s + 1) (i + o)).toInt32) (zX σ 44)))) hl hn hn8 ha ha4 hy hy8 h8) rfl rfl (by decide) (by decide) (Nat.le_of_ble_eq_true rfl) (by decide) (by decide) ?_
      refine Z.if_eqN B dX11_comer_127 (tgt := 144) rfl (by omega) (fun h127 => by exfalso; first | omega | contradiction | simp_all) (fun h127 => ?_)
      refine Z.aload_n B dX11_comer_130 (v := .ref 0) rfl rfl ?_
      refine Z.getR (σ := (zuX σ 44 (fi 6 (fun o => (zY σ (2 + 2 * s + 1) (i + o)).toInt32) (zX σ 44)))) B fX11_28_11 dX11_comer_131 (hl.n (k := 0) (by decide)) (hl.k (k := 0) (by decide)) (by decide) (j := 20) (hl.r (k := 0) (f := 2) (by decide) (by decide)) ?_
      refine Z.aload_n B dX11_comer_134 (v := .ref 0) rfl rfl ?_
      refine Z.getR (σ := (zuX σ 44 (fi 6 (fun o => (zY σ (2 + 2 * s + 1) (i + o)).toInt32) (zX σ 44)))) B fX11_48_11 dX11_comer_135 (hl.n (k := 0) (by decide)) (hl.k (k := 0) (by decide)) (by decide) (j := 44) (hl.r (k := 0) (f := 6) (by decide) (by decide)) ?_
      refine Z.callVI (σ := (zuX σ 44 (fi 6 (fun o => (zY σ (2 + 2 * s + 1) (i + o)).toInt32) (zX σ 44)))) B (M' := mX1_addComer) (as := [.ref 44]) (st := []) (v := .int (nI n)) dX11_comer_138 wX1_addComer iX1_addComer sX1_addComer kX11_134 (hl.n (k := 20) (by decide)) (hl.k (k := 20) (by decide)) (by decide) rfl rfl (t_X1_addComer (σ := (zuX σ 44 (fi 6 (fun o => (zY σ (2 + 2 * s + 1) (i + o)).toInt32) (zX σ 44)))) hl hn hn8 ha ha4 hy hy8 h8) rfl rfl (by decide) (by decide) (Nat.le_of_ble_eq_true rfl) (by decide) (by decide) ?_
      refine Z.eqσ (τ := (zuX (zuX (zuX σ 44 (fi 6 (fun o => (zY σ (2 + 2 * s + 1) (i + o)).toInt32) (zX σ 44))) 21 (va_cpy (fi 6 (fun o => (zY σ (2 + 2 * s + 1) (i + o)).toInt32) (zX σ 44)) (zX σ 21) 0 (n * 6) 6)) 20 (upd (zX σ 20) 2 (nI (n + 1))))) rfl ?_
      refine Z.goto B dX11_comer_141 (tgt := 150) rfl ?_
      refine Z.iret B Rt dX11_comer_150 (ty := .int) rfl rfl (by decide) (by decide) ?_
      exact ⟨rfl, rfl⟩
    · skip
      refine Z.aload_n B dX11_comer_55 (v := .ref 0) rfl rfl ?_
      refine Z.getR (σ := (zuX σ 44 (fi z (fun o => (zY σ (2 + 2 * s + 1) (i + o)).toInt32) (zX σ 44)))) B fX11_48_11 dX11_comer_56 (hl.n (k := 0) (by decide)) (hl.k (k := 0) (by decide)) (by decide) (j := 44) (hl.r (k := 0) (f := 6) (by decide) (by decide)) ?_
      refine Z.iload B dX11_comer_59 (x := nI z) rfl ?_
      refine Z.aload_n B dX11_comer_61 (v := .ref (2 + 2 * s)) rfl rfl ?_
      refine Z.iload_n B dX11_comer_62 (x := nI i) rfl ?_
      refine Z.iload B dX11_comer_63 (x := nI z) rfl ?_
      refine Z.iaddN B dX11_comer_65 (a := i) (b := z) ?_
      have hm160 := hh.2.2.2.1
      have hm2 : zX (zuX σ 44 (fi z (fun o => (zY σ (2 + 2 * s + 1) (i + o)).toInt32) (zX σ 44))) (2 + 2 * s) 2 = nI m := by rw [show zX (zuX σ 44 (fi z (fun o => (zY σ (2 + 2 * s + 1) (i + o)).toInt32) (zX σ 44))) (2 + 2 * s) = zX σ (2 + 2 * s) from zfu_ne (by omega)]; exact hh.2.2.1
      refine Z.callVI (σ := (zuX σ 44 (fi z (fun o => (zY σ (2 + 2 * s + 1) (i + o)).toInt32) (zX σ 44)))) B (M' := mX6_intAt) (as := [.int (nI (i + z))]) (st := [.int (nI z), .ref 44]) (v := .int ((fun o => (zY σ (2 + 2 * s + 1) (i + o)).toInt32) z)) dX11_comer_66 wX6_intAt iX6_intAt sX6_intAt kX11_121 (Nat.lt_of_succ_lt hqs.1) hqs.2.1 (by decide) rfl rfl (t_X6_intAt_in (σ := (zuX σ 44 (fi z (fun o => (zY σ (2 + 2 * s + 1) (i + o)).toInt32) (zX σ 44)))) hqs hm2 hm160 (i := i + z) (by omega)) rfl rfl (by decide) (by decide) (Nat.le_of_ble_eq_true rfl) (by decide) (by decide) ?_
      refine Z.iast (σ := (zuX σ 44 (fi z (fun o => (zY σ (2 + 2 * s + 1) (i + o)).toInt32) (zX σ 44)))) B dX11_comer_69 (n := 6) (hl.n (k := 44) (by decide)) (hl.k (k := 44) (by decide)) (hl.l (k := 44) (by decide)) (by decide) (j := z) rfl (by omega) (τ := (zuX σ 44 (fi (z + 1) (fun o => (zY σ (2 + 2 * s + 1) (i + o)).toInt32) (zX σ 44)))) (by rw [zX_self, zuX_uX, fi_s rfl]) ?_
      refine Z.iload B dX11_comer_70 (x := nI 1) rfl ?_
      refine Z.if_eqN B dX11_comer_72 (tgt := 98) rfl (by omega) (fun h72 => by exfalso; first | omega | contradiction | simp_all) (fun h72 => ?_)
      refine Z.aload_n B dX11_comer_75 (v := .ref 0) rfl rfl ?_
      refine Z.getR (σ := (zuX σ 44 (fi (z + 1) (fun o => (zY σ (2 + 2 * s + 1) (i + o)).toInt32) (zX σ 44)))) B fX11_48_11 dX11_comer_76 (hl.n (k := 0) (by decide)) (hl.k (k := 0) (by decide)) (by decide) (j := 44) (hl.r (k := 0) (f := 6) (by decide) (by decide)) ?_
      refine Z.iload B dX11_comer_79 (x := nI z) rfl ?_
      refine Z.iald (σ := (zuX σ 44 (fi (z + 1) (fun o => (zY σ (2 + 2 * s + 1) (i + o)).toInt32) (zX σ 44)))) B dX11_comer_81 (n := 6) (hl.n (k := 44) (by decide)) (hl.k (k := 44) (by decide)) (hl.l (k := 44) (by decide)) (by decide) (j := z) rfl (by omega) (v := ((fun o => (zY σ (2 + 2 * s + 1) (i + o)).toInt32) z)) (by rw [zX_self]; exact fi_at (Nat.lt_succ_self z)) ?_
      refine Z.gets B (x := 0) zKon0 (zT_at 441 (by decide +kernel) rfl) dX11_comer_82 ?_
      refine Z.iload B dX11_comer_85 (x := nI z) rfl ?_
      refine Z.cld B (j := z) zKt0 dX11_comer_87 (by decide) (by omega) (v := nI (mo z)) (mo_A (by omega)) ?_
      have hmo : mo z ≤ 9 := mo_le
      rw [(hd z (by omega)).1]
      refine Z.callSI (σ := (zuX σ 44 (fi (z + 1) (fun o => (zY σ (2 + 2 * s + 1) (i + o)).toInt32) (zX σ 44)))) B (M' := mX11_isUpTo) (as := [.int (nI (d z)), .int (nI (mo z))]) (st := []) (v := .int (nI 1)) dX11_comer_88 wX11_isUpTo iX11_isUpTo kX11_127 (t_X11_isUpTo_in (σ := (zuX σ 44 (fi (z + 1) (fun o => (zY σ (2 + 2 * s + 1) (i + o)).toInt32) (zX σ 44)))) (hd z (by omega)).2 (by omega)) rfl rfl (by decide) (by decide) (Nat.le_of_ble_eq_true rfl) (by decide) (by decide) ?_
      refine Z.if_eqN B dX11_comer_91 (tgt := 98) rfl (by omega) (fun h91 => by exfalso; first | omega | contradiction | simp_all) (fun h91 => ?_)
      refine Z.iconst B dX11_comer_94 (v := nI 1) rfl ?_
      refine Z.goto B dX11_comer_95 (tgt := 99) rfl ?_
      refine Z.istore B dX11_comer_99 (by decide) (L' := [(0, .ref 0), (1, .int (nI s)), (2, .int (nI i)), (3, .ref (2 + 2 * s)), (4, .int (nI 1)), (5, .int (nI z))]) rfl ?_
      refine Z.iincN B dX11_comer_101 (by decide) (a := z) rfl (L' := [(0, .ref 0), (1, .int (nI s)), (2, .int (nI i)), (3, .ref (2 + 2 * s)), (4, .int (nI 1)), (5, .int (nI (z + 1)))]) rfl ?_
      refine Z.goto B dX11_comer_104 (tgt := 48) rfl ?_
      exact ih (z + 1) (by omega) (by omega)
  have h0 := hloop48 0 (Nat.zero_le _)
  rw [fi_0, zuX_id] at h0
  exact h0

theorem t_M_comer_5a {σ : zSt} (hl : Lay σ) {n a y : Nat} (H : zMd σ n a y) {s : Nat} (hs : s < 8) {o m : Nat} (hh : zMr σ s o m) {i : Int32} (hi : i < 0) : Dt mX12_comer [.ref 45, .int (nI s), .int i] σ (some (.int (-5))) (zuX σ 46 (upd (zX σ 46) 5 (zX σ 46 5 + nI 1))) := by
  obtain ⟨-, hn, hn8, ha, ha4, hy, hy8⟩ := id H
  refine Dt.of (by decide) (Nat.le_of_ble_eq_true rfl) fun κ B Rt => ?_
  show Z κ 0 0 σ 0 [(0, .ref 45), (1, .int (nI s)), (2, .int i)] []
  refine Z.aload_n B dX12_comer_0 (v := .ref 45) rfl rfl ?_
  refine Z.iload_n B dX12_comer_1 (x := nI s) rfl ?_
  refine Z.callVI (σ := σ) B (M' := mX12_wants) (as := [.int (nI s)]) (st := []) (v := .int (nI 0)) dX12_comer_2 wX12_wants iX12_wants sX12_wants kX12_111 (hl.n (k := 45) (by decide)) (hl.k (k := 45) (by decide)) (by decide) rfl rfl (t_X12_wants_1 (σ := σ) hl hs hh.1) rfl rfl (by decide) (by decide) (Nat.le_of_ble_eq_true rfl) (by decide) (by decide) ?_
  refine Z.istore_n B dX12_comer_5 (by decide) (L' := [(0, .ref 45), (1, .int (nI s)), (2, .int i), (3, .int (nI 0))]) rfl ?_
  refine Z.iload_n B dX12_comer_6 (x := nI 0) rfl ?_
  refine Z.if_eqN B dX12_comer_7 (tgt := 16) rfl (by omega) (fun h7 => ?_) (fun h7 => by exfalso; first | omega | contradiction | simp_all)
  refine Z.iload_n B dX12_comer_16 (x := i) rfl ?_
  refine Z.if_lt B dX12_comer_17 (tgt := 33) rfl (fun h17 => ?_) (fun h17 => by exfalso; first | omega | contradiction | simp_all)
  refine Z.aload_n B dX12_comer_33 (v := .ref 45) rfl rfl ?_
  refine Z.bipush B dX12_comer_34 (v := (-5)) rfl ?_
  refine Z.callVI (σ := σ) B (M' := mX12_no) (as := [.int (-5)]) (st := []) (v := .int (-5)) dX12_comer_36 wX12_no iX12_no sX12_no kX12_94 (hl.n (k := 45) (by decide)) (hl.k (k := 45) (by decide)) (by decide) rfl rfl (t_X12_no_5 (σ := σ) hl) rfl rfl (by decide) (by decide) (Nat.le_of_ble_eq_true rfl) (by decide) (by decide) ?_
  refine Z.eqσ (τ := (zuX σ 46 (upd (zX σ 46) 5 (zX σ 46 5 + nI 1)))) rfl ?_
  refine Z.iret B Rt dX12_comer_39 (ty := .int) rfl rfl (by decide) (by decide) ?_
  exact ⟨rfl, rfl⟩

theorem t_M_comer_5b {σ : zSt} (hl : Lay σ) {n a y : Nat} (H : zMd σ n a y) {s : Nat} (hs : s < 8) {o m : Nat} (hh : zMr σ s o m) {i : Nat} (h3 : i < 2 ^ 31) (hi : m < i + 6) : Dt mX12_comer [.ref 45, .int (nI s), .int (nI i)] σ (some (.int (-5))) (zuX σ 46 (upd (zX σ 46) 5 (zX σ 46 5 + nI 1))) := by
  obtain ⟨-, hn, hn8, ha, ha4, hy, hy8⟩ := id H
  have hm160 := hh.2.2.2.2
  refine Dt.of (by decide) (Nat.le_of_ble_eq_true rfl) fun κ B Rt => ?_
  show Z κ 0 0 σ 0 [(0, .ref 45), (1, .int (nI s)), (2, .int (nI i))] []
  refine Z.aload_n B dX12_comer_0 (v := .ref 45) rfl rfl ?_
  refine Z.iload_n B dX12_comer_1 (x := nI s) rfl ?_
  refine Z.callVI (σ := σ) B (M' := mX12_wants) (as := [.int (nI s)]) (st := []) (v := .int (nI 0)) dX12_comer_2 wX12_wants iX12_wants sX12_wants kX12_111 (hl.n (k := 45) (by decide)) (hl.k (k := 45) (by decide)) (by decide) rfl rfl (t_X12_wants_1 (σ := σ) hl hs hh.1) rfl rfl (by decide) (by decide) (Nat.le_of_ble_eq_true rfl) (by decide) (by decide) ?_
  refine Z.istore_n B dX12_comer_5 (by decide) (L' := [(0, .ref 45), (1, .int (nI s)), (2, .int (nI i)), (3, .int (nI 0))]) rfl ?_
  refine Z.iload_n B dX12_comer_6 (x := nI 0) rfl ?_
  refine Z.if_eqN B dX12_comer_7 (tgt := 16) rfl (by omega) (fun h7 => ?_) (fun h7 => by exfalso; first | omega | contradiction | simp_all)
  refine Z.iload_n B dX12_comer_16 (x := nI i) rfl ?_
  refine Z.if_ltN B dX12_comer_17 (tgt := 33) rfl (by omega) ?_
  refine Z.iload_n B dX12_comer_20 (x := nI i) rfl ?_
  refine Z.aload_n B dX12_comer_21 (v := .ref 45) rfl rfl ?_
  refine Z.getR (σ := σ) B fX12_47_12 dX12_comer_22 (hl.n (k := 45) (by decide)) (hl.k (k := 45) (by decide)) (by decide) (j := 56) (hl.r (k := 45) (f := 15) (by decide) (by decide)) ?_
  refine Z.iload_n B dX12_comer_25 (x := nI s) rfl ?_
  refine Z.iald (σ := σ) B dX12_comer_26 (n := 8) (hl.n (k := 56) (by decide)) (hl.k (k := 56) (by decide)) (hl.l (k := 56) (by decide)) (by decide) (j := s) rfl (by omega) (v := nI m) hh.2.2.2.1 ?_
  refine Z.bipush B dX12_comer_27 (v := nI 6) rfl ?_
  refine Z.isub B dX12_comer_29 ?_
  refine Z.icmp_le B dX12_comer_30 (tgt := 40) rfl (fun h30 => (by exfalso; rw [zle_iff, zsubI (by omega) (by decide), nI_toInt h3] at h30; omega)) (fun h30 => ?_)
  refine Z.aload_n B dX12_comer_33 (v := .ref 45) rfl rfl ?_
  refine Z.bipush B dX12_comer_34 (v := (-5)) rfl ?_
  refine Z.callVI (σ := σ) B (M' := mX12_no) (as := [.int (-5)]) (st := []) (v := .int (-5)) dX12_comer_36 wX12_no iX12_no sX12_no kX12_94 (hl.n (k := 45) (by decide)) (hl.k (k := 45) (by decide)) (by decide) rfl rfl (t_X12_no_5 (σ := σ) hl) rfl rfl (by decide) (by decide) (Nat.le_of_ble_eq_true rfl) (by decide) (by decide) ?_
  refine Z.eqσ (τ := (zuX σ 46 (upd (zX σ 46) 5 (zX σ 46 5 + nI 1)))) rfl ?_
  refine Z.iret B Rt dX12_comer_39 (ty := .int) rfl rfl (by decide) (by decide) ?_
  exact ⟨rfl, rfl⟩

theorem t_M_comer_6 {σ : zSt} (hl : Lay σ) {n a y : Nat} (H : zMd σ n a y) {s : Nat} (hs : s < 8) {o m : Nat} (hh : zMr σ s o m) {i : Nat} (hi : i + 6 ≤ m) {k0 : Nat} {d : Nat → Nat} (hk0 : k0 < 6) (hd : ∀ z, z < k0 → (fun o => (zY σ 58 (s * 160 + (i + o))).toInt32) z = nI (d z) ∧ d z ≤ mo z) (hb : zOut ((fun o => (zY σ 58 (s * 160 + (i + o))).toInt32) k0) (mo k0 + 1)) : Dt mX12_comer [.ref 45, .int (nI s), .int (nI i)] σ (some (.int (-6))) (zuX σ 46 (upd (zX σ 46) 6 (zX σ 46 6 + nI 1))) := by
  obtain ⟨-, hn, hn8, ha, ha4, hy, hy8⟩ := id H
  have hm160 := hh.2.2.2.2
  refine Dt.of (by decide) (Nat.le_of_ble_eq_true rfl) fun κ B Rt => ?_
  show Z κ 0 0 σ 0 [(0, .ref 45), (1, .int (nI s)), (2, .int (nI i))] []
  refine Z.aload_n B dX12_comer_0 (v := .ref 45) rfl rfl ?_
  refine Z.iload_n B dX12_comer_1 (x := nI s) rfl ?_
  refine Z.callVI (σ := σ) B (M' := mX12_wants) (as := [.int (nI s)]) (st := []) (v := .int (nI 0)) dX12_comer_2 wX12_wants iX12_wants sX12_wants kX12_111 (hl.n (k := 45) (by decide)) (hl.k (k := 45) (by decide)) (by decide) rfl rfl (t_X12_wants_1 (σ := σ) hl hs hh.1) rfl rfl (by decide) (by decide) (Nat.le_of_ble_eq_true rfl) (by decide) (by decide) ?_
  refine Z.istore_n B dX12_comer_5 (by decide) (L' := [(0, .ref 45), (1, .int (nI s)), (2, .int (nI i)), (3, .int (nI 0))]) rfl ?_
  refine Z.iload_n B dX12_comer_6 (x := nI 0) rfl ?_
  refine Z.if_eqN B dX12_comer_7 (tgt := 16) rfl (by omega) (fun h7 => ?_) (fun h7 => by exfalso; first | omega | contradiction | simp_all)
  refine Z.iload_n B dX12_comer_16 (x := nI i) rfl ?_
  refine Z.if_ltN B dX12_comer_17 (tgt := 33) rfl (by omega) ?_
  refine Z.iload_n B dX12_comer_20 (x := nI i) rfl ?_
  refine Z.aload_n B dX12_comer_21 (v := .ref 45) rfl rfl ?_
  refine Z.getR (σ := σ) B fX12_47_12 dX12_comer_22 (hl.n (k := 45) (by decide)) (hl.k (k := 45) (by decide)) (by decide) (j := 56) (hl.r (k := 45) (f := 15) (by decide) (by decide)) ?_
  refine Z.iload_n B dX12_comer_25 (x := nI s) rfl ?_
  refine Z.iald (σ := σ) B dX12_comer_26 (n := 8) (hl.n (k := 56) (by decide)) (hl.k (k := 56) (by decide)) (hl.l (k := 56) (by decide)) (by decide) (j := s) rfl (by omega) (v := nI m) hh.2.2.2.1 ?_
  refine Z.bipush B dX12_comer_27 (v := nI 6) rfl ?_
  refine Z.isubN B dX12_comer_29 (a := m) (b := 6) (by omega) ?_
  refine Z.icmp_leN B dX12_comer_30 (tgt := 40) rfl (by omega) (by omega) (fun h30 => ?_) (fun h30 => by exfalso; first | omega | contradiction | simp_all)
  refine Z.iconst B dX12_comer_40 (v := nI 0) rfl ?_
  refine Z.istore B dX12_comer_41 (by decide) (L' := [(0, .ref 45), (1, .int (nI s)), (2, .int (nI i)), (3, .int (nI 0)), (4, .int (nI 0))]) rfl ?_
  have hloop43 : ∀ z : Nat, z ≤ k0 → Z κ 0 0 σ 43 [(0, .ref 45), (1, .int (nI s)), (2, .int (nI i)), (3, .int (nI 0)), (4, .int (nI z))] [] := by
    refine z_loop (fun z => 6 - z) (fun z ih hz => ?_)
    refine Z.iload B dX12_comer_43 (x := nI z) rfl ?_
    refine Z.bipush B dX12_comer_45 (v := nI 6) rfl ?_
    refine Z.icmp_geN B dX12_comer_47 (tgt := 90) rfl (by omega) (by omega) (fun h47 => by exfalso; first | omega | contradiction | simp_all) (fun h47 => ?_)
    refine Z.aload_n B dX12_comer_50 (v := .ref 45) rfl rfl ?_
    refine Z.iload_n B dX12_comer_51 (x := nI s) rfl ?_
    refine Z.iload_n B dX12_comer_52 (x := nI i) rfl ?_
    refine Z.iload B dX12_comer_53 (x := nI z) rfl ?_
    refine Z.iaddN B dX12_comer_55 (a := i) (b := z) ?_
    refine Z.callVI (σ := σ) B (M' := mX12_intAt) (as := [.int (nI s), .int (nI (i + z))]) (st := []) (v := .int ((fun o => (zY σ 58 (s * 160 + (i + o))).toInt32) z)) dX12_comer_56 wX12_intAt iX12_intAt sX12_intAt kX12_114 (hl.n (k := 45) (by decide)) (hl.k (k := 45) (by decide)) (by decide) rfl rfl (t_X12_intAt (σ := σ) hl hs (i := i + z) (by omega)) rfl rfl (by decide) (by decide) (Nat.le_of_ble_eq_true rfl) (by decide) (by decide) ?_
    rcases (by omega : z < k0 ∨ z = k0) with hlt | hz0
    · skip
      have hmo : mo z ≤ 9 := mo_le
      rw [show (fun o => (zY σ 58 (s * 160 + (i + o))).toInt32) z = nI (d z) from (hd z hlt).1]
      have hdz := (hd z hlt).2
      refine Z.istore B dX12_comer_59 (by decide) (L' := [(0, .ref 45), (1, .int (nI s)), (2, .int (nI i)), (3, .int (nI 0)), (4, .int (nI z)), (5, .int (nI (d z)))]) rfl ?_
      refine Z.iload B dX12_comer_61 (x := nI (d z)) rfl ?_
      refine Z.if_ltN B dX12_comer_63 (tgt := 77) rfl (by omega) ?_
      refine Z.iload B dX12_comer_66 (x := nI (d z)) rfl ?_
      refine Z.aload_n B dX12_comer_68 (v := .ref 45) rfl rfl ?_
      refine Z.iload B dX12_comer_69 (x := nI z) rfl ?_
      refine Z.callVI (σ := σ) B (M' := mX12_top) (as := [.int (nI z)]) (st := [.int (nI (d z))]) (v := .int (nI (mo z))) dX12_comer_71 wX12_top iX12_top sX12_top kX12_118 (hl.n (k := 45) (by decide)) (hl.k (k := 45) (by decide)) (by decide) rfl rfl (t_X12_top (σ := σ) (i := z) (by omega)) rfl rfl (by decide) (by decide) (Nat.le_of_ble_eq_true rfl) (by decide) (by decide) ?_
      refine Z.icmp_leN B dX12_comer_74 (tgt := 84) rfl (by omega) (by omega) (fun h74 => ?_) (fun h74 => by exfalso; first | omega | contradiction | simp_all)
      refine Z.iincN B dX12_comer_84 (by decide) (a := z) rfl (L' := [(0, .ref 45), (1, .int (nI s)), (2, .int (nI i)), (3, .int (nI 0)), (4, .int (nI (z + 1))), (5, .int (nI (d z)))]) rfl ?_
      refine Z.goto B dX12_comer_87 (tgt := 43) rfl ?_
      refine Z.drop 5 (L' := [(0, .ref 45), (1, .int (nI s)), (2, .int (nI i)), (3, .int (nI 0)), (4, .int (nI (z + 1)))]) rfl ?_
      exact ih (z + 1) (by omega) (by omega)
    · skip
      have hmo : mo z ≤ 9 := mo_le
      refine Z.istore B dX12_comer_59 (by decide) (L' := [(0, .ref 45), (1, .int (nI s)), (2, .int (nI i)), (3, .int (nI 0)), (4, .int (nI z)), (5, .int ((fun o => (zY σ 58 (s * 160 + (i + o))).toInt32) z))]) rfl ?_
      refine Z.iload B dX12_comer_61 (x := ((fun o => (zY σ 58 (s * 160 + (i + o))).toInt32) z)) rfl ?_
      refine Z.if_lt B dX12_comer_63 (tgt := 77) rfl (fun h63 => ?_) (fun h63 => ?_)
      · skip
        refine Z.aload_n B dX12_comer_77 (v := .ref 45) rfl rfl ?_
        refine Z.bipush B dX12_comer_78 (v := (-6)) rfl ?_
        refine Z.callVI (σ := σ) B (M' := mX12_no) (as := [.int (-6)]) (st := []) (v := .int (-6)) dX12_comer_80 wX12_no iX12_no sX12_no kX12_94 (hl.n (k := 45) (by decide)) (hl.k (k := 45) (by decide)) (by decide) rfl rfl (t_X12_no_6 (σ := σ) hl) rfl rfl (by decide) (by decide) (Nat.le_of_ble_eq_true rfl) (by decide) (by decide) ?_
        refine Z.eqσ (τ := (zuX σ 46 (upd (zX σ 46) 6 (zX σ 46 6 + nI 1)))) rfl ?_
        refine Z.iret B Rt dX12_comer_83 (ty := .int) rfl rfl (by decide) (by decide) ?_
        exact ⟨rfl, rfl⟩
      · skip
        refine Z.iload B dX12_comer_66 (x := ((fun o => (zY σ 58 (s * 160 + (i + o))).toInt32) z)) rfl ?_
        refine Z.aload_n B dX12_comer_68 (v := .ref 45) rfl rfl ?_
        refine Z.iload B dX12_comer_69 (x := nI z) rfl ?_
        refine Z.callVI (σ := σ) B (M' := mX12_top) (as := [.int (nI z)]) (st := [.int ((fun o => (zY σ 58 (s * 160 + (i + o))).toInt32) z)]) (v := .int (nI (mo z))) dX12_comer_71 wX12_top iX12_top sX12_top kX12_118 (hl.n (k := 45) (by decide)) (hl.k (k := 45) (by decide)) (by decide) rfl rfl (t_X12_top (σ := σ) (i := z) (by omega)) rfl rfl (by decide) (by decide) (Nat.le_of_ble_eq_true rfl) (by decide) (by decide) ?_
        refine Z.icmp_le B dX12_comer_74 (tgt := 84) rfl (fun h74 => (zo_le (k := mo z) (by rw [hz0]; exact hb) h63 h74 (by omega)).elim) (fun h74 => ?_)
        refine Z.aload_n B dX12_comer_77 (v := .ref 45) rfl rfl ?_
        refine Z.bipush B dX12_comer_78 (v := (-6)) rfl ?_
        refine Z.callVI (σ := σ) B (M' := mX12_no) (as := [.int (-6)]) (st := []) (v := .int (-6)) dX12_comer_80 wX12_no iX12_no sX12_no kX12_94 (hl.n (k := 45) (by decide)) (hl.k (k := 45) (by decide)) (by decide) rfl rfl (t_X12_no_6 (σ := σ) hl) rfl rfl (by decide) (by decide) (Nat.le_of_ble_eq_true rfl) (by decide) (by decide) ?_
        refine Z.eqσ (τ := (zuX σ 46 (upd (zX σ 46) 6 (zX σ 46 6 + nI 1)))) rfl ?_
        refine Z.iret B Rt dX12_comer_83 (ty := .int) rfl rfl (by decide) (by decide) ?_
        exact ⟨rfl, rfl⟩
  exact hloop43 0 (Nat.zero_le _)

theorem t_M_comer_7 {σ : zSt} (hl : Lay σ) {n a y : Nat} (H : zMd σ n a y) {s : Nat} (hs : s < 8) {o m : Nat} (hh : zMr σ s o m) {i : Nat} (hi : i + 6 ≤ m) {d : Nat → Nat} (hd : ∀ z, z < 6 → (fun o => (zY σ 58 (s * 160 + (i + o))).toInt32) z = nI (d z) ∧ d z ≤ mo z) (h8 : n = 8) : Dt mX12_comer [.ref 45, .int (nI s), .int (nI i)] σ (some (.int (-7))) (zuX σ 46 (upd (zX σ 46) 7 (zX σ 46 7 + nI 1))) := by
  obtain ⟨-, hn, hn8, ha, ha4, hy, hy8⟩ := id H
  have hm160 := hh.2.2.2.2
  refine Dt.of (by decide) (Nat.le_of_ble_eq_true rfl) fun κ B Rt => ?_
  show Z κ 0 0 σ 0 [(0, .ref 45), (1, .int (nI s)), (2, .int (nI i))] []
  refine Z.aload_n B dX12_comer_0 (v := .ref 45) rfl rfl ?_
  refine Z.iload_n B dX12_comer_1 (x := nI s) rfl ?_
  refine Z.callVI (σ := σ) B (M' := mX12_wants) (as := [.int (nI s)]) (st := []) (v := .int (nI 0)) dX12_comer_2 wX12_wants iX12_wants sX12_wants kX12_111 (hl.n (k := 45) (by decide)) (hl.k (k := 45) (by decide)) (by decide) rfl rfl (t_X12_wants_1 (σ := σ) hl hs hh.1) rfl rfl (by decide) (by decide) (Nat.le_of_ble_eq_true rfl) (by decide) (by decide) ?_
  refine Z.istore_n B dX12_comer_5 (by decide) (L' := [(0, .ref 45), (1, .int (nI s)), (2, .int (nI i)), (3, .int (nI 0))]) rfl ?_
  refine Z.iload_n B dX12_comer_6 (x := nI 0) rfl ?_
  refine Z.if_eqN B dX12_comer_7 (tgt := 16) rfl (by omega) (fun h7 => ?_) (fun h7 => by exfalso; first | omega | contradiction | simp_all)
  refine Z.iload_n B dX12_comer_16 (x := nI i) rfl ?_
  refine Z.if_ltN B dX12_comer_17 (tgt := 33) rfl (by omega) ?_
  refine Z.iload_n B dX12_comer_20 (x := nI i) rfl ?_
  refine Z.aload_n B dX12_comer_21 (v := .ref 45) rfl rfl ?_
  refine Z.getR (σ := σ) B fX12_47_12 dX12_comer_22 (hl.n (k := 45) (by decide)) (hl.k (k := 45) (by decide)) (by decide) (j := 56) (hl.r (k := 45) (f := 15) (by decide) (by decide)) ?_
  refine Z.iload_n B dX12_comer_25 (x := nI s) rfl ?_
  refine Z.iald (σ := σ) B dX12_comer_26 (n := 8) (hl.n (k := 56) (by decide)) (hl.k (k := 56) (by decide)) (hl.l (k := 56) (by decide)) (by decide) (j := s) rfl (by omega) (v := nI m) hh.2.2.2.1 ?_
  refine Z.bipush B dX12_comer_27 (v := nI 6) rfl ?_
  refine Z.isubN B dX12_comer_29 (a := m) (b := 6) (by omega) ?_
  refine Z.icmp_leN B dX12_comer_30 (tgt := 40) rfl (by omega) (by omega) (fun h30 => ?_) (fun h30 => by exfalso; first | omega | contradiction | simp_all)
  refine Z.iconst B dX12_comer_40 (v := nI 0) rfl ?_
  refine Z.istore B dX12_comer_41 (by decide) (L' := [(0, .ref 45), (1, .int (nI s)), (2, .int (nI i)), (3, .int (nI 0)), (4, .int (nI 0))]) rfl ?_
  have hloop43 : ∀ z : Nat, z ≤ 6 → Z κ 0 0 σ 43 [(0, .ref 45), (1, .int (nI s)), (2, .int (nI i)), (3, .int (nI 0)), (4, .int (nI z))] [] := by
    refine z_loop (fun z => 6 - z) (fun z ih hz => ?_)
    refine Z.iload B dX12_comer_43 (x := nI z) rfl ?_
    refine Z.bipush B dX12_comer_45 (v := nI 6) rfl ?_
    refine Z.icmp_geN B dX12_comer_47 (tgt := 90) rfl (by omega) (by omega) (fun h47 => ?_) (fun h47 => ?_)
    · skip
      obtain rfl : 6 = z := by omega
      refine Z.aload_n B dX12_comer_90 (v := .ref 45) rfl rfl ?_
      refine Z.getI (σ := σ) B fX12_81_12 dX12_comer_91 (hl.n (k := 45) (by decide)) (hl.k (k := 45) (by decide)) (by decide) (v := nI n) hn ?_
      refine Z.bipush B dX12_comer_94 (v := nI 8) rfl ?_
      refine Z.icmp_neN B dX12_comer_96 (tgt := 106) rfl (by omega) (by omega) (fun h96 => by exfalso; first | omega | contradiction | simp_all) (fun h96 => ?_)
      refine Z.aload_n B dX12_comer_99 (v := .ref 45) rfl rfl ?_
      refine Z.bipush B dX12_comer_100 (v := (-7)) rfl ?_
      refine Z.callVI (σ := σ) B (M' := mX12_no) (as := [.int (-7)]) (st := []) (v := .int (-7)) dX12_comer_102 wX12_no iX12_no sX12_no kX12_94 (hl.n (k := 45) (by decide)) (hl.k (k := 45) (by decide)) (by decide) rfl rfl (t_X12_no_7 (σ := σ) hl) rfl rfl (by decide) (by decide) (Nat.le_of_ble_eq_true rfl) (by decide) (by decide) ?_
      refine Z.eqσ (τ := (zuX σ 46 (upd (zX σ 46) 7 (zX σ 46 7 + nI 1)))) rfl ?_
      refine Z.iret B Rt dX12_comer_105 (ty := .int) rfl rfl (by decide) (by decide) ?_
      exact ⟨rfl, rfl⟩
    · skip
      refine Z.aload_n B dX12_comer_50 (v := .ref 45) rfl rfl ?_
      refine Z.iload_n B dX12_comer_51 (x := nI s) rfl ?_
      refine Z.iload_n B dX12_comer_52 (x := nI i) rfl ?_
      refine Z.iload B dX12_comer_53 (x := nI z) rfl ?_
      refine Z.iaddN B dX12_comer_55 (a := i) (b := z) ?_
      refine Z.callVI (σ := σ) B (M' := mX12_intAt) (as := [.int (nI s), .int (nI (i + z))]) (st := []) (v := .int ((fun o => (zY σ 58 (s * 160 + (i + o))).toInt32) z)) dX12_comer_56 wX12_intAt iX12_intAt sX12_intAt kX12_114 (hl.n (k := 45) (by decide)) (hl.k (k := 45) (by decide)) (by decide) rfl rfl (t_X12_intAt (σ := σ) hl hs (i := i + z) (by omega)) rfl rfl (by decide) (by decide) (Nat.le_of_ble_eq_true rfl) (by decide) (by decide) ?_
      have hmo : mo z ≤ 9 := mo_le
      rw [show (fun o => (zY σ 58 (s * 160 + (i + o))).toInt32) z = nI (d z) from (hd z (by omega)).1]
      have hdz := (hd z (by omega)).2
      refine Z.istore B dX12_comer_59 (by decide) (L' := [(0, .ref 45), (1, .int (nI s)), (2, .int (nI i)), (3, .int (nI 0)), (4, .int (nI z)), (5, .int (nI (d z)))]) rfl ?_
      refine Z.iload B dX12_comer_61 (x := nI (d z)) rfl ?_
      refine Z.if_ltN B dX12_comer_63 (tgt := 77) rfl (by omega) ?_
      refine Z.iload B dX12_comer_66 (x := nI (d z)) rfl ?_
      refine Z.aload_n B dX12_comer_68 (v := .ref 45) rfl rfl ?_
      refine Z.iload B dX12_comer_69 (x := nI z) rfl ?_
      refine Z.callVI (σ := σ) B (M' := mX12_top) (as := [.int (nI z)]) (st := [.int (nI (d z))]) (v := .int (nI (mo z))) dX12_comer_71 wX12_top iX12_top sX12_top kX12_118 (hl.n (k := 45) (by decide)) (hl.k (k := 45) (by decide)) (by decide) rfl rfl (t_X12_top (σ := σ) (i := z) (by omega)) rfl rfl (by decide) (by decide) (Nat.le_of_ble_eq_true rfl) (by decide) (by decide) ?_
      refine Z.icmp_leN B dX12_comer_74 (tgt := 84) rfl (by omega) (by omega) (fun h74 => ?_) (fun h74 => by exfalso; first | omega | contradiction | simp_all)
      refine Z.iincN B dX12_comer_84 (by decide) (a := z) rfl (L' := [(0, .ref 45), (1, .int (nI s)), (2, .int (nI i)), (3, .int (nI 0)), (4, .int (nI (z + 1))), (5, .int (nI (d z)))]) rfl ?_
      refine Z.goto B dX12_comer_87 (tgt := 43) rfl ?_
      refine Z.drop 5 (L' := [(0, .ref 45), (1, .int (nI s)), (2, .int (nI i)), (3, .int (nI 0)), (4, .int (nI (z + 1)))]) rfl ?_
      exact ih (z + 1) (by omega) (by omega)
  exact hloop43 0 (Nat.zero_le _)

theorem t_M_comer_0 {σ : zSt} (hl : Lay σ) {n a y : Nat} (H : zMd σ n a y) {s : Nat} (hs : s < 8) {o m : Nat} (hh : zMr σ s o m) {i : Nat} (hi : i + 6 ≤ m) {d : Nat → Nat} (hd : ∀ z, z < 6 → (fun o => (zY σ 58 (s * 160 + (i + o))).toInt32) z = nI (d z) ∧ d z ≤ mo z) (h8 : n < 8) : Dt mX12_comer [.ref 45, .int (nI s), .int (nI i)] σ (some (.int (nI n))) (zuX (zuX σ 47 (va_cpy (fun o => (zY σ 58 (s * 160 + (i + o))).toInt32) (zX σ 47) 0 (n * 6) 6)) 45 (upd (zX σ 45) 0 (nI (n + 1)))) := by
  obtain ⟨-, hn, hn8, ha, ha4, hy, hy8⟩ := id H
  have hm160 := hh.2.2.2.2
  refine Dt.of (by decide) (Nat.le_of_ble_eq_true rfl) fun κ B Rt => ?_
  show Z κ 0 0 σ 0 [(0, .ref 45), (1, .int (nI s)), (2, .int (nI i))] []
  refine Z.aload_n B dX12_comer_0 (v := .ref 45) rfl rfl ?_
  refine Z.iload_n B dX12_comer_1 (x := nI s) rfl ?_
  refine Z.callVI (σ := σ) B (M' := mX12_wants) (as := [.int (nI s)]) (st := []) (v := .int (nI 0)) dX12_comer_2 wX12_wants iX12_wants sX12_wants kX12_111 (hl.n (k := 45) (by decide)) (hl.k (k := 45) (by decide)) (by decide) rfl rfl (t_X12_wants_1 (σ := σ) hl hs hh.1) rfl rfl (by decide) (by decide) (Nat.le_of_ble_eq_true rfl) (by decide) (by decide) ?_
  refine Z.istore_n B dX12_comer_5 (by decide) (L' := [(0, .ref 45), (1, .int (nI s)), (2, .int (nI i)), (3, .int (nI 0))]) rfl ?_
  refine Z.iload_n B dX12_comer_6 (x := nI 0) rfl ?_
  refine Z.if_eqN B dX12_comer_7 (tgt := 16) rfl (by omega) (fun h7 => ?_) (fun h7 => by exfalso; first | omega | contradiction | simp_all)
  refine Z.iload_n B dX12_comer_16 (x := nI i) rfl ?_
  refine Z.if_ltN B dX12_comer_17 (tgt := 33) rfl (by omega) ?_
  refine Z.iload_n B dX12_comer_20 (x := nI i) rfl ?_
  refine Z.aload_n B dX12_comer_21 (v := .ref 45) rfl rfl ?_
  refine Z.getR (σ := σ) B fX12_47_12 dX12_comer_22 (hl.n (k := 45) (by decide)) (hl.k (k := 45) (by decide)) (by decide) (j := 56) (hl.r (k := 45) (f := 15) (by decide) (by decide)) ?_
  refine Z.iload_n B dX12_comer_25 (x := nI s) rfl ?_
  refine Z.iald (σ := σ) B dX12_comer_26 (n := 8) (hl.n (k := 56) (by decide)) (hl.k (k := 56) (by decide)) (hl.l (k := 56) (by decide)) (by decide) (j := s) rfl (by omega) (v := nI m) hh.2.2.2.1 ?_
  refine Z.bipush B dX12_comer_27 (v := nI 6) rfl ?_
  refine Z.isubN B dX12_comer_29 (a := m) (b := 6) (by omega) ?_
  refine Z.icmp_leN B dX12_comer_30 (tgt := 40) rfl (by omega) (by omega) (fun h30 => ?_) (fun h30 => by exfalso; first | omega | contradiction | simp_all)
  refine Z.iconst B dX12_comer_40 (v := nI 0) rfl ?_
  refine Z.istore B dX12_comer_41 (by decide) (L' := [(0, .ref 45), (1, .int (nI s)), (2, .int (nI i)), (3, .int (nI 0)), (4, .int (nI 0))]) rfl ?_
  have hloop43 : ∀ z : Nat, z ≤ 6 → Z κ 0 0 σ 43 [(0, .ref 45), (1, .int (nI s)), (2, .int (nI i)), (3, .int (nI 0)), (4, .int (nI z))] [] := by
    refine z_loop (fun z => 6 - z) (fun z ih hz => ?_)
    refine Z.iload B dX12_comer_43 (x := nI z) rfl ?_
    refine Z.bipush B dX12_comer_45 (v := nI 6) rfl ?_
    refine Z.icmp_geN B dX12_comer_47 (tgt := 90) rfl (by omega) (by omega) (fun h47 => ?_) (fun h47 => ?_)
    · skip
      obtain rfl : 6 = z := by omega
      refine Z.aload_n B dX12_comer_90 (v := .ref 45) rfl rfl ?_
      refine Z.getI (σ := σ) B fX12_81_12 dX12_comer_91 (hl.n (k := 45) (by decide)) (hl.k (k := 45) (by decide)) (by decide) (v := nI n) hn ?_
      refine Z.bipush B dX12_comer_94 (v := nI 8) rfl ?_
      refine Z.icmp_neN B dX12_comer_96 (tgt := 106) rfl (by omega) (by omega) (fun h96 => ?_) (fun h96 => by exfalso; first | omega | contradiction | simp_all)
      refine Z.iconst B dX12_comer_106 (v := nI 0) rfl ?_
      refine Z.istore B dX12_comer_107 (by decide) (L' := [(0, .ref 45), (1, .int (nI s)), (2, .int (nI i)), (3, .int (nI 0)), (4, .int (nI 0))]) rfl ?_
      have hloop109 : ∀ z : Nat, z ≤ 6 → Z κ 0 0 (zuX σ 47 (va_cpy (fun o => (zY σ 58 (s * 160 + (i + o))).toInt32) (zX σ 47) 0 (n * 6) z)) 109 [(0, .ref 45), (1, .int (nI s)), (2, .int (nI i)), (3, .int (nI 0)), (4, .int (nI z))] [] := by
        refine z_loop (fun z => 6 - z) (fun z ihz hz2 => ?_)
        refine Z.iload B dX12_comer_109 (x := nI z) rfl ?_
        refine Z.bipush B dX12_comer_111 (v := nI 6) rfl ?_
        refine Z.icmp_geN B dX12_comer_113 (tgt := 146) rfl (by omega) (by omega) (fun h113 => ?_) (fun h113 => ?_)
        · skip
          obtain rfl : 6 = z := by omega
          refine Z.aload_n B dX12_comer_146 (v := .ref 45) rfl rfl ?_
          refine Z.dup B dX12_comer_147 rfl ?_
          refine Z.getI (σ := (zuX σ 47 (va_cpy (fun o => (zY σ 58 (s * 160 + (i + o))).toInt32) (zX σ 47) 0 (n * 6) 6))) B fX12_81_12 dX12_comer_148 (hl.n (k := 45) (by decide)) (hl.k (k := 45) (by decide)) (by decide) (v := nI n) hn ?_
          refine Z.dup_x1 B dX12_comer_151 rfl rfl ?_
          refine Z.iconst B dX12_comer_152 (v := nI 1) rfl ?_
          refine Z.iaddN B dX12_comer_153 (a := n) (b := 1) ?_
          refine Z.putI (σ := (zuX σ 47 (va_cpy (fun o => (zY σ 58 (s * 160 + (i + o))).toInt32) (zX σ 47) 0 (n * 6) 6))) B fX12_81_12 (ty := .int) ⟨_, _, _, rfl, rfl, by decide +kernel⟩ dX12_comer_154 (hl.n (k := 45) (by decide)) (hl.k (k := 45) (by decide)) (by decide) rfl rfl (τ := (zuX (zuX σ 47 (va_cpy (fun o => (zY σ 58 (s * 160 + (i + o))).toInt32) (zX σ 47) 0 (n * 6) 6)) 45 (upd (zX σ 45) 0 (nI (n + 1))))) rfl ?_
          refine Z.iret B Rt dX12_comer_157 (ty := .int) rfl rfl (by decide) (by decide) ?_
          exact ⟨rfl, rfl⟩
        · skip
          refine Z.aload_n B dX12_comer_116 (v := .ref 45) rfl rfl ?_
          refine Z.getR (σ := (zuX σ 47 (va_cpy (fun o => (zY σ 58 (s * 160 + (i + o))).toInt32) (zX σ 47) 0 (n * 6) z))) B fX12_20_12 dX12_comer_117 (hl.n (k := 45) (by decide)) (hl.k (k := 45) (by decide)) (by decide) (j := 47) (hl.r (k := 45) (f := 6) (by decide) (by decide)) ?_
          refine Z.bipush B dX12_comer_120 (v := nI 6) rfl ?_
          refine Z.aload_n B dX12_comer_122 (v := .ref 45) rfl rfl ?_
          refine Z.getI (σ := (zuX σ 47 (va_cpy (fun o => (zY σ 58 (s * 160 + (i + o))).toInt32) (zX σ 47) 0 (n * 6) z))) B fX12_81_12 dX12_comer_123 (hl.n (k := 45) (by decide)) (hl.k (k := 45) (by decide)) (by decide) (v := nI n) hn ?_
          refine Z.imulNc B dX12_comer_126 (a := 6) (b := n) ?_
          refine Z.iload B dX12_comer_127 (x := nI z) rfl ?_
          refine Z.iaddN B dX12_comer_129 (a := n * 6) (b := z) ?_
          refine Z.aload_n B dX12_comer_130 (v := .ref 45) rfl rfl ?_
          refine Z.iload_n B dX12_comer_131 (x := nI s) rfl ?_
          refine Z.iload_n B dX12_comer_132 (x := nI i) rfl ?_
          refine Z.iload B dX12_comer_133 (x := nI z) rfl ?_
          refine Z.iaddN B dX12_comer_135 (a := i) (b := z) ?_
          refine Z.callVI (σ := (zuX σ 47 (va_cpy (fun o => (zY σ 58 (s * 160 + (i + o))).toInt32) (zX σ 47) 0 (n * 6) z))) B (M' := mX12_intAt) (as := [.int (nI s), .int (nI (i + z))]) (st := [.int (nI ((n * 6) + z)), .ref 47]) (v := .int ((fun o => (zY σ 58 (s * 160 + (i + o))).toInt32) z)) dX12_comer_136 wX12_intAt iX12_intAt sX12_intAt kX12_114 (hl.n (k := 45) (by decide)) (hl.k (k := 45) (by decide)) (by decide) rfl rfl (t_X12_intAt (σ := (zuX σ 47 (va_cpy (fun o => (zY σ 58 (s * 160 + (i + o))).toInt32) (zX σ 47) 0 (n * 6) z))) hl hs (i := i + z) (by omega)) rfl rfl (by decide) (by decide) (Nat.le_of_ble_eq_true rfl) (by decide) (by decide) ?_
          refine Z.iast (σ := (zuX σ 47 (va_cpy (fun o => (zY σ 58 (s * 160 + (i + o))).toInt32) (zX σ 47) 0 (n * 6) z))) B dX12_comer_139 (n := 48) (hl.n (k := 47) (by decide)) (hl.k (k := 47) (by decide)) (hl.l (k := 47) (by decide)) (by decide) (j := (n * 6) + z) rfl (by omega) (τ := (zuX σ 47 (va_cpy (fun o => (zY σ 58 (s * 160 + (i + o))).toInt32) (zX σ 47) 0 (n * 6) (z + 1)))) (by rw [zX_self, zuX_uX, cpy_s (by rw [Nat.zero_add])]) ?_
          refine Z.iincN B dX12_comer_140 (by decide) (a := z) rfl (L' := [(0, .ref 45), (1, .int (nI s)), (2, .int (nI i)), (3, .int (nI 0)), (4, .int (nI (z + 1)))]) rfl ?_
          refine Z.goto B dX12_comer_143 (tgt := 109) rfl ?_
          exact ihz (z + 1) (by omega) (by omega)
      have h1 := hloop109 0 (Nat.zero_le _)
      rw [cpy_0, zuX_id] at h1
      exact h1
    · skip
      refine Z.aload_n B dX12_comer_50 (v := .ref 45) rfl rfl ?_
      refine Z.iload_n B dX12_comer_51 (x := nI s) rfl ?_
      refine Z.iload_n B dX12_comer_52 (x := nI i) rfl ?_
      refine Z.iload B dX12_comer_53 (x := nI z) rfl ?_
      refine Z.iaddN B dX12_comer_55 (a := i) (b := z) ?_
      refine Z.callVI (σ := σ) B (M' := mX12_intAt) (as := [.int (nI s), .int (nI (i + z))]) (st := []) (v := .int ((fun o => (zY σ 58 (s * 160 + (i + o))).toInt32) z)) dX12_comer_56 wX12_intAt iX12_intAt sX12_intAt kX12_114 (hl.n (k := 45) (by decide)) (hl.k (k := 45) (by decide)) (by decide) rfl rfl (t_X12_intAt (σ := σ) hl hs (i := i + z) (by omega)) rfl rfl (by decide) (by decide) (Nat.le_of_ble_eq_true rfl) (by decide) (by decide) ?_
      have hmo : mo z ≤ 9 := mo_le
      rw [show (fun o => (zY σ 58 (s * 160 + (i + o))).toInt32) z = nI (d z) from (hd z (by omega)).1]
      have hdz := (hd z (by omega)).2
      refine Z.istore B dX12_comer_59 (by decide) (L' := [(0, .ref 45), (1, .int (nI s)), (2, .int (nI i)), (3, .int (nI 0)), (4, .int (nI z)), (5, .int (nI (d z)))]) rfl ?_
      refine Z.iload B dX12_comer_61 (x := nI (d z)) rfl ?_
      refine Z.if_ltN B dX12_comer_63 (tgt := 77) rfl (by omega) ?_
      refine Z.iload B dX12_comer_66 (x := nI (d z)) rfl ?_
      refine Z.aload_n B dX12_comer_68 (v := .ref 45) rfl rfl ?_
      refine Z.iload B dX12_comer_69 (x := nI z) rfl ?_
      refine Z.callVI (σ := σ) B (M' := mX12_top) (as := [.int (nI z)]) (st := [.int (nI (d z))]) (v := .int (nI (mo z))) dX12_comer_71 wX12_top iX12_top sX12_top kX12_118 (hl.n (k := 45) (by decide)) (hl.k (k := 45) (by decide)) (by decide) rfl rfl (t_X12_top (σ := σ) (i := z) (by omega)) rfl rfl (by decide) (by decide) (Nat.le_of_ble_eq_true rfl) (by decide) (by decide) ?_
      refine Z.icmp_leN B dX12_comer_74 (tgt := 84) rfl (by omega) (by omega) (fun h74 => ?_) (fun h74 => by exfalso; first | omega | contradiction | simp_all)
      refine Z.iincN B dX12_comer_84 (by decide) (a := z) rfl (L' := [(0, .ref 45), (1, .int (nI s)), (2, .int (nI i)), (3, .int (nI 0)), (4, .int (nI (z + 1))), (5, .int (nI (d z)))]) rfl ?_
      refine Z.goto B dX12_comer_87 (tgt := 43) rfl ?_
      refine Z.drop 5 (L' := [(0, .ref 45), (1, .int (nI s)), (2, .int (nI i)), (3, .int (nI 0)), (4, .int (nI (z + 1)))]) rfl ?_
      exact ih (z + 1) (by omega) (by omega)
  exact hloop43 0 (Nat.zero_le _)
