/-! an item of a text read: the class -/

theorem t_X2_item_a {σ : zSt} {r : Nat → Int32} (hl : Lay σ) {q : Nat} {T : Nat → Int32} (ht : zTx σ q T) (hq : q < 34) {a : Nat} (ha : a < 2 ^ 29) {n ac y : Nat} (hn : zX σ 35 2 = nI n) (hn8 : n ≤ 8) (hac : zX σ 35 5 = nI ac) (hac4 : ac ≤ 4) (hy : zX σ 35 7 = nI y) (hy8 : y ≤ 8) (h0 : ¬ al T a 0 = 5) (h1 : ¬ al T a 1 = 5) (h2 : ¬ al T a 2 = 3) (h3 : ¬ al T a 3 = 5)  : Dt mX2_readItem [.ref 34, .ref q] (tS σ a (-1) r) (none) (tS σ a (nI (a + far T a)) r) := by
  refine Dt.ofN (by decide) (Nat.le_of_ble_eq_true rfl) fun κ B Rt hn0 => ?_
  show Z κ 0 0 (tS σ a (-1) r) 0 [(0, .ref 34), (1, .ref q)] []
  refine Z.aload_n B dX2_readItem_0 (v := .ref 34) rfl rfl ?_
  refine Z.getI (σ := (tS σ a (-1) r)) B fX2_19_2 dX2_readItem_1 (hl.n (k := 34) (by decide)) (hl.k (k := 34) (by decide)) (by decide) (v := nI a) tS_a ?_
  refine Z.istore_n B dX2_readItem_4 (by decide) (L' := [(0, .ref 34), (1, .ref q), (2, .int (nI a))]) rfl ?_
  refine Z.aload_n B dX2_readItem_5 (v := .ref 34) rfl rfl ?_
  refine Z.aload_n B dX2_readItem_6 (v := .ref q) rfl rfl ?_
  refine Z.callVI (σ := (tS σ a (-1) r)) B (M' := mX2_readWord) (as := [.ref q]) (st := []) (v := .int (-1)) dX2_readItem_7 wX2_readWord iX2_readWord sX2_readWord kX2_46 (hl.n (k := 34) (by decide)) (hl.k (k := 34) (by decide)) (by decide) rfl rfl (t_X2_readWord_4 (σ := σ) (f := -1) (r := r) hl ht hq (by omega) h0 h1 h2 h3) rfl rfl (by decide) (by decide) (Nat.le_of_ble_eq_true rfl) (by decide) (by decide) ?_
  refine Z.istore_n B dX2_readItem_10 (by decide) (L' := [(0, .ref 34), (1, .ref q), (2, .int (nI a)), (3, .int (-1))]) rfl ?_
  refine Z.iload_n B dX2_readItem_11 (x := (-1)) rfl ?_
  refine Z.iconst B dX2_readItem_12 (v := (-1)) rfl ?_
  refine Z.icmp_ne B dX2_readItem_13 (tgt := 17) rfl (fun h13 => absurd rfl h13) (fun h13 => ?_)
  refine Z.vret B Rt dX2_readItem_16 rfl (by decide) (by decide) ?_
  exact ⟨rfl, rfl⟩

theorem t_X2_item_b0 {σ : zSt} {r : Nat → Int32} (hl : Lay σ) {q : Nat} {T : Nat → Int32} (ht : zTx σ q T) (hq : q < 34) {a : Nat} (ha : a < 2 ^ 29) {n ac y : Nat} (hn : zX σ 35 2 = nI n) (hn8 : n ≤ 8) (hac : zX σ 35 5 = nI ac) (hac4 : ac ≤ 4) (hy : zX σ 35 7 = nI y) (hy8 : y ≤ 8) (h0 : al T a 0 = 5) (hr : n = 8) : Dt mX2_readItem [.ref 34, .ref q] (tS σ a (-1) r) (none) (tS σ (a + 5) (nI a) r) := by
  refine Dt.ofN (by decide) (Nat.le_of_ble_eq_true rfl) fun κ B Rt hn0 => ?_
  show Z κ 0 0 (tS σ a (-1) r) 0 [(0, .ref 34), (1, .ref q)] []
  refine Z.aload_n B dX2_readItem_0 (v := .ref 34) rfl rfl ?_
  refine Z.getI (σ := (tS σ a (-1) r)) B fX2_19_2 dX2_readItem_1 (hl.n (k := 34) (by decide)) (hl.k (k := 34) (by decide)) (by decide) (v := nI a) tS_a ?_
  refine Z.istore_n B dX2_readItem_4 (by decide) (L' := [(0, .ref 34), (1, .ref q), (2, .int (nI a))]) rfl ?_
  refine Z.aload_n B dX2_readItem_5 (v := .ref 34) rfl rfl ?_
  refine Z.aload_n B dX2_readItem_6 (v := .ref q) rfl rfl ?_
  refine Z.callVI (σ := (tS σ a (-1) r)) B (M' := mX2_readWord) (as := [.ref q]) (st := []) (v := .int (nI 0)) dX2_readItem_7 wX2_readWord iX2_readWord sX2_readWord kX2_46 (hl.n (k := 34) (by decide)) (hl.k (k := 34) (by decide)) (by decide) rfl rfl (t_X2_readWord_0 (σ := σ) (f := -1) (r := r) hl ht hq (by omega) h0) rfl rfl (by decide) (by decide) (Nat.le_of_ble_eq_true rfl) (by decide) (by decide) ?_
  refine Z.istore_n B dX2_readItem_10 (by decide) (L' := [(0, .ref 34), (1, .ref q), (2, .int (nI a)), (3, .int (nI 0))]) rfl ?_
  refine Z.iload_n B dX2_readItem_11 (x := nI 0) rfl ?_
  refine Z.iconst B dX2_readItem_12 (v := (-1)) rfl ?_
  refine Z.icmp_ne B dX2_readItem_13 (tgt := 17) rfl (fun h13 => ?_) (fun h13 => (zm1 (by omega) h13).elim)
  refine Z.aload_n B dX2_readItem_17 (v := .ref 34) rfl rfl ?_
  refine Z.getR (σ := (tS σ (a + 5) (-1) r)) B fX2_9_2 dX2_readItem_18 (hl.n (k := 34) (by decide)) (hl.k (k := 34) (by decide)) (by decide) (j := 35) (hl.r (k := 34) (f := 0) (by decide) (by decide)) ?_
  refine Z.iload_n B dX2_readItem_21 (x := nI 0) rfl ?_
  refine Z.callVI (σ := (tS σ (a + 5) (-1) r)) B (M' := mX1_hasRoomFor) (as := [.int (nI 0)]) (st := []) (v := .int (nI 0)) dX2_readItem_22 wX1_hasRoomFor iX1_hasRoomFor sX1_hasRoomFor kX2_50 (hl.n (k := 35) (by decide)) (hl.k (k := 35) (by decide)) (by decide) rfl rfl (t_X1_hasRoomFor_d_0_0 (σ := (tS σ (a + 5) (-1) r)) hl (by rw [tS_o (by decide) (by decide)]; exact hn) hn8 (by rw [tS_o (by decide) (by decide)]; exact hac) hac4 (by rw [tS_o (by decide) (by decide)]; exact hy) hy8 hr) rfl rfl (by decide) (by decide) (Nat.le_of_ble_eq_true rfl) (by decide) (by decide) ?_
  refine Z.if_neN B dX2_readItem_25 (tgt := 34) rfl (by omega) (fun h25 => by exfalso; first | omega | contradiction | simp_all) (fun h25 => ?_)
  refine Z.aload_n B dX2_readItem_28 (v := .ref 34) rfl rfl ?_
  refine Z.iload_n B dX2_readItem_29 (x := nI a) rfl ?_
  refine Z.putI (σ := (tS σ (a + 5) (-1) r)) B fX2_23_2 (ty := .int) ⟨_, _, _, rfl, rfl, by decide +kernel⟩ dX2_readItem_30 (hl.n (k := 34) (by decide)) (hl.k (k := 34) (by decide)) (by decide) rfl rfl (τ := (zuX (tS σ (a + 5) (-1) r) 34 (upd (zX (tS σ (a + 5) (-1) r) 34) 3 (nI a)))) rfl ?_
  refine Z.vret B Rt dX2_readItem_33 rfl (by decide) (by decide) ?_
  exact ⟨rfl, tS_uf⟩

theorem t_X2_item_c0 {σ : zSt} {r : Nat → Int32} (hl : Lay σ) {q : Nat} {T : Nat → Int32} (ht : zTx σ q T) (hq : q < 34) {a : Nat} (ha : a < 2 ^ 29) {n ac y : Nat} (hn : zX σ 35 2 = nI n) (hn8 : n ≤ 8) (hac : zX σ 35 5 = nI ac) (hac4 : ac ≤ 4) (hy : zX σ 35 7 = nI y) (hy8 : y ≤ 8) (h0 : al T a 0 = 5) (hr : n < 8) {k0 : Nat} (hk0 : k0 < 6) (hall : ∀ k, k < k0 → nok T (ps T (a + 5) k) (zA0 k)) (hb : ¬ nok T (ps T (a + 5) k0) (zA0 k0))  : Dt mX2_readItem [.ref 34, .ref q] (tS σ a (-1) r) (none) (tS σ (nat_ T (ps T (a + 5) k0)) (nI (nbd T (ps T (a + 5) k0))) (fi k0 (vs T (a + 5)) r)) := by
  refine Dt.ofN (by decide) (Nat.le_of_ble_eq_true rfl) fun κ B Rt hn0 => ?_
  show Z κ 0 0 (tS σ a (-1) r) 0 [(0, .ref 34), (1, .ref q)] []
  refine Z.aload_n B dX2_readItem_0 (v := .ref 34) rfl rfl ?_
  refine Z.getI (σ := (tS σ a (-1) r)) B fX2_19_2 dX2_readItem_1 (hl.n (k := 34) (by decide)) (hl.k (k := 34) (by decide)) (by decide) (v := nI a) tS_a ?_
  refine Z.istore_n B dX2_readItem_4 (by decide) (L' := [(0, .ref 34), (1, .ref q), (2, .int (nI a))]) rfl ?_
  refine Z.aload_n B dX2_readItem_5 (v := .ref 34) rfl rfl ?_
  refine Z.aload_n B dX2_readItem_6 (v := .ref q) rfl rfl ?_
  refine Z.callVI (σ := (tS σ a (-1) r)) B (M' := mX2_readWord) (as := [.ref q]) (st := []) (v := .int (nI 0)) dX2_readItem_7 wX2_readWord iX2_readWord sX2_readWord kX2_46 (hl.n (k := 34) (by decide)) (hl.k (k := 34) (by decide)) (by decide) rfl rfl (t_X2_readWord_0 (σ := σ) (f := -1) (r := r) hl ht hq (by omega) h0) rfl rfl (by decide) (by decide) (Nat.le_of_ble_eq_true rfl) (by decide) (by decide) ?_
  refine Z.istore_n B dX2_readItem_10 (by decide) (L' := [(0, .ref 34), (1, .ref q), (2, .int (nI a)), (3, .int (nI 0))]) rfl ?_
  refine Z.iload_n B dX2_readItem_11 (x := nI 0) rfl ?_
  refine Z.iconst B dX2_readItem_12 (v := (-1)) rfl ?_
  refine Z.icmp_ne B dX2_readItem_13 (tgt := 17) rfl (fun h13 => ?_) (fun h13 => (zm1 (by omega) h13).elim)
  refine Z.aload_n B dX2_readItem_17 (v := .ref 34) rfl rfl ?_
  refine Z.getR (σ := (tS σ (a + 5) (-1) r)) B fX2_9_2 dX2_readItem_18 (hl.n (k := 34) (by decide)) (hl.k (k := 34) (by decide)) (by decide) (j := 35) (hl.r (k := 34) (f := 0) (by decide) (by decide)) ?_
  refine Z.iload_n B dX2_readItem_21 (x := nI 0) rfl ?_
  refine Z.callVI (σ := (tS σ (a + 5) (-1) r)) B (M' := mX1_hasRoomFor) (as := [.int (nI 0)]) (st := []) (v := .int (nI 1)) dX2_readItem_22 wX1_hasRoomFor iX1_hasRoomFor sX1_hasRoomFor kX2_50 (hl.n (k := 35) (by decide)) (hl.k (k := 35) (by decide)) (by decide) rfl rfl (t_X1_hasRoomFor_d_0_1 (σ := (tS σ (a + 5) (-1) r)) hl (by rw [tS_o (by decide) (by decide)]; exact hn) hn8 (by rw [tS_o (by decide) (by decide)]; exact hac) hac4 (by rw [tS_o (by decide) (by decide)]; exact hy) hy8 hr) rfl rfl (by decide) (by decide) (Nat.le_of_ble_eq_true rfl) (by decide) (by decide) ?_
  refine Z.if_neN B dX2_readItem_25 (tgt := 34) rfl (by omega) (fun h25 => ?_) (fun h25 => by exfalso; first | omega | contradiction | simp_all)
  refine Z.iload_n B dX2_readItem_34 (x := nI 0) rfl ?_
  refine Z.callSI (σ := (tS σ (a + 5) (-1) r)) B (M' := mX2_numbersBehind) (as := [.int (nI 0)]) (st := []) (v := .int (nI 6)) dX2_readItem_35 wX2_numbersBehind iX2_numbersBehind kX2_54 (t_X2_numbersBehind_0 (σ := (tS σ (a + 5) (-1) r))) rfl rfl (by decide) (by decide) (Nat.le_of_ble_eq_true rfl) (by decide) (by decide) ?_
  refine Z.istore B dX2_readItem_38 (by decide) (L' := [(0, .ref 34), (1, .ref q), (2, .int (nI a)), (3, .int (nI 0)), (4, .int (nI 6))]) rfl ?_
  refine Z.iconst B dX2_readItem_40 (v := nI 0) rfl ?_
  refine Z.istore B dX2_readItem_41 (by decide) (L' := [(0, .ref 34), (1, .ref q), (2, .int (nI a)), (3, .int (nI 0)), (4, .int (nI 6)), (5, .int (nI 0))]) rfl ?_
  have hloop43 : ∀ k : Nat, k ≤ k0 → Z κ 0 0 (tS σ (ps T (a + 5) k) (-1) (fi k (vs T (a + 5)) r)) 43 [(0, .ref 34), (1, .ref q), (2, .int (nI a)), (3, .int (nI 0)), (4, .int (nI 6)), (5, .int (nI k))] [] := by
    refine z_loop (fun k => 6 - k) (fun k ih hk => ?_)
    have hps := ps_le (T := T) (p := a + 5) k
    refine Z.iload B dX2_readItem_43 (x := nI k) rfl ?_
    refine Z.iload B dX2_readItem_45 (x := nI 6) rfl ?_
    refine Z.icmp_geN B dX2_readItem_47 (tgt := 78) rfl (by omega) (by omega) (fun h47 => by exfalso; first | omega | contradiction | simp_all) (fun h47 => ?_)
    refine Z.aload_n B dX2_readItem_50 (v := .ref 34) rfl rfl ?_
    refine Z.getI (σ := (tS σ (ps T (a + 5) k) (-1) (fi k (vs T (a + 5)) r))) B fX2_23_2 dX2_readItem_51 (hl.n (k := 34) (by decide)) (hl.k (k := 34) (by decide)) (by decide) (v := (-1)) tS_f ?_
    refine Z.iconst B dX2_readItem_54 (v := (-1)) rfl ?_
    refine Z.icmp_ne B dX2_readItem_55 (tgt := 78) rfl (fun h55 => absurd rfl h55) (fun h55 => ?_)
    refine Z.aload_n B dX2_readItem_58 (v := .ref 34) rfl rfl ?_
    refine Z.aload_n B dX2_readItem_59 (v := .ref q) rfl rfl ?_
    refine Z.iload B dX2_readItem_60 (x := nI k) rfl ?_
    refine Z.aload_n B dX2_readItem_62 (v := .ref 34) rfl rfl ?_
    refine Z.iload_n B dX2_readItem_63 (x := nI 0) rfl ?_
    refine Z.iload B dX2_readItem_64 (x := nI k) rfl ?_
    refine Z.callVI (σ := (tS σ (ps T (a + 5) k) (-1) (fi k (vs T (a + 5)) r))) B (M' := mX2_mostOf) (as := [.int (nI 0), .int (nI k)]) (st := [.int (nI k), .ref q, .ref 34]) (v := .int (zA0 k)) dX2_readItem_66 wX2_mostOf iX2_mostOf sX2_mostOf kX2_58 (hl.n (k := 34) (by decide)) (hl.k (k := 34) (by decide)) (by decide) rfl rfl (t_X2_mostOf_0 (σ := σ) (f := -1) (r := fi k (vs T (a + 5)) r) hl ht hq (a := ps T (a + 5) k) (by omega) (k := k) (by omega)) rfl rfl (by decide) (by decide) (Nat.le_of_ble_eq_true rfl) (by decide) (by decide) ?_
    rcases (by omega : k < k0 ∨ k0 = k) with hlt | rfl
    · skip
      refine Z.callVN (σ := (tS σ (ps T (a + 5) k) (-1) (fi k (vs T (a + 5)) r))) B (M' := mX2_readNumber) (as := [.ref q, .int (nI k), .int (zA0 k)]) (st := []) dX2_readItem_69 wX2_readNumber iX2_readNumber sX2_readNumber kX2_62 (hl.n (k := 34) (by decide)) (hl.k (k := 34) (by decide)) (by decide) rfl rfl (t_X2_num_ok (σ := σ) (r := fi k (vs T (a + 5)) r) hl ht hq (a := ps T (a + 5) k) (by omega) (k := k) (by omega) (hall k (by omega))) rfl rfl (by decide) (by decide) (Nat.le_of_ble_eq_true rfl) (by decide) (by decide) ?_
      refine Z.eqσ (τ := (tS σ (ps T (a + 5) (k + 1)) (-1) (fi (k + 1) (vs T (a + 5)) r))) (by rw [← fi_s (i := k) (f := vs T (a + 5)) (g := r) rfl]; rfl) ?_
      refine Z.iincN B dX2_readItem_72 (by decide) (a := k) rfl (L' := [(0, .ref 34), (1, .ref q), (2, .int (nI a)), (3, .int (nI 0)), (4, .int (nI 6)), (5, .int (nI (k + 1)))]) rfl ?_
      refine Z.goto B dX2_readItem_75 (tgt := 43) rfl ?_
      exact ih (k + 1) (by omega) (by omega)
    · skip
      refine Z.callVN (σ := (tS σ (ps T (a + 5) k0) (-1) (fi k0 (vs T (a + 5)) r))) B (M' := mX2_readNumber) (as := [.ref q, .int (nI k0), .int (zA0 k0)]) (st := []) dX2_readItem_69 wX2_readNumber iX2_readNumber sX2_readNumber kX2_62 (hl.n (k := 34) (by decide)) (hl.k (k := 34) (by decide)) (by decide) rfl rfl (t_X2_num_bad (σ := σ) (r := fi k0 (vs T (a + 5)) r) hl ht hq (a := ps T (a + 5) k0) (by omega) (k := k0) (by omega) hb) rfl rfl (by decide) (by decide) (Nat.le_of_ble_eq_true rfl) (by decide) (by decide) ?_
      refine Z.iincN B dX2_readItem_72 (by decide) (a := k0) rfl (L' := [(0, .ref 34), (1, .ref q), (2, .int (nI a)), (3, .int (nI 0)), (4, .int (nI 6)), (5, .int (nI (k0 + 1)))]) rfl ?_
      refine Z.goto B dX2_readItem_75 (tgt := 43) rfl ?_
      have hnb := nbd_le (T := T) (q := ps T (a + 5) k0)
      refine Z.iload B dX2_readItem_43 (x := nI (k0 + 1)) rfl ?_
      refine Z.iload B dX2_readItem_45 (x := nI 6) rfl ?_
      refine Z.icmp_geN B dX2_readItem_47 (tgt := 78) rfl (by omega) (by omega) (fun h47 => ?_) (fun h47 => ?_)
      · skip
        refine Z.aload_n B dX2_readItem_78 (v := .ref 34) rfl rfl ?_
        refine Z.getI (σ := (tS σ (nat_ T (ps T (a + 5) k0)) (nI (nbd T (ps T (a + 5) k0))) (fi k0 (vs T (a + 5)) r))) B fX2_23_2 dX2_readItem_79 (hl.n (k := 34) (by decide)) (hl.k (k := 34) (by decide)) (by decide) (v := nI (nbd T (ps T (a + 5) k0))) tS_f ?_
        refine Z.iconst B dX2_readItem_82 (v := (-1)) rfl ?_
        refine Z.icmp_ne B dX2_readItem_83 (tgt := 91) rfl (fun h83 => ?_) (fun h83 => (zm1 (by omega) h83).elim)
        refine Z.vret B Rt dX2_readItem_91 rfl (by decide) (by decide) ?_
        exact ⟨rfl, rfl⟩
      · skip
        refine Z.aload_n B dX2_readItem_50 (v := .ref 34) rfl rfl ?_
        refine Z.getI (σ := (tS σ (nat_ T (ps T (a + 5) k0)) (nI (nbd T (ps T (a + 5) k0))) (fi k0 (vs T (a + 5)) r))) B fX2_23_2 dX2_readItem_51 (hl.n (k := 34) (by decide)) (hl.k (k := 34) (by decide)) (by decide) (v := nI (nbd T (ps T (a + 5) k0))) tS_f ?_
        refine Z.iconst B dX2_readItem_54 (v := (-1)) rfl ?_
        refine Z.icmp_ne B dX2_readItem_55 (tgt := 78) rfl (fun h55 => ?_) (fun h55 => (zm1 (by omega) h55).elim)
        refine Z.aload_n B dX2_readItem_78 (v := .ref 34) rfl rfl ?_
        refine Z.getI (σ := (tS σ (nat_ T (ps T (a + 5) k0)) (nI (nbd T (ps T (a + 5) k0))) (fi k0 (vs T (a + 5)) r))) B fX2_23_2 dX2_readItem_79 (hl.n (k := 34) (by decide)) (hl.k (k := 34) (by decide)) (by decide) (v := nI (nbd T (ps T (a + 5) k0))) tS_f ?_
        refine Z.iconst B dX2_readItem_82 (v := (-1)) rfl ?_
        refine Z.icmp_ne B dX2_readItem_83 (tgt := 91) rfl (fun h83 => ?_) (fun h83 => (zm1 (by omega) h83).elim)
        refine Z.vret B Rt dX2_readItem_91 rfl (by decide) (by decide) ?_
        exact ⟨rfl, rfl⟩
  have h0 := hloop43 0 (Nat.zero_le _)
  rw [fi_0] at h0
  exact h0

theorem t_X2_item_d0 {σ : zSt} {r : Nat → Int32} (hl : Lay σ) {q : Nat} {T : Nat → Int32} (ht : zTx σ q T) (hq : q < 34) {a : Nat} (ha : a < 2 ^ 29) {n ac y : Nat} (hn : zX σ 35 2 = nI n) (hn8 : n ≤ 8) (hac : zX σ 35 5 = nI ac) (hac4 : ac ≤ 4) (hy : zX σ 35 7 = nI y) (hy8 : y ≤ 8) (h0 : al T a 0 = 5) (hr : n < 8) (hall : ∀ k, k < 6 → nok T (ps T (a + 5) k) (zA0 k))  : Dt mX2_readItem [.ref 34, .ref q] (tS σ a (-1) r) (none) (zuX (zuX (tS σ (ps T (a + 5) 6) (-1) (fi 6 (vs T (a + 5)) r)) 36 (va_cpy (zX (tS σ (ps T (a + 5) 6) (-1) (fi 6 (vs T (a + 5)) r)) 42) (zX (tS σ (ps T (a + 5) 6) (-1) (fi 6 (vs T (a + 5)) r)) 36) 0 (n * 6) 6)) 35 (upd (zX (tS σ (ps T (a + 5) 6) (-1) (fi 6 (vs T (a + 5)) r)) 35) 2 (nI (n + 1)))) := by
  refine Dt.ofN (by decide) (Nat.le_of_ble_eq_true rfl) fun κ B Rt hn0 => ?_
  show Z κ 0 0 (tS σ a (-1) r) 0 [(0, .ref 34), (1, .ref q)] []
  refine Z.aload_n B dX2_readItem_0 (v := .ref 34) rfl rfl ?_
  refine Z.getI (σ := (tS σ a (-1) r)) B fX2_19_2 dX2_readItem_1 (hl.n (k := 34) (by decide)) (hl.k (k := 34) (by decide)) (by decide) (v := nI a) tS_a ?_
  refine Z.istore_n B dX2_readItem_4 (by decide) (L' := [(0, .ref 34), (1, .ref q), (2, .int (nI a))]) rfl ?_
  refine Z.aload_n B dX2_readItem_5 (v := .ref 34) rfl rfl ?_
  refine Z.aload_n B dX2_readItem_6 (v := .ref q) rfl rfl ?_
  refine Z.callVI (σ := (tS σ a (-1) r)) B (M' := mX2_readWord) (as := [.ref q]) (st := []) (v := .int (nI 0)) dX2_readItem_7 wX2_readWord iX2_readWord sX2_readWord kX2_46 (hl.n (k := 34) (by decide)) (hl.k (k := 34) (by decide)) (by decide) rfl rfl (t_X2_readWord_0 (σ := σ) (f := -1) (r := r) hl ht hq (by omega) h0) rfl rfl (by decide) (by decide) (Nat.le_of_ble_eq_true rfl) (by decide) (by decide) ?_
  refine Z.istore_n B dX2_readItem_10 (by decide) (L' := [(0, .ref 34), (1, .ref q), (2, .int (nI a)), (3, .int (nI 0))]) rfl ?_
  refine Z.iload_n B dX2_readItem_11 (x := nI 0) rfl ?_
  refine Z.iconst B dX2_readItem_12 (v := (-1)) rfl ?_
  refine Z.icmp_ne B dX2_readItem_13 (tgt := 17) rfl (fun h13 => ?_) (fun h13 => (zm1 (by omega) h13).elim)
  refine Z.aload_n B dX2_readItem_17 (v := .ref 34) rfl rfl ?_
  refine Z.getR (σ := (tS σ (a + 5) (-1) r)) B fX2_9_2 dX2_readItem_18 (hl.n (k := 34) (by decide)) (hl.k (k := 34) (by decide)) (by decide) (j := 35) (hl.r (k := 34) (f := 0) (by decide) (by decide)) ?_
  refine Z.iload_n B dX2_readItem_21 (x := nI 0) rfl ?_
  refine Z.callVI (σ := (tS σ (a + 5) (-1) r)) B (M' := mX1_hasRoomFor) (as := [.int (nI 0)]) (st := []) (v := .int (nI 1)) dX2_readItem_22 wX1_hasRoomFor iX1_hasRoomFor sX1_hasRoomFor kX2_50 (hl.n (k := 35) (by decide)) (hl.k (k := 35) (by decide)) (by decide) rfl rfl (t_X1_hasRoomFor_d_0_1 (σ := (tS σ (a + 5) (-1) r)) hl (by rw [tS_o (by decide) (by decide)]; exact hn) hn8 (by rw [tS_o (by decide) (by decide)]; exact hac) hac4 (by rw [tS_o (by decide) (by decide)]; exact hy) hy8 hr) rfl rfl (by decide) (by decide) (Nat.le_of_ble_eq_true rfl) (by decide) (by decide) ?_
  refine Z.if_neN B dX2_readItem_25 (tgt := 34) rfl (by omega) (fun h25 => ?_) (fun h25 => by exfalso; first | omega | contradiction | simp_all)
  refine Z.iload_n B dX2_readItem_34 (x := nI 0) rfl ?_
  refine Z.callSI (σ := (tS σ (a + 5) (-1) r)) B (M' := mX2_numbersBehind) (as := [.int (nI 0)]) (st := []) (v := .int (nI 6)) dX2_readItem_35 wX2_numbersBehind iX2_numbersBehind kX2_54 (t_X2_numbersBehind_0 (σ := (tS σ (a + 5) (-1) r))) rfl rfl (by decide) (by decide) (Nat.le_of_ble_eq_true rfl) (by decide) (by decide) ?_
  refine Z.istore B dX2_readItem_38 (by decide) (L' := [(0, .ref 34), (1, .ref q), (2, .int (nI a)), (3, .int (nI 0)), (4, .int (nI 6))]) rfl ?_
  refine Z.iconst B dX2_readItem_40 (v := nI 0) rfl ?_
  refine Z.istore B dX2_readItem_41 (by decide) (L' := [(0, .ref 34), (1, .ref q), (2, .int (nI a)), (3, .int (nI 0)), (4, .int (nI 6)), (5, .int (nI 0))]) rfl ?_
  have hloop43 : ∀ k : Nat, k ≤ 6 → Z κ 0 0 (tS σ (ps T (a + 5) k) (-1) (fi k (vs T (a + 5)) r)) 43 [(0, .ref 34), (1, .ref q), (2, .int (nI a)), (3, .int (nI 0)), (4, .int (nI 6)), (5, .int (nI k))] [] := by
    refine z_loop (fun k => 6 - k) (fun k ih hk => ?_)
    have hps := ps_le (T := T) (p := a + 5) k
    refine Z.iload B dX2_readItem_43 (x := nI k) rfl ?_
    refine Z.iload B dX2_readItem_45 (x := nI 6) rfl ?_
    refine Z.icmp_geN B dX2_readItem_47 (tgt := 78) rfl (by omega) (by omega) (fun h47 => ?_) (fun h47 => ?_)
    · skip
      obtain rfl : k = 6 := by omega
      refine Z.aload_n B dX2_readItem_78 (v := .ref 34) rfl rfl ?_
      refine Z.getI (σ := (tS σ (ps T (a + 5) 6) (-1) (fi 6 (vs T (a + 5)) r))) B fX2_23_2 dX2_readItem_79 (hl.n (k := 34) (by decide)) (hl.k (k := 34) (by decide)) (by decide) (v := (-1)) tS_f ?_
      refine Z.iconst B dX2_readItem_82 (v := (-1)) rfl ?_
      refine Z.icmp_ne B dX2_readItem_83 (tgt := 91) rfl (fun h83 => absurd rfl h83) (fun h83 => ?_)
      refine Z.aload_n B dX2_readItem_86 (v := .ref 34) rfl rfl ?_
      refine Z.iload_n B dX2_readItem_87 (x := nI 0) rfl ?_
      refine Z.callVA (σ := (tS σ (ps T (a + 5) 6) (-1) (fi 6 (vs T (a + 5)) r))) B (M' := mX2_tell) (as := [.int (nI 0)]) (st := []) dX2_readItem_88 wX2_tell iX2_tell sX2_tell kX2_66 (hl.n (k := 34) (by decide)) (hl.k (k := 34) (by decide)) (by decide) rfl rfl (t_X2_tell_0 (σ := (tS σ (ps T (a + 5) 6) (-1) (fi 6 (vs T (a + 5)) r))) hl (by rw [tS_o (by decide) (by decide)]; exact hn) hn8 (by rw [tS_o (by decide) (by decide)]; exact hac) hac4 (by rw [tS_o (by decide) (by decide)]; exact hy) hy8 hr) rfl rfl (by decide) (by decide) (by decide) (by decide) (by decide) (by rw [hn0]; exact Nat.le_refl _) (zLLc (show 34 < zN (tS σ (ps T (a + 5) 6) (-1) (fi 6 (vs T (a + 5)) r)) from (by have h66 := hl.1; show 34 < zN σ; omega)) (zLLc (show q < zN (tS σ (ps T (a + 5) 6) (-1) (fi 6 (vs T (a + 5)) r)) from (by have h66 := hl.1; show q < zN σ; omega)) (zLLc trivial (zLLc trivial (zLLc trivial (zLLc trivial zLL0)))))) zLS0 ?_
      show Z κ (0 + 1) (0 + 4) (zuX (zuX (tS σ (ps T (a + 5) 6) (-1) (fi 6 (vs T (a + 5)) r)) 36 (va_cpy (zX (tS σ (ps T (a + 5) 6) (-1) (fi 6 (vs T (a + 5)) r)) 42) (zX (tS σ (ps T (a + 5) 6) (-1) (fi 6 (vs T (a + 5)) r)) 36) 0 (n * 6) 6)) 35 (upd (zX (tS σ (ps T (a + 5) 6) (-1) (fi 6 (vs T (a + 5)) r)) 35) 2 (nI (n + 1)))) 91 [(0, .ref 34), (1, .ref q), (2, .int (nI a)), (3, .int (nI 0)), (4, .int (nI 6)), (5, .int (nI 6))] []
      refine Z.vret B Rt dX2_readItem_91 rfl (by decide) (by decide) ?_
      exact ⟨rfl, rfl⟩
    · skip
      refine Z.aload_n B dX2_readItem_50 (v := .ref 34) rfl rfl ?_
      refine Z.getI (σ := (tS σ (ps T (a + 5) k) (-1) (fi k (vs T (a + 5)) r))) B fX2_23_2 dX2_readItem_51 (hl.n (k := 34) (by decide)) (hl.k (k := 34) (by decide)) (by decide) (v := (-1)) tS_f ?_
      refine Z.iconst B dX2_readItem_54 (v := (-1)) rfl ?_
      refine Z.icmp_ne B dX2_readItem_55 (tgt := 78) rfl (fun h55 => absurd rfl h55) (fun h55 => ?_)
      refine Z.aload_n B dX2_readItem_58 (v := .ref 34) rfl rfl ?_
      refine Z.aload_n B dX2_readItem_59 (v := .ref q) rfl rfl ?_
      refine Z.iload B dX2_readItem_60 (x := nI k) rfl ?_
      refine Z.aload_n B dX2_readItem_62 (v := .ref 34) rfl rfl ?_
      refine Z.iload_n B dX2_readItem_63 (x := nI 0) rfl ?_
      refine Z.iload B dX2_readItem_64 (x := nI k) rfl ?_
      refine Z.callVI (σ := (tS σ (ps T (a + 5) k) (-1) (fi k (vs T (a + 5)) r))) B (M' := mX2_mostOf) (as := [.int (nI 0), .int (nI k)]) (st := [.int (nI k), .ref q, .ref 34]) (v := .int (zA0 k)) dX2_readItem_66 wX2_mostOf iX2_mostOf sX2_mostOf kX2_58 (hl.n (k := 34) (by decide)) (hl.k (k := 34) (by decide)) (by decide) rfl rfl (t_X2_mostOf_0 (σ := σ) (f := -1) (r := fi k (vs T (a + 5)) r) hl ht hq (a := ps T (a + 5) k) (by omega) (k := k) (by omega)) rfl rfl (by decide) (by decide) (Nat.le_of_ble_eq_true rfl) (by decide) (by decide) ?_
      refine Z.callVN (σ := (tS σ (ps T (a + 5) k) (-1) (fi k (vs T (a + 5)) r))) B (M' := mX2_readNumber) (as := [.ref q, .int (nI k), .int (zA0 k)]) (st := []) dX2_readItem_69 wX2_readNumber iX2_readNumber sX2_readNumber kX2_62 (hl.n (k := 34) (by decide)) (hl.k (k := 34) (by decide)) (by decide) rfl rfl (t_X2_num_ok (σ := σ) (r := fi k (vs T (a + 5)) r) hl ht hq (a := ps T (a + 5) k) (by omega) (k := k) (by omega) (hall k (by omega))) rfl rfl (by decide) (by decide) (Nat.le_of_ble_eq_true rfl) (by decide) (by decide) ?_
      refine Z.eqσ (τ := (tS σ (ps T (a + 5) (k + 1)) (-1) (fi (k + 1) (vs T (a + 5)) r))) (by rw [← fi_s (i := k) (f := vs T (a + 5)) (g := r) rfl]; rfl) ?_
      refine Z.iincN B dX2_readItem_72 (by decide) (a := k) rfl (L' := [(0, .ref 34), (1, .ref q), (2, .int (nI a)), (3, .int (nI 0)), (4, .int (nI 6)), (5, .int (nI (k + 1)))]) rfl ?_
      refine Z.goto B dX2_readItem_75 (tgt := 43) rfl ?_
      exact ih (k + 1) (by omega) (by omega)
  have h0 := hloop43 0 (Nat.zero_le _)
  rw [fi_0] at h0
  exact h0

theorem t_X2_item_b1 {σ : zSt} {r : Nat → Int32} (hl : Lay σ) {q : Nat} {T : Nat → Int32} (ht : zTx σ q T) (hq : q < 34) {a : Nat} (ha : a < 2 ^ 29) {n ac y : Nat} (hn : zX σ 35 2 = nI n) (hn8 : n ≤ 8) (hac : zX σ 35 5 = nI ac) (hac4 : ac ≤ 4) (hy : zX σ 35 7 = nI y) (hy8 : y ≤ 8) (h0 : ¬ al T a 0 = 5) (h1 : al T a 1 = 5) (hr : ac = 4) : Dt mX2_readItem [.ref 34, .ref q] (tS σ a (-1) r) (none) (tS σ (a + 5) (nI a) r) := by
  refine Dt.ofN (by decide) (Nat.le_of_ble_eq_true rfl) fun κ B Rt hn0 => ?_
  show Z κ 0 0 (tS σ a (-1) r) 0 [(0, .ref 34), (1, .ref q)] []
  refine Z.aload_n B dX2_readItem_0 (v := .ref 34) rfl rfl ?_
  refine Z.getI (σ := (tS σ a (-1) r)) B fX2_19_2 dX2_readItem_1 (hl.n (k := 34) (by decide)) (hl.k (k := 34) (by decide)) (by decide) (v := nI a) tS_a ?_
  refine Z.istore_n B dX2_readItem_4 (by decide) (L' := [(0, .ref 34), (1, .ref q), (2, .int (nI a))]) rfl ?_
  refine Z.aload_n B dX2_readItem_5 (v := .ref 34) rfl rfl ?_
  refine Z.aload_n B dX2_readItem_6 (v := .ref q) rfl rfl ?_
  refine Z.callVI (σ := (tS σ a (-1) r)) B (M' := mX2_readWord) (as := [.ref q]) (st := []) (v := .int (nI 1)) dX2_readItem_7 wX2_readWord iX2_readWord sX2_readWord kX2_46 (hl.n (k := 34) (by decide)) (hl.k (k := 34) (by decide)) (by decide) rfl rfl (t_X2_readWord_1 (σ := σ) (f := -1) (r := r) hl ht hq (by omega) h0 h1) rfl rfl (by decide) (by decide) (Nat.le_of_ble_eq_true rfl) (by decide) (by decide) ?_
  refine Z.istore_n B dX2_readItem_10 (by decide) (L' := [(0, .ref 34), (1, .ref q), (2, .int (nI a)), (3, .int (nI 1))]) rfl ?_
  refine Z.iload_n B dX2_readItem_11 (x := nI 1) rfl ?_
  refine Z.iconst B dX2_readItem_12 (v := (-1)) rfl ?_
  refine Z.icmp_ne B dX2_readItem_13 (tgt := 17) rfl (fun h13 => ?_) (fun h13 => (zm1 (by omega) h13).elim)
  refine Z.aload_n B dX2_readItem_17 (v := .ref 34) rfl rfl ?_
  refine Z.getR (σ := (tS σ (a + 5) (-1) r)) B fX2_9_2 dX2_readItem_18 (hl.n (k := 34) (by decide)) (hl.k (k := 34) (by decide)) (by decide) (j := 35) (hl.r (k := 34) (f := 0) (by decide) (by decide)) ?_
  refine Z.iload_n B dX2_readItem_21 (x := nI 1) rfl ?_
  refine Z.callVI (σ := (tS σ (a + 5) (-1) r)) B (M' := mX1_hasRoomFor) (as := [.int (nI 1)]) (st := []) (v := .int (nI 0)) dX2_readItem_22 wX1_hasRoomFor iX1_hasRoomFor sX1_hasRoomFor kX2_50 (hl.n (k := 35) (by decide)) (hl.k (k := 35) (by decide)) (by decide) rfl rfl (t_X1_hasRoomFor_d_1_0 (σ := (tS σ (a + 5) (-1) r)) hl (by rw [tS_o (by decide) (by decide)]; exact hn) hn8 (by rw [tS_o (by decide) (by decide)]; exact hac) hac4 (by rw [tS_o (by decide) (by decide)]; exact hy) hy8 hr) rfl rfl (by decide) (by decide) (Nat.le_of_ble_eq_true rfl) (by decide) (by decide) ?_
  refine Z.if_neN B dX2_readItem_25 (tgt := 34) rfl (by omega) (fun h25 => by exfalso; first | omega | contradiction | simp_all) (fun h25 => ?_)
  refine Z.aload_n B dX2_readItem_28 (v := .ref 34) rfl rfl ?_
  refine Z.iload_n B dX2_readItem_29 (x := nI a) rfl ?_
  refine Z.putI (σ := (tS σ (a + 5) (-1) r)) B fX2_23_2 (ty := .int) ⟨_, _, _, rfl, rfl, by decide +kernel⟩ dX2_readItem_30 (hl.n (k := 34) (by decide)) (hl.k (k := 34) (by decide)) (by decide) rfl rfl (τ := (zuX (tS σ (a + 5) (-1) r) 34 (upd (zX (tS σ (a + 5) (-1) r) 34) 3 (nI a)))) rfl ?_
  refine Z.vret B Rt dX2_readItem_33 rfl (by decide) (by decide) ?_
  exact ⟨rfl, tS_uf⟩

theorem t_X2_item_c1 {σ : zSt} {r : Nat → Int32} (hl : Lay σ) {q : Nat} {T : Nat → Int32} (ht : zTx σ q T) (hq : q < 34) {a : Nat} (ha : a < 2 ^ 29) {n ac y : Nat} (hn : zX σ 35 2 = nI n) (hn8 : n ≤ 8) (hac : zX σ 35 5 = nI ac) (hac4 : ac ≤ 4) (hy : zX σ 35 7 = nI y) (hy8 : y ≤ 8) (h0 : ¬ al T a 0 = 5) (h1 : al T a 1 = 5) (hr : ac < 4) {k0 : Nat} (hk0 : k0 < 3) (hall : ∀ k, k < k0 → nok T (ps T (a + 5) k) (zA1 k)) (hb : ¬ nok T (ps T (a + 5) k0) (zA1 k0))  : Dt mX2_readItem [.ref 34, .ref q] (tS σ a (-1) r) (none) (tS σ (nat_ T (ps T (a + 5) k0)) (nI (nbd T (ps T (a + 5) k0))) (fi k0 (vs T (a + 5)) r)) := by
  refine Dt.ofN (by decide) (Nat.le_of_ble_eq_true rfl) fun κ B Rt hn0 => ?_
  show Z κ 0 0 (tS σ a (-1) r) 0 [(0, .ref 34), (1, .ref q)] []
  refine Z.aload_n B dX2_readItem_0 (v := .ref 34) rfl rfl ?_
  refine Z.getI (σ := (tS σ a (-1) r)) B fX2_19_2 dX2_readItem_1 (hl.n (k := 34) (by decide)) (hl.k (k := 34) (by decide)) (by decide) (v := nI a) tS_a ?_
  refine Z.istore_n B dX2_readItem_4 (by decide) (L' := [(0, .ref 34), (1, .ref q), (2, .int (nI a))]) rfl ?_
  refine Z.aload_n B dX2_readItem_5 (v := .ref 34) rfl rfl ?_
  refine Z.aload_n B dX2_readItem_6 (v := .ref q) rfl rfl ?_
  refine Z.callVI (σ := (tS σ a (-1) r)) B (M' := mX2_readWord) (as := [.ref q]) (st := []) (v := .int (nI 1)) dX2_readItem_7 wX2_readWord iX2_readWord sX2_readWord kX2_46 (hl.n (k := 34) (by decide)) (hl.k (k := 34) (by decide)) (by decide) rfl rfl (t_X2_readWord_1 (σ := σ) (f := -1) (r := r) hl ht hq (by omega) h0 h1) rfl rfl (by decide) (by decide) (Nat.le_of_ble_eq_true rfl) (by decide) (by decide) ?_
  refine Z.istore_n B dX2_readItem_10 (by decide) (L' := [(0, .ref 34), (1, .ref q), (2, .int (nI a)), (3, .int (nI 1))]) rfl ?_
  refine Z.iload_n B dX2_readItem_11 (x := nI 1) rfl ?_
  refine Z.iconst B dX2_readItem_12 (v := (-1)) rfl ?_
  refine Z.icmp_ne B dX2_readItem_13 (tgt := 17) rfl (fun h13 => ?_) (fun h13 => (zm1 (by omega) h13).elim)
  refine Z.aload_n B dX2_readItem_17 (v := .ref 34) rfl rfl ?_
  refine Z.getR (σ := (tS σ (a + 5) (-1) r)) B fX2_9_2 dX2_readItem_18 (hl.n (k := 34) (by decide)) (hl.k (k := 34) (by decide)) (by decide) (j := 35) (hl.r (k := 34) (f := 0) (by decide) (by decide)) ?_
  refine Z.iload_n B dX2_readItem_21 (x := nI 1) rfl ?_
  refine Z.callVI (σ := (tS σ (a + 5) (-1) r)) B (M' := mX1_hasRoomFor) (as := [.int (nI 1)]) (st := []) (v := .int (nI 1)) dX2_readItem_22 wX1_hasRoomFor iX1_hasRoomFor sX1_hasRoomFor kX2_50 (hl.n (k := 35) (by decide)) (hl.k (k := 35) (by decide)) (by decide) rfl rfl (t_X1_hasRoomFor_d_1_1 (σ := (tS σ (a + 5) (-1) r)) hl (by rw [tS_o (by decide) (by decide)]; exact hn) hn8 (by rw [tS_o (by decide) (by decide)]; exact hac) hac4 (by rw [tS_o (by decide) (by decide)]; exact hy) hy8 hr) rfl rfl (by decide) (by decide) (Nat.le_of_ble_eq_true rfl) (by decide) (by decide) ?_
  refine Z.if_neN B dX2_readItem_25 (tgt := 34) rfl (by omega) (fun h25 => ?_) (fun h25 => by exfalso; first | omega | contradiction | simp_all)
  refine Z.iload_n B dX2_readItem_34 (x := nI 1) rfl ?_
  refine Z.callSI (σ := (tS σ (a + 5) (-1) r)) B (M' := mX2_numbersBehind) (as := [.int (nI 1)]) (st := []) (v := .int (nI 3)) dX2_readItem_35 wX2_numbersBehind iX2_numbersBehind kX2_54 (t_X2_numbersBehind_1 (σ := (tS σ (a + 5) (-1) r))) rfl rfl (by decide) (by decide) (Nat.le_of_ble_eq_true rfl) (by decide) (by decide) ?_
  refine Z.istore B dX2_readItem_38 (by decide) (L' := [(0, .ref 34), (1, .ref q), (2, .int (nI a)), (3, .int (nI 1)), (4, .int (nI 3))]) rfl ?_
  refine Z.iconst B dX2_readItem_40 (v := nI 0) rfl ?_
  refine Z.istore B dX2_readItem_41 (by decide) (L' := [(0, .ref 34), (1, .ref q), (2, .int (nI a)), (3, .int (nI 1)), (4, .int (nI 3)), (5, .int (nI 0))]) rfl ?_
  have hloop43 : ∀ k : Nat, k ≤ k0 → Z κ 0 0 (tS σ (ps T (a + 5) k) (-1) (fi k (vs T (a + 5)) r)) 43 [(0, .ref 34), (1, .ref q), (2, .int (nI a)), (3, .int (nI 1)), (4, .int (nI 3)), (5, .int (nI k))] [] := by
    refine z_loop (fun k => 3 - k) (fun k ih hk => ?_)
    have hps := ps_le (T := T) (p := a + 5) k
    refine Z.iload B dX2_readItem_43 (x := nI k) rfl ?_
    refine Z.iload B dX2_readItem_45 (x := nI 3) rfl ?_
    refine Z.icmp_geN B dX2_readItem_47 (tgt := 78) rfl (by omega) (by omega) (fun h47 => by exfalso; first | omega | contradiction | simp_all) (fun h47 => ?_)
    refine Z.aload_n B dX2_readItem_50 (v := .ref 34) rfl rfl ?_
    refine Z.getI (σ := (tS σ (ps T (a + 5) k) (-1) (fi k (vs T (a + 5)) r))) B fX2_23_2 dX2_readItem_51 (hl.n (k := 34) (by decide)) (hl.k (k := 34) (by decide)) (by decide) (v := (-1)) tS_f ?_
    refine Z.iconst B dX2_readItem_54 (v := (-1)) rfl ?_
    refine Z.icmp_ne B dX2_readItem_55 (tgt := 78) rfl (fun h55 => absurd rfl h55) (fun h55 => ?_)
    refine Z.aload_n B dX2_readItem_58 (v := .ref 34) rfl rfl ?_
    refine Z.aload_n B dX2_readItem_59 (v := .ref q) rfl rfl ?_
    refine Z.iload B dX2_readItem_60 (x := nI k) rfl ?_
    refine Z.aload_n B dX2_readItem_62 (v := .ref 34) rfl rfl ?_
    refine Z.iload_n B dX2_readItem_63 (x := nI 1) rfl ?_
    refine Z.iload B dX2_readItem_64 (x := nI k) rfl ?_
    refine Z.callVI (σ := (tS σ (ps T (a + 5) k) (-1) (fi k (vs T (a + 5)) r))) B (M' := mX2_mostOf) (as := [.int (nI 1), .int (nI k)]) (st := [.int (nI k), .ref q, .ref 34]) (v := .int (zA1 k)) dX2_readItem_66 wX2_mostOf iX2_mostOf sX2_mostOf kX2_58 (hl.n (k := 34) (by decide)) (hl.k (k := 34) (by decide)) (by decide) rfl rfl (t_X2_mostOf_1 (σ := σ) (f := -1) (r := fi k (vs T (a + 5)) r) hl ht hq (a := ps T (a + 5) k) (by omega) (k := k) (by omega)) rfl rfl (by decide) (by decide) (Nat.le_of_ble_eq_true rfl) (by decide) (by decide) ?_
    rcases (by omega : k < k0 ∨ k0 = k) with hlt | rfl
    · skip
      refine Z.callVN (σ := (tS σ (ps T (a + 5) k) (-1) (fi k (vs T (a + 5)) r))) B (M' := mX2_readNumber) (as := [.ref q, .int (nI k), .int (zA1 k)]) (st := []) dX2_readItem_69 wX2_readNumber iX2_readNumber sX2_readNumber kX2_62 (hl.n (k := 34) (by decide)) (hl.k (k := 34) (by decide)) (by decide) rfl rfl (t_X2_num_ok (σ := σ) (r := fi k (vs T (a + 5)) r) hl ht hq (a := ps T (a + 5) k) (by omega) (k := k) (by omega) (hall k (by omega))) rfl rfl (by decide) (by decide) (Nat.le_of_ble_eq_true rfl) (by decide) (by decide) ?_
      refine Z.eqσ (τ := (tS σ (ps T (a + 5) (k + 1)) (-1) (fi (k + 1) (vs T (a + 5)) r))) (by rw [← fi_s (i := k) (f := vs T (a + 5)) (g := r) rfl]; rfl) ?_
      refine Z.iincN B dX2_readItem_72 (by decide) (a := k) rfl (L' := [(0, .ref 34), (1, .ref q), (2, .int (nI a)), (3, .int (nI 1)), (4, .int (nI 3)), (5, .int (nI (k + 1)))]) rfl ?_
      refine Z.goto B dX2_readItem_75 (tgt := 43) rfl ?_
      exact ih (k + 1) (by omega) (by omega)
    · skip
      refine Z.callVN (σ := (tS σ (ps T (a + 5) k0) (-1) (fi k0 (vs T (a + 5)) r))) B (M' := mX2_readNumber) (as := [.ref q, .int (nI k0), .int (zA1 k0)]) (st := []) dX2_readItem_69 wX2_readNumber iX2_readNumber sX2_readNumber kX2_62 (hl.n (k := 34) (by decide)) (hl.k (k := 34) (by decide)) (by decide) rfl rfl (t_X2_num_bad (σ := σ) (r := fi k0 (vs T (a + 5)) r) hl ht hq (a := ps T (a + 5) k0) (by omega) (k := k0) (by omega) hb) rfl rfl (by decide) (by decide) (Nat.le_of_ble_eq_true rfl) (by decide) (by decide) ?_
      refine Z.iincN B dX2_readItem_72 (by decide) (a := k0) rfl (L' := [(0, .ref 34), (1, .ref q), (2, .int (nI a)), (3, .int (nI 1)), (4, .int (nI 3)), (5, .int (nI (k0 + 1)))]) rfl ?_
      refine Z.goto B dX2_readItem_75 (tgt := 43) rfl ?_
      have hnb := nbd_le (T := T) (q := ps T (a + 5) k0)
      refine Z.iload B dX2_readItem_43 (x := nI (k0 + 1)) rfl ?_
      refine Z.iload B dX2_readItem_45 (x := nI 3) rfl ?_
      refine Z.icmp_geN B dX2_readItem_47 (tgt := 78) rfl (by omega) (by omega) (fun h47 => ?_) (fun h47 => ?_)
      · skip
        refine Z.aload_n B dX2_readItem_78 (v := .ref 34) rfl rfl ?_
        refine Z.getI (σ := (tS σ (nat_ T (ps T (a + 5) k0)) (nI (nbd T (ps T (a + 5) k0))) (fi k0 (vs T (a + 5)) r))) B fX2_23_2 dX2_readItem_79 (hl.n (k := 34) (by decide)) (hl.k (k := 34) (by decide)) (by decide) (v := nI (nbd T (ps T (a + 5) k0))) tS_f ?_
        refine Z.iconst B dX2_readItem_82 (v := (-1)) rfl ?_
        refine Z.icmp_ne B dX2_readItem_83 (tgt := 91) rfl (fun h83 => ?_) (fun h83 => (zm1 (by omega) h83).elim)
        refine Z.vret B Rt dX2_readItem_91 rfl (by decide) (by decide) ?_
        exact ⟨rfl, rfl⟩
      · skip
        refine Z.aload_n B dX2_readItem_50 (v := .ref 34) rfl rfl ?_
        refine Z.getI (σ := (tS σ (nat_ T (ps T (a + 5) k0)) (nI (nbd T (ps T (a + 5) k0))) (fi k0 (vs T (a + 5)) r))) B fX2_23_2 dX2_readItem_51 (hl.n (k := 34) (by decide)) (hl.k (k := 34) (by decide)) (by decide) (v := nI (nbd T (ps T (a + 5) k0))) tS_f ?_
        refine Z.iconst B dX2_readItem_54 (v := (-1)) rfl ?_
        refine Z.icmp_ne B dX2_readItem_55 (tgt := 78) rfl (fun h55 => ?_) (fun h55 => (zm1 (by omega) h55).elim)
        refine Z.aload_n B dX2_readItem_78 (v := .ref 34) rfl rfl ?_
        refine Z.getI (σ := (tS σ (nat_ T (ps T (a + 5) k0)) (nI (nbd T (ps T (a + 5) k0))) (fi k0 (vs T (a + 5)) r))) B fX2_23_2 dX2_readItem_79 (hl.n (k := 34) (by decide)) (hl.k (k := 34) (by decide)) (by decide) (v := nI (nbd T (ps T (a + 5) k0))) tS_f ?_
        refine Z.iconst B dX2_readItem_82 (v := (-1)) rfl ?_
        refine Z.icmp_ne B dX2_readItem_83 (tgt := 91) rfl (fun h83 => ?_) (fun h83 => (zm1 (by omega) h83).elim)
        refine Z.vret B Rt dX2_readItem_91 rfl (by decide) (by decide) ?_
        exact ⟨rfl, rfl⟩
  have h0 := hloop43 0 (Nat.zero_le _)
  rw [fi_0] at h0
  exact h0

theorem t_X2_item_d1 {σ : zSt} {r : Nat → Int32} (hl : Lay σ) {q : Nat} {T : Nat → Int32} (ht : zTx σ q T) (hq : q < 34) {a : Nat} (ha : a < 2 ^ 29) {n ac y : Nat} (hn : zX σ 35 2 = nI n) (hn8 : n ≤ 8) (hac : zX σ 35 5 = nI ac) (hac4 : ac ≤ 4) (hy : zX σ 35 7 = nI y) (hy8 : y ≤ 8) (h0 : ¬ al T a 0 = 5) (h1 : al T a 1 = 5) (hr : ac < 4) (hall : ∀ k, k < 3 → nok T (ps T (a + 5) k) (zA1 k))  : Dt mX2_readItem [.ref 34, .ref q] (tS σ a (-1) r) (none) (zuX (zuX (zuX (tS σ (ps T (a + 5) 3) (-1) (fi 3 (vs T (a + 5)) r)) 37 (upd (upd (upd (zX (tS σ (ps T (a + 5) 3) (-1) (fi 3 (vs T (a + 5)) r)) 37) (ac * 3) (zX (tS σ (ps T (a + 5) 3) (-1) (fi 3 (vs T (a + 5)) r)) 42 0)) (ac * 3 + 1) (zX (tS σ (ps T (a + 5) 3) (-1) (fi 3 (vs T (a + 5)) r)) 42 1)) (ac * 3 + 2) (zX (tS σ (ps T (a + 5) 3) (-1) (fi 3 (vs T (a + 5)) r)) 42 2))) 38 (upd (zX (tS σ (ps T (a + 5) 3) (-1) (fi 3 (vs T (a + 5)) r)) 38) ac (nI ac))) 35 (upd (zX (tS σ (ps T (a + 5) 3) (-1) (fi 3 (vs T (a + 5)) r)) 35) 5 (nI (ac + 1)))) := by
  refine Dt.ofN (by decide) (Nat.le_of_ble_eq_true rfl) fun κ B Rt hn0 => ?_
  show Z κ 0 0 (tS σ a (-1) r) 0 [(0, .ref 34), (1, .ref q)] []
  refine Z.aload_n B dX2_readItem_0 (v := .ref 34) rfl rfl ?_
  refine Z.getI (σ := (tS σ a (-1) r)) B fX2_19_2 dX2_readItem_1 (hl.n (k := 34) (by decide)) (hl.k (k := 34) (by decide)) (by decide) (v := nI a) tS_a ?_
  refine Z.istore_n B dX2_readItem_4 (by decide) (L' := [(0, .ref 34), (1, .ref q), (2, .int (nI a))]) rfl ?_
  refine Z.aload_n B dX2_readItem_5 (v := .ref 34) rfl rfl ?_
  refine Z.aload_n B dX2_readItem_6 (v := .ref q) rfl rfl ?_
  refine Z.callVI (σ := (tS σ a (-1) r)) B (M' := mX2_readWord) (as := [.ref q]) (st := []) (v := .int (nI 1)) dX2_readItem_7 wX2_readWord iX2_readWord sX2_readWord kX2_46 (hl.n (k := 34) (by decide)) (hl.k (k := 34) (by decide)) (by decide) rfl rfl (t_X2_readWord_1 (σ := σ) (f := -1) (r := r) hl ht hq (by omega) h0 h1) rfl rfl (by decide) (by decide) (Nat.le_of_ble_eq_true rfl) (by decide) (by decide) ?_
  refine Z.istore_n B dX2_readItem_10 (by decide) (L' := [(0, .ref 34), (1, .ref q), (2, .int (nI a)), (3, .int (nI 1))]) rfl ?_
  refine Z.iload_n B dX2_readItem_11 (x := nI 1) rfl ?_
  refine Z.iconst B dX2_readItem_12 (v := (-1)) rfl ?_
  refine Z.icmp_ne B dX2_readItem_13 (tgt := 17) rfl (fun h13 => ?_) (fun h13 => (zm1 (by omega) h13).elim)
  refine Z.aload_n B dX2_readItem_17 (v := .ref 34) rfl rfl ?_
  refine Z.getR (σ := (tS σ (a + 5) (-1) r)) B fX2_9_2 dX2_readItem_18 (hl.n (k := 34) (by decide)) (hl.k (k := 34) (by decide)) (by decide) (j := 35) (hl.r (k := 34) (f := 0) (by decide) (by decide)) ?_
  refine Z.iload_n B dX2_readItem_21 (x := nI 1) rfl ?_
  refine Z.callVI (σ := (tS σ (a + 5) (-1) r)) B (M' := mX1_hasRoomFor) (as := [.int (nI 1)]) (st := []) (v := .int (nI 1)) dX2_readItem_22 wX1_hasRoomFor iX1_hasRoomFor sX1_hasRoomFor kX2_50 (hl.n (k := 35) (by decide)) (hl.k (k := 35) (by decide)) (by decide) rfl rfl (t_X1_hasRoomFor_d_1_1 (σ := (tS σ (a + 5) (-1) r)) hl (by rw [tS_o (by decide) (by decide)]; exact hn) hn8 (by rw [tS_o (by decide) (by decide)]; exact hac) hac4 (by rw [tS_o (by decide) (by decide)]; exact hy) hy8 hr) rfl rfl (by decide) (by decide) (Nat.le_of_ble_eq_true rfl) (by decide) (by decide) ?_
  refine Z.if_neN B dX2_readItem_25 (tgt := 34) rfl (by omega) (fun h25 => ?_) (fun h25 => by exfalso; first | omega | contradiction | simp_all)
  refine Z.iload_n B dX2_readItem_34 (x := nI 1) rfl ?_
  refine Z.callSI (σ := (tS σ (a + 5) (-1) r)) B (M' := mX2_numbersBehind) (as := [.int (nI 1)]) (st := []) (v := .int (nI 3)) dX2_readItem_35 wX2_numbersBehind iX2_numbersBehind kX2_54 (t_X2_numbersBehind_1 (σ := (tS σ (a + 5) (-1) r))) rfl rfl (by decide) (by decide) (Nat.le_of_ble_eq_true rfl) (by decide) (by decide) ?_
  refine Z.istore B dX2_readItem_38 (by decide) (L' := [(0, .ref 34), (1, .ref q), (2, .int (nI a)), (3, .int (nI 1)), (4, .int (nI 3))]) rfl ?_
  refine Z.iconst B dX2_readItem_40 (v := nI 0) rfl ?_
  refine Z.istore B dX2_readItem_41 (by decide) (L' := [(0, .ref 34), (1, .ref q), (2, .int (nI a)), (3, .int (nI 1)), (4, .int (nI 3)), (5, .int (nI 0))]) rfl ?_
  have hloop43 : ∀ k : Nat, k ≤ 3 → Z κ 0 0 (tS σ (ps T (a + 5) k) (-1) (fi k (vs T (a + 5)) r)) 43 [(0, .ref 34), (1, .ref q), (2, .int (nI a)), (3, .int (nI 1)), (4, .int (nI 3)), (5, .int (nI k))] [] := by
    refine z_loop (fun k => 3 - k) (fun k ih hk => ?_)
    have hps := ps_le (T := T) (p := a + 5) k
    refine Z.iload B dX2_readItem_43 (x := nI k) rfl ?_
    refine Z.iload B dX2_readItem_45 (x := nI 3) rfl ?_
    refine Z.icmp_geN B dX2_readItem_47 (tgt := 78) rfl (by omega) (by omega) (fun h47 => ?_) (fun h47 => ?_)
    · skip
      obtain rfl : k = 3 := by omega
      refine Z.aload_n B dX2_readItem_78 (v := .ref 34) rfl rfl ?_
      refine Z.getI (σ := (tS σ (ps T (a + 5) 3) (-1) (fi 3 (vs T (a + 5)) r))) B fX2_23_2 dX2_readItem_79 (hl.n (k := 34) (by decide)) (hl.k (k := 34) (by decide)) (by decide) (v := (-1)) tS_f ?_
      refine Z.iconst B dX2_readItem_82 (v := (-1)) rfl ?_
      refine Z.icmp_ne B dX2_readItem_83 (tgt := 91) rfl (fun h83 => absurd rfl h83) (fun h83 => ?_)
      refine Z.aload_n B dX2_readItem_86 (v := .ref 34) rfl rfl ?_
      refine Z.iload_n B dX2_readItem_87 (x := nI 1) rfl ?_
      refine Z.callVA (σ := (tS σ (ps T (a + 5) 3) (-1) (fi 3 (vs T (a + 5)) r))) B (M' := mX2_tell) (as := [.int (nI 1)]) (st := []) dX2_readItem_88 wX2_tell iX2_tell sX2_tell kX2_66 (hl.n (k := 34) (by decide)) (hl.k (k := 34) (by decide)) (by decide) rfl rfl (t_X2_tell_1 (σ := (tS σ (ps T (a + 5) 3) (-1) (fi 3 (vs T (a + 5)) r))) hl (by rw [tS_o (by decide) (by decide)]; exact hn) hn8 (by rw [tS_o (by decide) (by decide)]; exact hac) hac4 (by rw [tS_o (by decide) (by decide)]; exact hy) hy8 hr) rfl rfl (by decide) (by decide) (by decide) (by decide) (by decide) (by rw [hn0]; exact Nat.le_refl _) (zLLc (show 34 < zN (tS σ (ps T (a + 5) 3) (-1) (fi 3 (vs T (a + 5)) r)) from (by have h66 := hl.1; show 34 < zN σ; omega)) (zLLc (show q < zN (tS σ (ps T (a + 5) 3) (-1) (fi 3 (vs T (a + 5)) r)) from (by have h66 := hl.1; show q < zN σ; omega)) (zLLc trivial (zLLc trivial (zLLc trivial (zLLc trivial zLL0)))))) zLS0 ?_
      show Z κ (0 + 1) (0 + 4) (zuX (zuX (zuX (tS σ (ps T (a + 5) 3) (-1) (fi 3 (vs T (a + 5)) r)) 37 (upd (upd (upd (zX (tS σ (ps T (a + 5) 3) (-1) (fi 3 (vs T (a + 5)) r)) 37) (ac * 3) (zX (tS σ (ps T (a + 5) 3) (-1) (fi 3 (vs T (a + 5)) r)) 42 0)) (ac * 3 + 1) (zX (tS σ (ps T (a + 5) 3) (-1) (fi 3 (vs T (a + 5)) r)) 42 1)) (ac * 3 + 2) (zX (tS σ (ps T (a + 5) 3) (-1) (fi 3 (vs T (a + 5)) r)) 42 2))) 38 (upd (zX (tS σ (ps T (a + 5) 3) (-1) (fi 3 (vs T (a + 5)) r)) 38) ac (nI ac))) 35 (upd (zX (tS σ (ps T (a + 5) 3) (-1) (fi 3 (vs T (a + 5)) r)) 35) 5 (nI (ac + 1)))) 91 [(0, .ref 34), (1, .ref q), (2, .int (nI a)), (3, .int (nI 1)), (4, .int (nI 3)), (5, .int (nI 3))] []
      refine Z.vret B Rt dX2_readItem_91 rfl (by decide) (by decide) ?_
      exact ⟨rfl, rfl⟩
    · skip
      refine Z.aload_n B dX2_readItem_50 (v := .ref 34) rfl rfl ?_
      refine Z.getI (σ := (tS σ (ps T (a + 5) k) (-1) (fi k (vs T (a + 5)) r))) B fX2_23_2 dX2_readItem_51 (hl.n (k := 34) (by decide)) (hl.k (k := 34) (by decide)) (by decide) (v := (-1)) tS_f ?_
      refine Z.iconst B dX2_readItem_54 (v := (-1)) rfl ?_
      refine Z.icmp_ne B dX2_readItem_55 (tgt := 78) rfl (fun h55 => absurd rfl h55) (fun h55 => ?_)
      refine Z.aload_n B dX2_readItem_58 (v := .ref 34) rfl rfl ?_
      refine Z.aload_n B dX2_readItem_59 (v := .ref q) rfl rfl ?_
      refine Z.iload B dX2_readItem_60 (x := nI k) rfl ?_
      refine Z.aload_n B dX2_readItem_62 (v := .ref 34) rfl rfl ?_
      refine Z.iload_n B dX2_readItem_63 (x := nI 1) rfl ?_
      refine Z.iload B dX2_readItem_64 (x := nI k) rfl ?_
      refine Z.callVI (σ := (tS σ (ps T (a + 5) k) (-1) (fi k (vs T (a + 5)) r))) B (M' := mX2_mostOf) (as := [.int (nI 1), .int (nI k)]) (st := [.int (nI k), .ref q, .ref 34]) (v := .int (zA1 k)) dX2_readItem_66 wX2_mostOf iX2_mostOf sX2_mostOf kX2_58 (hl.n (k := 34) (by decide)) (hl.k (k := 34) (by decide)) (by decide) rfl rfl (t_X2_mostOf_1 (σ := σ) (f := -1) (r := fi k (vs T (a + 5)) r) hl ht hq (a := ps T (a + 5) k) (by omega) (k := k) (by omega)) rfl rfl (by decide) (by decide) (Nat.le_of_ble_eq_true rfl) (by decide) (by decide) ?_
      refine Z.callVN (σ := (tS σ (ps T (a + 5) k) (-1) (fi k (vs T (a + 5)) r))) B (M' := mX2_readNumber) (as := [.ref q, .int (nI k), .int (zA1 k)]) (st := []) dX2_readItem_69 wX2_readNumber iX2_readNumber sX2_readNumber kX2_62 (hl.n (k := 34) (by decide)) (hl.k (k := 34) (by decide)) (by decide) rfl rfl (t_X2_num_ok (σ := σ) (r := fi k (vs T (a + 5)) r) hl ht hq (a := ps T (a + 5) k) (by omega) (k := k) (by omega) (hall k (by omega))) rfl rfl (by decide) (by decide) (Nat.le_of_ble_eq_true rfl) (by decide) (by decide) ?_
      refine Z.eqσ (τ := (tS σ (ps T (a + 5) (k + 1)) (-1) (fi (k + 1) (vs T (a + 5)) r))) (by rw [← fi_s (i := k) (f := vs T (a + 5)) (g := r) rfl]; rfl) ?_
      refine Z.iincN B dX2_readItem_72 (by decide) (a := k) rfl (L' := [(0, .ref 34), (1, .ref q), (2, .int (nI a)), (3, .int (nI 1)), (4, .int (nI 3)), (5, .int (nI (k + 1)))]) rfl ?_
      refine Z.goto B dX2_readItem_75 (tgt := 43) rfl ?_
      exact ih (k + 1) (by omega) (by omega)
  have h0 := hloop43 0 (Nat.zero_le _)
  rw [fi_0] at h0
  exact h0

theorem t_X2_item_b2 {σ : zSt} {r : Nat → Int32} (hl : Lay σ) {q : Nat} {T : Nat → Int32} (ht : zTx σ q T) (hq : q < 34) {a : Nat} (ha : a < 2 ^ 29) {n ac y : Nat} (hn : zX σ 35 2 = nI n) (hn8 : n ≤ 8) (hac : zX σ 35 5 = nI ac) (hac4 : ac ≤ 4) (hy : zX σ 35 7 = nI y) (hy8 : y ≤ 8) (h0 : ¬ al T a 0 = 5) (h1 : ¬ al T a 1 = 5) (h2 : al T a 2 = 3) (hr : y = 8) : Dt mX2_readItem [.ref 34, .ref q] (tS σ a (-1) r) (none) (tS σ (a + 3) (nI a) r) := by
  refine Dt.ofN (by decide) (Nat.le_of_ble_eq_true rfl) fun κ B Rt hn0 => ?_
  show Z κ 0 0 (tS σ a (-1) r) 0 [(0, .ref 34), (1, .ref q)] []
  refine Z.aload_n B dX2_readItem_0 (v := .ref 34) rfl rfl ?_
  refine Z.getI (σ := (tS σ a (-1) r)) B fX2_19_2 dX2_readItem_1 (hl.n (k := 34) (by decide)) (hl.k (k := 34) (by decide)) (by decide) (v := nI a) tS_a ?_
  refine Z.istore_n B dX2_readItem_4 (by decide) (L' := [(0, .ref 34), (1, .ref q), (2, .int (nI a))]) rfl ?_
  refine Z.aload_n B dX2_readItem_5 (v := .ref 34) rfl rfl ?_
  refine Z.aload_n B dX2_readItem_6 (v := .ref q) rfl rfl ?_
  refine Z.callVI (σ := (tS σ a (-1) r)) B (M' := mX2_readWord) (as := [.ref q]) (st := []) (v := .int (nI 2)) dX2_readItem_7 wX2_readWord iX2_readWord sX2_readWord kX2_46 (hl.n (k := 34) (by decide)) (hl.k (k := 34) (by decide)) (by decide) rfl rfl (t_X2_readWord_2 (σ := σ) (f := -1) (r := r) hl ht hq (by omega) h0 h1 h2) rfl rfl (by decide) (by decide) (Nat.le_of_ble_eq_true rfl) (by decide) (by decide) ?_
  refine Z.istore_n B dX2_readItem_10 (by decide) (L' := [(0, .ref 34), (1, .ref q), (2, .int (nI a)), (3, .int (nI 2))]) rfl ?_
  refine Z.iload_n B dX2_readItem_11 (x := nI 2) rfl ?_
  refine Z.iconst B dX2_readItem_12 (v := (-1)) rfl ?_
  refine Z.icmp_ne B dX2_readItem_13 (tgt := 17) rfl (fun h13 => ?_) (fun h13 => (zm1 (by omega) h13).elim)
  refine Z.aload_n B dX2_readItem_17 (v := .ref 34) rfl rfl ?_
  refine Z.getR (σ := (tS σ (a + 3) (-1) r)) B fX2_9_2 dX2_readItem_18 (hl.n (k := 34) (by decide)) (hl.k (k := 34) (by decide)) (by decide) (j := 35) (hl.r (k := 34) (f := 0) (by decide) (by decide)) ?_
  refine Z.iload_n B dX2_readItem_21 (x := nI 2) rfl ?_
  refine Z.callVI (σ := (tS σ (a + 3) (-1) r)) B (M' := mX1_hasRoomFor) (as := [.int (nI 2)]) (st := []) (v := .int (nI 0)) dX2_readItem_22 wX1_hasRoomFor iX1_hasRoomFor sX1_hasRoomFor kX2_50 (hl.n (k := 35) (by decide)) (hl.k (k := 35) (by decide)) (by decide) rfl rfl (t_X1_hasRoomFor_d_2_0 (σ := (tS σ (a + 3) (-1) r)) hl (by rw [tS_o (by decide) (by decide)]; exact hn) hn8 (by rw [tS_o (by decide) (by decide)]; exact hac) hac4 (by rw [tS_o (by decide) (by decide)]; exact hy) hy8 hr) rfl rfl (by decide) (by decide) (Nat.le_of_ble_eq_true rfl) (by decide) (by decide) ?_
  refine Z.if_neN B dX2_readItem_25 (tgt := 34) rfl (by omega) (fun h25 => by exfalso; first | omega | contradiction | simp_all) (fun h25 => ?_)
  refine Z.aload_n B dX2_readItem_28 (v := .ref 34) rfl rfl ?_
  refine Z.iload_n B dX2_readItem_29 (x := nI a) rfl ?_
  refine Z.putI (σ := (tS σ (a + 3) (-1) r)) B fX2_23_2 (ty := .int) ⟨_, _, _, rfl, rfl, by decide +kernel⟩ dX2_readItem_30 (hl.n (k := 34) (by decide)) (hl.k (k := 34) (by decide)) (by decide) rfl rfl (τ := (zuX (tS σ (a + 3) (-1) r) 34 (upd (zX (tS σ (a + 3) (-1) r) 34) 3 (nI a)))) rfl ?_
  refine Z.vret B Rt dX2_readItem_33 rfl (by decide) (by decide) ?_
  exact ⟨rfl, tS_uf⟩

theorem t_X2_item_c2 {σ : zSt} {r : Nat → Int32} (hl : Lay σ) {q : Nat} {T : Nat → Int32} (ht : zTx σ q T) (hq : q < 34) {a : Nat} (ha : a < 2 ^ 29) {n ac y : Nat} (hn : zX σ 35 2 = nI n) (hn8 : n ≤ 8) (hac : zX σ 35 5 = nI ac) (hac4 : ac ≤ 4) (hy : zX σ 35 7 = nI y) (hy8 : y ≤ 8) (h0 : ¬ al T a 0 = 5) (h1 : ¬ al T a 1 = 5) (h2 : al T a 2 = 3) (hr : y < 8) {k0 : Nat} (hk0 : k0 < 2) (hall : ∀ k, k < k0 → nok T (ps T (a + 3) k) (zA2 k)) (hb : ¬ nok T (ps T (a + 3) k0) (zA2 k0))  : Dt mX2_readItem [.ref 34, .ref q] (tS σ a (-1) r) (none) (tS σ (nat_ T (ps T (a + 3) k0)) (nI (nbd T (ps T (a + 3) k0))) (fi k0 (vs T (a + 3)) r)) := by
  refine Dt.ofN (by decide) (Nat.le_of_ble_eq_true rfl) fun κ B Rt hn0 => ?_
  show Z κ 0 0 (tS σ a (-1) r) 0 [(0, .ref 34), (1, .ref q)] []
  refine Z.aload_n B dX2_readItem_0 (v := .ref 34) rfl rfl ?_
  refine Z.getI (σ := (tS σ a (-1) r)) B fX2_19_2 dX2_readItem_1 (hl.n (k := 34) (by decide)) (hl.k (k := 34) (by decide)) (by decide) (v := nI a) tS_a ?_
  refine Z.istore_n B dX2_readItem_4 (by decide) (L' := [(0, .ref 34), (1, .ref q), (2, .int (nI a))]) rfl ?_
  refine Z.aload_n B dX2_readItem_5 (v := .ref 34) rfl rfl ?_
  refine Z.aload_n B dX2_readItem_6 (v := .ref q) rfl rfl ?_
  refine Z.callVI (σ := (tS σ a (-1) r)) B (M' := mX2_readWord) (as := [.ref q]) (st := []) (v := .int (nI 2)) dX2_readItem_7 wX2_readWord iX2_readWord sX2_readWord kX2_46 (hl.n (k := 34) (by decide)) (hl.k (k := 34) (by decide)) (by decide) rfl rfl (t_X2_readWord_2 (σ := σ) (f := -1) (r := r) hl ht hq (by omega) h0 h1 h2) rfl rfl (by decide) (by decide) (Nat.le_of_ble_eq_true rfl) (by decide) (by decide) ?_
  refine Z.istore_n B dX2_readItem_10 (by decide) (L' := [(0, .ref 34), (1, .ref q), (2, .int (nI a)), (3, .int (nI 2))]) rfl ?_
  refine Z.iload_n B dX2_readItem_11 (x := nI 2) rfl ?_
  refine Z.iconst B dX2_readItem_12 (v := (-1)) rfl ?_
  refine Z.icmp_ne B dX2_readItem_13 (tgt := 17) rfl (fun h13 => ?_) (fun h13 => (zm1 (by omega) h13).elim)
  refine Z.aload_n B dX2_readItem_17 (v := .ref 34) rfl rfl ?_
  refine Z.getR (σ := (tS σ (a + 3) (-1) r)) B fX2_9_2 dX2_readItem_18 (hl.n (k := 34) (by decide)) (hl.k (k := 34) (by decide)) (by decide) (j := 35) (hl.r (k := 34) (f := 0) (by decide) (by decide)) ?_
  refine Z.iload_n B dX2_readItem_21 (x := nI 2) rfl ?_
  refine Z.callVI (σ := (tS σ (a + 3) (-1) r)) B (M' := mX1_hasRoomFor) (as := [.int (nI 2)]) (st := []) (v := .int (nI 1)) dX2_readItem_22 wX1_hasRoomFor iX1_hasRoomFor sX1_hasRoomFor kX2_50 (hl.n (k := 35) (by decide)) (hl.k (k := 35) (by decide)) (by decide) rfl rfl (t_X1_hasRoomFor_d_2_1 (σ := (tS σ (a + 3) (-1) r)) hl (by rw [tS_o (by decide) (by decide)]; exact hn) hn8 (by rw [tS_o (by decide) (by decide)]; exact hac) hac4 (by rw [tS_o (by decide) (by decide)]; exact hy) hy8 hr) rfl rfl (by decide) (by decide) (Nat.le_of_ble_eq_true rfl) (by decide) (by decide) ?_
  refine Z.if_neN B dX2_readItem_25 (tgt := 34) rfl (by omega) (fun h25 => ?_) (fun h25 => by exfalso; first | omega | contradiction | simp_all)
  refine Z.iload_n B dX2_readItem_34 (x := nI 2) rfl ?_
  refine Z.callSI (σ := (tS σ (a + 3) (-1) r)) B (M' := mX2_numbersBehind) (as := [.int (nI 2)]) (st := []) (v := .int (nI 2)) dX2_readItem_35 wX2_numbersBehind iX2_numbersBehind kX2_54 (t_X2_numbersBehind_2 (σ := (tS σ (a + 3) (-1) r))) rfl rfl (by decide) (by decide) (Nat.le_of_ble_eq_true rfl) (by decide) (by decide) ?_
  refine Z.istore B dX2_readItem_38 (by decide) (L' := [(0, .ref 34), (1, .ref q), (2, .int (nI a)), (3, .int (nI 2)), (4, .int (nI 2))]) rfl ?_
  refine Z.iconst B dX2_readItem_40 (v := nI 0) rfl ?_
  refine Z.istore B dX2_readItem_41 (by decide) (L' := [(0, .ref 34), (1, .ref q), (2, .int (nI a)), (3, .int (nI 2)), (4, .int (nI 2)), (5, .int (nI 0))]) rfl ?_
  have hloop43 : ∀ k : Nat, k ≤ k0 → Z κ 0 0 (tS σ (ps T (a + 3) k) (-1) (fi k (vs T (a + 3)) r)) 43 [(0, .ref 34), (1, .ref q), (2, .int (nI a)), (3, .int (nI 2)), (4, .int (nI 2)), (5, .int (nI k))] [] := by
    refine z_loop (fun k => 2 - k) (fun k ih hk => ?_)
    have hps := ps_le (T := T) (p := a + 3) k
    refine Z.iload B dX2_readItem_43 (x := nI k) rfl ?_
    refine Z.iload B dX2_readItem_45 (x := nI 2) rfl ?_
    refine Z.icmp_geN B dX2_readItem_47 (tgt := 78) rfl (by omega) (by omega) (fun h47 => by exfalso; first | omega | contradiction | simp_all) (fun h47 => ?_)
    refine Z.aload_n B dX2_readItem_50 (v := .ref 34) rfl rfl ?_
    refine Z.getI (σ := (tS σ (ps T (a + 3) k) (-1) (fi k (vs T (a + 3)) r))) B fX2_23_2 dX2_readItem_51 (hl.n (k := 34) (by decide)) (hl.k (k := 34) (by decide)) (by decide) (v := (-1)) tS_f ?_
    refine Z.iconst B dX2_readItem_54 (v := (-1)) rfl ?_
    refine Z.icmp_ne B dX2_readItem_55 (tgt := 78) rfl (fun h55 => absurd rfl h55) (fun h55 => ?_)
    refine Z.aload_n B dX2_readItem_58 (v := .ref 34) rfl rfl ?_
    refine Z.aload_n B dX2_readItem_59 (v := .ref q) rfl rfl ?_
    refine Z.iload B dX2_readItem_60 (x := nI k) rfl ?_
    refine Z.aload_n B dX2_readItem_62 (v := .ref 34) rfl rfl ?_
    refine Z.iload_n B dX2_readItem_63 (x := nI 2) rfl ?_
    refine Z.iload B dX2_readItem_64 (x := nI k) rfl ?_
    refine Z.callVI (σ := (tS σ (ps T (a + 3) k) (-1) (fi k (vs T (a + 3)) r))) B (M' := mX2_mostOf) (as := [.int (nI 2), .int (nI k)]) (st := [.int (nI k), .ref q, .ref 34]) (v := .int (zA2 k)) dX2_readItem_66 wX2_mostOf iX2_mostOf sX2_mostOf kX2_58 (hl.n (k := 34) (by decide)) (hl.k (k := 34) (by decide)) (by decide) rfl rfl (t_X2_mostOf_2 (σ := σ) (f := -1) (r := fi k (vs T (a + 3)) r) hl ht hq (a := ps T (a + 3) k) (by omega) (k := k) (by omega)) rfl rfl (by decide) (by decide) (Nat.le_of_ble_eq_true rfl) (by decide) (by decide) ?_
    rcases (by omega : k < k0 ∨ k0 = k) with hlt | rfl
    · skip
      refine Z.callVN (σ := (tS σ (ps T (a + 3) k) (-1) (fi k (vs T (a + 3)) r))) B (M' := mX2_readNumber) (as := [.ref q, .int (nI k), .int (zA2 k)]) (st := []) dX2_readItem_69 wX2_readNumber iX2_readNumber sX2_readNumber kX2_62 (hl.n (k := 34) (by decide)) (hl.k (k := 34) (by decide)) (by decide) rfl rfl (t_X2_num_ok (σ := σ) (r := fi k (vs T (a + 3)) r) hl ht hq (a := ps T (a + 3) k) (by omega) (k := k) (by omega) (hall k (by omega))) rfl rfl (by decide) (by decide) (Nat.le_of_ble_eq_true rfl) (by decide) (by decide) ?_
      refine Z.eqσ (τ := (tS σ (ps T (a + 3) (k + 1)) (-1) (fi (k + 1) (vs T (a + 3)) r))) (by rw [← fi_s (i := k) (f := vs T (a + 3)) (g := r) rfl]; rfl) ?_
      refine Z.iincN B dX2_readItem_72 (by decide) (a := k) rfl (L' := [(0, .ref 34), (1, .ref q), (2, .int (nI a)), (3, .int (nI 2)), (4, .int (nI 2)), (5, .int (nI (k + 1)))]) rfl ?_
      refine Z.goto B dX2_readItem_75 (tgt := 43) rfl ?_
      exact ih (k + 1) (by omega) (by omega)
    · skip
      refine Z.callVN (σ := (tS σ (ps T (a + 3) k0) (-1) (fi k0 (vs T (a + 3)) r))) B (M' := mX2_readNumber) (as := [.ref q, .int (nI k0), .int (zA2 k0)]) (st := []) dX2_readItem_69 wX2_readNumber iX2_readNumber sX2_readNumber kX2_62 (hl.n (k := 34) (by decide)) (hl.k (k := 34) (by decide)) (by decide) rfl rfl (t_X2_num_bad (σ := σ) (r := fi k0 (vs T (a + 3)) r) hl ht hq (a := ps T (a + 3) k0) (by omega) (k := k0) (by omega) hb) rfl rfl (by decide) (by decide) (Nat.le_of_ble_eq_true rfl) (by decide) (by decide) ?_
      refine Z.iincN B dX2_readItem_72 (by decide) (a := k0) rfl (L' := [(0, .ref 34), (1, .ref q), (2, .int (nI a)), (3, .int (nI 2)), (4, .int (nI 2)), (5, .int (nI (k0 + 1)))]) rfl ?_
      refine Z.goto B dX2_readItem_75 (tgt := 43) rfl ?_
      have hnb := nbd_le (T := T) (q := ps T (a + 3) k0)
      refine Z.iload B dX2_readItem_43 (x := nI (k0 + 1)) rfl ?_
      refine Z.iload B dX2_readItem_45 (x := nI 2) rfl ?_
      refine Z.icmp_geN B dX2_readItem_47 (tgt := 78) rfl (by omega) (by omega) (fun h47 => ?_) (fun h47 => ?_)
      · skip
        refine Z.aload_n B dX2_readItem_78 (v := .ref 34) rfl rfl ?_
        refine Z.getI (σ := (tS σ (nat_ T (ps T (a + 3) k0)) (nI (nbd T (ps T (a + 3) k0))) (fi k0 (vs T (a + 3)) r))) B fX2_23_2 dX2_readItem_79 (hl.n (k := 34) (by decide)) (hl.k (k := 34) (by decide)) (by decide) (v := nI (nbd T (ps T (a + 3) k0))) tS_f ?_
        refine Z.iconst B dX2_readItem_82 (v := (-1)) rfl ?_
        refine Z.icmp_ne B dX2_readItem_83 (tgt := 91) rfl (fun h83 => ?_) (fun h83 => (zm1 (by omega) h83).elim)
        refine Z.vret B Rt dX2_readItem_91 rfl (by decide) (by decide) ?_
        exact ⟨rfl, rfl⟩
      · skip
        refine Z.aload_n B dX2_readItem_50 (v := .ref 34) rfl rfl ?_
        refine Z.getI (σ := (tS σ (nat_ T (ps T (a + 3) k0)) (nI (nbd T (ps T (a + 3) k0))) (fi k0 (vs T (a + 3)) r))) B fX2_23_2 dX2_readItem_51 (hl.n (k := 34) (by decide)) (hl.k (k := 34) (by decide)) (by decide) (v := nI (nbd T (ps T (a + 3) k0))) tS_f ?_
        refine Z.iconst B dX2_readItem_54 (v := (-1)) rfl ?_
        refine Z.icmp_ne B dX2_readItem_55 (tgt := 78) rfl (fun h55 => ?_) (fun h55 => (zm1 (by omega) h55).elim)
        refine Z.aload_n B dX2_readItem_78 (v := .ref 34) rfl rfl ?_
        refine Z.getI (σ := (tS σ (nat_ T (ps T (a + 3) k0)) (nI (nbd T (ps T (a + 3) k0))) (fi k0 (vs T (a + 3)) r))) B fX2_23_2 dX2_readItem_79 (hl.n (k := 34) (by decide)) (hl.k (k := 34) (by decide)) (by decide) (v := nI (nbd T (ps T (a + 3) k0))) tS_f ?_
        refine Z.iconst B dX2_readItem_82 (v := (-1)) rfl ?_
        refine Z.icmp_ne B dX2_readItem_83 (tgt := 91) rfl (fun h83 => ?_) (fun h83 => (zm1 (by omega) h83).elim)
        refine Z.vret B Rt dX2_readItem_91 rfl (by decide) (by decide) ?_
        exact ⟨rfl, rfl⟩
  have h0 := hloop43 0 (Nat.zero_le _)
  rw [fi_0] at h0
  exact h0

theorem t_X2_item_d2 {σ : zSt} {r : Nat → Int32} (hl : Lay σ) {q : Nat} {T : Nat → Int32} (ht : zTx σ q T) (hq : q < 34) {a : Nat} (ha : a < 2 ^ 29) {n ac y : Nat} (hn : zX σ 35 2 = nI n) (hn8 : n ≤ 8) (hac : zX σ 35 5 = nI ac) (hac4 : ac ≤ 4) (hy : zX σ 35 7 = nI y) (hy8 : y ≤ 8) (h0 : ¬ al T a 0 = 5) (h1 : ¬ al T a 1 = 5) (h2 : al T a 2 = 3) (hr : y < 8) (hall : ∀ k, k < 2 → nok T (ps T (a + 3) k) (zA2 k)) (hcl : zCl σ) {kd pa : Nat} (hkd : kd ≤ 6) (v0 : vs T (a + 3) 0 = nI kd) (v1 : vs T (a + 3) 1 = nI pa)  : Dt mX2_readItem [.ref 34, .ref q] (tS σ a (-1) r) (none) (aW (tS σ (ps T (a + 3) 2) (-1) (fi 2 (vs T (a + 3)) r)) 35 kd pa y) := by
  refine Dt.ofN (by decide) (Nat.le_of_ble_eq_true rfl) fun κ B Rt hn0 => ?_
  show Z κ 0 0 (tS σ a (-1) r) 0 [(0, .ref 34), (1, .ref q)] []
  refine Z.aload_n B dX2_readItem_0 (v := .ref 34) rfl rfl ?_
  refine Z.getI (σ := (tS σ a (-1) r)) B fX2_19_2 dX2_readItem_1 (hl.n (k := 34) (by decide)) (hl.k (k := 34) (by decide)) (by decide) (v := nI a) tS_a ?_
  refine Z.istore_n B dX2_readItem_4 (by decide) (L' := [(0, .ref 34), (1, .ref q), (2, .int (nI a))]) rfl ?_
  refine Z.aload_n B dX2_readItem_5 (v := .ref 34) rfl rfl ?_
  refine Z.aload_n B dX2_readItem_6 (v := .ref q) rfl rfl ?_
  refine Z.callVI (σ := (tS σ a (-1) r)) B (M' := mX2_readWord) (as := [.ref q]) (st := []) (v := .int (nI 2)) dX2_readItem_7 wX2_readWord iX2_readWord sX2_readWord kX2_46 (hl.n (k := 34) (by decide)) (hl.k (k := 34) (by decide)) (by decide) rfl rfl (t_X2_readWord_2 (σ := σ) (f := -1) (r := r) hl ht hq (by omega) h0 h1 h2) rfl rfl (by decide) (by decide) (Nat.le_of_ble_eq_true rfl) (by decide) (by decide) ?_
  refine Z.istore_n B dX2_readItem_10 (by decide) (L' := [(0, .ref 34), (1, .ref q), (2, .int (nI a)), (3, .int (nI 2))]) rfl ?_
  refine Z.iload_n B dX2_readItem_11 (x := nI 2) rfl ?_
  refine Z.iconst B dX2_readItem_12 (v := (-1)) rfl ?_
  refine Z.icmp_ne B dX2_readItem_13 (tgt := 17) rfl (fun h13 => ?_) (fun h13 => (zm1 (by omega) h13).elim)
  refine Z.aload_n B dX2_readItem_17 (v := .ref 34) rfl rfl ?_
  refine Z.getR (σ := (tS σ (a + 3) (-1) r)) B fX2_9_2 dX2_readItem_18 (hl.n (k := 34) (by decide)) (hl.k (k := 34) (by decide)) (by decide) (j := 35) (hl.r (k := 34) (f := 0) (by decide) (by decide)) ?_
  refine Z.iload_n B dX2_readItem_21 (x := nI 2) rfl ?_
  refine Z.callVI (σ := (tS σ (a + 3) (-1) r)) B (M' := mX1_hasRoomFor) (as := [.int (nI 2)]) (st := []) (v := .int (nI 1)) dX2_readItem_22 wX1_hasRoomFor iX1_hasRoomFor sX1_hasRoomFor kX2_50 (hl.n (k := 35) (by decide)) (hl.k (k := 35) (by decide)) (by decide) rfl rfl (t_X1_hasRoomFor_d_2_1 (σ := (tS σ (a + 3) (-1) r)) hl (by rw [tS_o (by decide) (by decide)]; exact hn) hn8 (by rw [tS_o (by decide) (by decide)]; exact hac) hac4 (by rw [tS_o (by decide) (by decide)]; exact hy) hy8 hr) rfl rfl (by decide) (by decide) (Nat.le_of_ble_eq_true rfl) (by decide) (by decide) ?_
  refine Z.if_neN B dX2_readItem_25 (tgt := 34) rfl (by omega) (fun h25 => ?_) (fun h25 => by exfalso; first | omega | contradiction | simp_all)
  refine Z.iload_n B dX2_readItem_34 (x := nI 2) rfl ?_
  refine Z.callSI (σ := (tS σ (a + 3) (-1) r)) B (M' := mX2_numbersBehind) (as := [.int (nI 2)]) (st := []) (v := .int (nI 2)) dX2_readItem_35 wX2_numbersBehind iX2_numbersBehind kX2_54 (t_X2_numbersBehind_2 (σ := (tS σ (a + 3) (-1) r))) rfl rfl (by decide) (by decide) (Nat.le_of_ble_eq_true rfl) (by decide) (by decide) ?_
  refine Z.istore B dX2_readItem_38 (by decide) (L' := [(0, .ref 34), (1, .ref q), (2, .int (nI a)), (3, .int (nI 2)), (4, .int (nI 2))]) rfl ?_
  refine Z.iconst B dX2_readItem_40 (v := nI 0) rfl ?_
  refine Z.istore B dX2_readItem_41 (by decide) (L' := [(0, .ref 34), (1, .ref q), (2, .int (nI a)), (3, .int (nI 2)), (4, .int (nI 2)), (5, .int (nI 0))]) rfl ?_
  have hloop43 : ∀ k : Nat, k ≤ 2 → Z κ 0 0 (tS σ (ps T (a + 3) k) (-1) (fi k (vs T (a + 3)) r)) 43 [(0, .ref 34), (1, .ref q), (2, .int (nI a)), (3, .int (nI 2)), (4, .int (nI 2)), (5, .int (nI k))] [] := by
    refine z_loop (fun k => 2 - k) (fun k ih hk => ?_)
    have hps := ps_le (T := T) (p := a + 3) k
    refine Z.iload B dX2_readItem_43 (x := nI k) rfl ?_
    refine Z.iload B dX2_readItem_45 (x := nI 2) rfl ?_
    refine Z.icmp_geN B dX2_readItem_47 (tgt := 78) rfl (by omega) (by omega) (fun h47 => ?_) (fun h47 => ?_)
    · skip
      obtain rfl : k = 2 := by omega
      refine Z.aload_n B dX2_readItem_78 (v := .ref 34) rfl rfl ?_
      refine Z.getI (σ := (tS σ (ps T (a + 3) 2) (-1) (fi 2 (vs T (a + 3)) r))) B fX2_23_2 dX2_readItem_79 (hl.n (k := 34) (by decide)) (hl.k (k := 34) (by decide)) (by decide) (v := (-1)) tS_f ?_
      refine Z.iconst B dX2_readItem_82 (v := (-1)) rfl ?_
      refine Z.icmp_ne B dX2_readItem_83 (tgt := 91) rfl (fun h83 => absurd rfl h83) (fun h83 => ?_)
      refine Z.aload_n B dX2_readItem_86 (v := .ref 34) rfl rfl ?_
      refine Z.iload_n B dX2_readItem_87 (x := nI 2) rfl ?_
      refine Z.callVA (σ := (tS σ (ps T (a + 3) 2) (-1) (fi 2 (vs T (a + 3)) r))) B (M' := mX2_tell) (as := [.int (nI 2)]) (st := []) dX2_readItem_88 wX2_tell iX2_tell sX2_tell kX2_66 (hl.n (k := 34) (by decide)) (hl.k (k := 34) (by decide)) (by decide) rfl rfl (t_X2_tell_2 (σ := (tS σ (ps T (a + 3) 2) (-1) (fi 2 (vs T (a + 3)) r))) hl (by rw [tS_o (by decide) (by decide)]; exact hn) hn8 (by rw [tS_o (by decide) (by decide)]; exact hac) hac4 (by rw [tS_o (by decide) (by decide)]; exact hy) hy8 hcl hr hkd (by rw [tS_r, fi_at (by decide)]; exact v0) (by rw [tS_r, fi_at (by decide)]; exact v1)) rfl rfl (by decide) (by decide) (by decide) (by decide) (by decide) (by rw [hn0]; exact Nat.le_refl _) (zLLc (show 34 < zN (tS σ (ps T (a + 3) 2) (-1) (fi 2 (vs T (a + 3)) r)) from (by have h66 := hl.1; show 34 < zN σ; omega)) (zLLc (show q < zN (tS σ (ps T (a + 3) 2) (-1) (fi 2 (vs T (a + 3)) r)) from (by have h66 := hl.1; show q < zN σ; omega)) (zLLc trivial (zLLc trivial (zLLc trivial (zLLc trivial zLL0)))))) zLS0 ?_
      show Z κ (0 + 1) (0 + 4) (aW (tS σ (ps T (a + 3) 2) (-1) (fi 2 (vs T (a + 3)) r)) 35 kd pa y) 91 [(0, .ref 34), (1, .ref q), (2, .int (nI a)), (3, .int (nI 2)), (4, .int (nI 2)), (5, .int (nI 2))] []
      refine Z.vret B Rt dX2_readItem_91 rfl (by decide) (by decide) ?_
      exact ⟨rfl, rfl⟩
    · skip
      refine Z.aload_n B dX2_readItem_50 (v := .ref 34) rfl rfl ?_
      refine Z.getI (σ := (tS σ (ps T (a + 3) k) (-1) (fi k (vs T (a + 3)) r))) B fX2_23_2 dX2_readItem_51 (hl.n (k := 34) (by decide)) (hl.k (k := 34) (by decide)) (by decide) (v := (-1)) tS_f ?_
      refine Z.iconst B dX2_readItem_54 (v := (-1)) rfl ?_
      refine Z.icmp_ne B dX2_readItem_55 (tgt := 78) rfl (fun h55 => absurd rfl h55) (fun h55 => ?_)
      refine Z.aload_n B dX2_readItem_58 (v := .ref 34) rfl rfl ?_
      refine Z.aload_n B dX2_readItem_59 (v := .ref q) rfl rfl ?_
      refine Z.iload B dX2_readItem_60 (x := nI k) rfl ?_
      refine Z.aload_n B dX2_readItem_62 (v := .ref 34) rfl rfl ?_
      refine Z.iload_n B dX2_readItem_63 (x := nI 2) rfl ?_
      refine Z.iload B dX2_readItem_64 (x := nI k) rfl ?_
      refine Z.callVI (σ := (tS σ (ps T (a + 3) k) (-1) (fi k (vs T (a + 3)) r))) B (M' := mX2_mostOf) (as := [.int (nI 2), .int (nI k)]) (st := [.int (nI k), .ref q, .ref 34]) (v := .int (zA2 k)) dX2_readItem_66 wX2_mostOf iX2_mostOf sX2_mostOf kX2_58 (hl.n (k := 34) (by decide)) (hl.k (k := 34) (by decide)) (by decide) rfl rfl (t_X2_mostOf_2 (σ := σ) (f := -1) (r := fi k (vs T (a + 3)) r) hl ht hq (a := ps T (a + 3) k) (by omega) (k := k) (by omega)) rfl rfl (by decide) (by decide) (Nat.le_of_ble_eq_true rfl) (by decide) (by decide) ?_
      refine Z.callVN (σ := (tS σ (ps T (a + 3) k) (-1) (fi k (vs T (a + 3)) r))) B (M' := mX2_readNumber) (as := [.ref q, .int (nI k), .int (zA2 k)]) (st := []) dX2_readItem_69 wX2_readNumber iX2_readNumber sX2_readNumber kX2_62 (hl.n (k := 34) (by decide)) (hl.k (k := 34) (by decide)) (by decide) rfl rfl (t_X2_num_ok (σ := σ) (r := fi k (vs T (a + 3)) r) hl ht hq (a := ps T (a + 3) k) (by omega) (k := k) (by omega) (hall k (by omega))) rfl rfl (by decide) (by decide) (Nat.le_of_ble_eq_true rfl) (by decide) (by decide) ?_
      refine Z.eqσ (τ := (tS σ (ps T (a + 3) (k + 1)) (-1) (fi (k + 1) (vs T (a + 3)) r))) (by rw [← fi_s (i := k) (f := vs T (a + 3)) (g := r) rfl]; rfl) ?_
      refine Z.iincN B dX2_readItem_72 (by decide) (a := k) rfl (L' := [(0, .ref 34), (1, .ref q), (2, .int (nI a)), (3, .int (nI 2)), (4, .int (nI 2)), (5, .int (nI (k + 1)))]) rfl ?_
      refine Z.goto B dX2_readItem_75 (tgt := 43) rfl ?_
      exact ih (k + 1) (by omega) (by omega)
  have h0 := hloop43 0 (Nat.zero_le _)
  rw [fi_0] at h0
  exact h0

theorem t_X2_item_c3 {σ : zSt} {r : Nat → Int32} (hl : Lay σ) {q : Nat} {T : Nat → Int32} (ht : zTx σ q T) (hq : q < 34) {a : Nat} (ha : a < 2 ^ 29) {n ac y : Nat} (hn : zX σ 35 2 = nI n) (hn8 : n ≤ 8) (hac : zX σ 35 5 = nI ac) (hac4 : ac ≤ 4) (hy : zX σ 35 7 = nI y) (hy8 : y ≤ 8) (h0 : ¬ al T a 0 = 5) (h1 : ¬ al T a 1 = 5) (h2 : ¬ al T a 2 = 3) (h3 : al T a 3 = 5) {k0 : Nat} (hk0 : k0 < 1) (hall : ∀ k, k < k0 → nok T (ps T (a + 5) k) (nI ac - nI 1)) (hb : ¬ nok T (ps T (a + 5) k0) (nI ac - nI 1))  : Dt mX2_readItem [.ref 34, .ref q] (tS σ a (-1) r) (none) (tS σ (nat_ T (ps T (a + 5) k0)) (nI (nbd T (ps T (a + 5) k0))) (fi k0 (vs T (a + 5)) r)) := by
  refine Dt.ofN (by decide) (Nat.le_of_ble_eq_true rfl) fun κ B Rt hn0 => ?_
  show Z κ 0 0 (tS σ a (-1) r) 0 [(0, .ref 34), (1, .ref q)] []
  refine Z.aload_n B dX2_readItem_0 (v := .ref 34) rfl rfl ?_
  refine Z.getI (σ := (tS σ a (-1) r)) B fX2_19_2 dX2_readItem_1 (hl.n (k := 34) (by decide)) (hl.k (k := 34) (by decide)) (by decide) (v := nI a) tS_a ?_
  refine Z.istore_n B dX2_readItem_4 (by decide) (L' := [(0, .ref 34), (1, .ref q), (2, .int (nI a))]) rfl ?_
  refine Z.aload_n B dX2_readItem_5 (v := .ref 34) rfl rfl ?_
  refine Z.aload_n B dX2_readItem_6 (v := .ref q) rfl rfl ?_
  refine Z.callVI (σ := (tS σ a (-1) r)) B (M' := mX2_readWord) (as := [.ref q]) (st := []) (v := .int (nI 3)) dX2_readItem_7 wX2_readWord iX2_readWord sX2_readWord kX2_46 (hl.n (k := 34) (by decide)) (hl.k (k := 34) (by decide)) (by decide) rfl rfl (t_X2_readWord_3 (σ := σ) (f := -1) (r := r) hl ht hq (by omega) h0 h1 h2 h3) rfl rfl (by decide) (by decide) (Nat.le_of_ble_eq_true rfl) (by decide) (by decide) ?_
  refine Z.istore_n B dX2_readItem_10 (by decide) (L' := [(0, .ref 34), (1, .ref q), (2, .int (nI a)), (3, .int (nI 3))]) rfl ?_
  refine Z.iload_n B dX2_readItem_11 (x := nI 3) rfl ?_
  refine Z.iconst B dX2_readItem_12 (v := (-1)) rfl ?_
  refine Z.icmp_ne B dX2_readItem_13 (tgt := 17) rfl (fun h13 => ?_) (fun h13 => (zm1 (by omega) h13).elim)
  refine Z.aload_n B dX2_readItem_17 (v := .ref 34) rfl rfl ?_
  refine Z.getR (σ := (tS σ (a + 5) (-1) r)) B fX2_9_2 dX2_readItem_18 (hl.n (k := 34) (by decide)) (hl.k (k := 34) (by decide)) (by decide) (j := 35) (hl.r (k := 34) (f := 0) (by decide) (by decide)) ?_
  refine Z.iload_n B dX2_readItem_21 (x := nI 3) rfl ?_
  refine Z.callVI (σ := (tS σ (a + 5) (-1) r)) B (M' := mX1_hasRoomFor) (as := [.int (nI 3)]) (st := []) (v := .int (nI 1)) dX2_readItem_22 wX1_hasRoomFor iX1_hasRoomFor sX1_hasRoomFor kX2_50 (hl.n (k := 35) (by decide)) (hl.k (k := 35) (by decide)) (by decide) rfl rfl (t_X1_hasRoomFor_d_3_1 (σ := (tS σ (a + 5) (-1) r)) hl (by rw [tS_o (by decide) (by decide)]; exact hn) hn8 (by rw [tS_o (by decide) (by decide)]; exact hac) hac4 (by rw [tS_o (by decide) (by decide)]; exact hy) hy8) rfl rfl (by decide) (by decide) (Nat.le_of_ble_eq_true rfl) (by decide) (by decide) ?_
  refine Z.if_neN B dX2_readItem_25 (tgt := 34) rfl (by omega) (fun h25 => ?_) (fun h25 => by exfalso; first | omega | contradiction | simp_all)
  refine Z.iload_n B dX2_readItem_34 (x := nI 3) rfl ?_
  refine Z.callSI (σ := (tS σ (a + 5) (-1) r)) B (M' := mX2_numbersBehind) (as := [.int (nI 3)]) (st := []) (v := .int (nI 1)) dX2_readItem_35 wX2_numbersBehind iX2_numbersBehind kX2_54 (t_X2_numbersBehind_3 (σ := (tS σ (a + 5) (-1) r))) rfl rfl (by decide) (by decide) (Nat.le_of_ble_eq_true rfl) (by decide) (by decide) ?_
  refine Z.istore B dX2_readItem_38 (by decide) (L' := [(0, .ref 34), (1, .ref q), (2, .int (nI a)), (3, .int (nI 3)), (4, .int (nI 1))]) rfl ?_
  refine Z.iconst B dX2_readItem_40 (v := nI 0) rfl ?_
  refine Z.istore B dX2_readItem_41 (by decide) (L' := [(0, .ref 34), (1, .ref q), (2, .int (nI a)), (3, .int (nI 3)), (4, .int (nI 1)), (5, .int (nI 0))]) rfl ?_
  have hloop43 : ∀ k : Nat, k ≤ k0 → Z κ 0 0 (tS σ (ps T (a + 5) k) (-1) (fi k (vs T (a + 5)) r)) 43 [(0, .ref 34), (1, .ref q), (2, .int (nI a)), (3, .int (nI 3)), (4, .int (nI 1)), (5, .int (nI k))] [] := by
    refine z_loop (fun k => 1 - k) (fun k ih hk => ?_)
    have hps := ps_le (T := T) (p := a + 5) k
    refine Z.iload B dX2_readItem_43 (x := nI k) rfl ?_
    refine Z.iload B dX2_readItem_45 (x := nI 1) rfl ?_
    refine Z.icmp_geN B dX2_readItem_47 (tgt := 78) rfl (by omega) (by omega) (fun h47 => by exfalso; first | omega | contradiction | simp_all) (fun h47 => ?_)
    refine Z.aload_n B dX2_readItem_50 (v := .ref 34) rfl rfl ?_
    refine Z.getI (σ := (tS σ (ps T (a + 5) k) (-1) (fi k (vs T (a + 5)) r))) B fX2_23_2 dX2_readItem_51 (hl.n (k := 34) (by decide)) (hl.k (k := 34) (by decide)) (by decide) (v := (-1)) tS_f ?_
    refine Z.iconst B dX2_readItem_54 (v := (-1)) rfl ?_
    refine Z.icmp_ne B dX2_readItem_55 (tgt := 78) rfl (fun h55 => absurd rfl h55) (fun h55 => ?_)
    refine Z.aload_n B dX2_readItem_58 (v := .ref 34) rfl rfl ?_
    refine Z.aload_n B dX2_readItem_59 (v := .ref q) rfl rfl ?_
    refine Z.iload B dX2_readItem_60 (x := nI k) rfl ?_
    refine Z.aload_n B dX2_readItem_62 (v := .ref 34) rfl rfl ?_
    refine Z.iload_n B dX2_readItem_63 (x := nI 3) rfl ?_
    refine Z.iload B dX2_readItem_64 (x := nI k) rfl ?_
    refine Z.callVI (σ := (tS σ (ps T (a + 5) k) (-1) (fi k (vs T (a + 5)) r))) B (M' := mX2_mostOf) (as := [.int (nI 3), .int (nI k)]) (st := [.int (nI k), .ref q, .ref 34]) (v := .int (nI ac - nI 1)) dX2_readItem_66 wX2_mostOf iX2_mostOf sX2_mostOf kX2_58 (hl.n (k := 34) (by decide)) (hl.k (k := 34) (by decide)) (by decide) rfl rfl (t_X2_mostOf_3 (σ := σ) (f := -1) (r := fi k (vs T (a + 5)) r) hl ht hq (a := ps T (a + 5) k) (by omega) (k := k) (by omega) hn hn8 hac hac4 hy hy8) rfl rfl (by decide) (by decide) (Nat.le_of_ble_eq_true rfl) (by decide) (by decide) ?_
    rcases (by omega : k < k0 ∨ k0 = k) with hlt | rfl
    · skip
      refine Z.callVN (σ := (tS σ (ps T (a + 5) k) (-1) (fi k (vs T (a + 5)) r))) B (M' := mX2_readNumber) (as := [.ref q, .int (nI k), .int (nI ac - nI 1)]) (st := []) dX2_readItem_69 wX2_readNumber iX2_readNumber sX2_readNumber kX2_62 (hl.n (k := 34) (by decide)) (hl.k (k := 34) (by decide)) (by decide) rfl rfl (t_X2_num_ok (σ := σ) (r := fi k (vs T (a + 5)) r) hl ht hq (a := ps T (a + 5) k) (by omega) (k := k) (by omega) (hall k (by omega))) rfl rfl (by decide) (by decide) (Nat.le_of_ble_eq_true rfl) (by decide) (by decide) ?_
      refine Z.eqσ (τ := (tS σ (ps T (a + 5) (k + 1)) (-1) (fi (k + 1) (vs T (a + 5)) r))) (by rw [← fi_s (i := k) (f := vs T (a + 5)) (g := r) rfl]; rfl) ?_
      refine Z.iincN B dX2_readItem_72 (by decide) (a := k) rfl (L' := [(0, .ref 34), (1, .ref q), (2, .int (nI a)), (3, .int (nI 3)), (4, .int (nI 1)), (5, .int (nI (k + 1)))]) rfl ?_
      refine Z.goto B dX2_readItem_75 (tgt := 43) rfl ?_
      exact ih (k + 1) (by omega) (by omega)
    · skip
      refine Z.callVN (σ := (tS σ (ps T (a + 5) k0) (-1) (fi k0 (vs T (a + 5)) r))) B (M' := mX2_readNumber) (as := [.ref q, .int (nI k0), .int (nI ac - nI 1)]) (st := []) dX2_readItem_69 wX2_readNumber iX2_readNumber sX2_readNumber kX2_62 (hl.n (k := 34) (by decide)) (hl.k (k := 34) (by decide)) (by decide) rfl rfl (t_X2_num_bad (σ := σ) (r := fi k0 (vs T (a + 5)) r) hl ht hq (a := ps T (a + 5) k0) (by omega) (k := k0) (by omega) hb) rfl rfl (by decide) (by decide) (Nat.le_of_ble_eq_true rfl) (by decide) (by decide) ?_
      refine Z.iincN B dX2_readItem_72 (by decide) (a := k0) rfl (L' := [(0, .ref 34), (1, .ref q), (2, .int (nI a)), (3, .int (nI 3)), (4, .int (nI 1)), (5, .int (nI (k0 + 1)))]) rfl ?_
      refine Z.goto B dX2_readItem_75 (tgt := 43) rfl ?_
      have hnb := nbd_le (T := T) (q := ps T (a + 5) k0)
      refine Z.iload B dX2_readItem_43 (x := nI (k0 + 1)) rfl ?_
      refine Z.iload B dX2_readItem_45 (x := nI 1) rfl ?_
      refine Z.icmp_geN B dX2_readItem_47 (tgt := 78) rfl (by omega) (by omega) (fun h47 => ?_) (fun h47 => ?_)
      · skip
        refine Z.aload_n B dX2_readItem_78 (v := .ref 34) rfl rfl ?_
        refine Z.getI (σ := (tS σ (nat_ T (ps T (a + 5) k0)) (nI (nbd T (ps T (a + 5) k0))) (fi k0 (vs T (a + 5)) r))) B fX2_23_2 dX2_readItem_79 (hl.n (k := 34) (by decide)) (hl.k (k := 34) (by decide)) (by decide) (v := nI (nbd T (ps T (a + 5) k0))) tS_f ?_
        refine Z.iconst B dX2_readItem_82 (v := (-1)) rfl ?_
        refine Z.icmp_ne B dX2_readItem_83 (tgt := 91) rfl (fun h83 => ?_) (fun h83 => (zm1 (by omega) h83).elim)
        refine Z.vret B Rt dX2_readItem_91 rfl (by decide) (by decide) ?_
        exact ⟨rfl, rfl⟩
      · skip
        refine Z.aload_n B dX2_readItem_50 (v := .ref 34) rfl rfl ?_
        refine Z.getI (σ := (tS σ (nat_ T (ps T (a + 5) k0)) (nI (nbd T (ps T (a + 5) k0))) (fi k0 (vs T (a + 5)) r))) B fX2_23_2 dX2_readItem_51 (hl.n (k := 34) (by decide)) (hl.k (k := 34) (by decide)) (by decide) (v := nI (nbd T (ps T (a + 5) k0))) tS_f ?_
        refine Z.iconst B dX2_readItem_54 (v := (-1)) rfl ?_
        refine Z.icmp_ne B dX2_readItem_55 (tgt := 78) rfl (fun h55 => ?_) (fun h55 => (zm1 (by omega) h55).elim)
        refine Z.aload_n B dX2_readItem_78 (v := .ref 34) rfl rfl ?_
        refine Z.getI (σ := (tS σ (nat_ T (ps T (a + 5) k0)) (nI (nbd T (ps T (a + 5) k0))) (fi k0 (vs T (a + 5)) r))) B fX2_23_2 dX2_readItem_79 (hl.n (k := 34) (by decide)) (hl.k (k := 34) (by decide)) (by decide) (v := nI (nbd T (ps T (a + 5) k0))) tS_f ?_
        refine Z.iconst B dX2_readItem_82 (v := (-1)) rfl ?_
        refine Z.icmp_ne B dX2_readItem_83 (tgt := 91) rfl (fun h83 => ?_) (fun h83 => (zm1 (by omega) h83).elim)
        refine Z.vret B Rt dX2_readItem_91 rfl (by decide) (by decide) ?_
        exact ⟨rfl, rfl⟩
  have h0 := hloop43 0 (Nat.zero_le _)
  rw [fi_0] at h0
  exact h0

theorem t_X2_item_d3 {σ : zSt} {r : Nat → Int32} (hl : Lay σ) {q : Nat} {T : Nat → Int32} (ht : zTx σ q T) (hq : q < 34) {a : Nat} (ha : a < 2 ^ 29) {n ac y : Nat} (hn : zX σ 35 2 = nI n) (hn8 : n ≤ 8) (hac : zX σ 35 5 = nI ac) (hac4 : ac ≤ 4) (hy : zX σ 35 7 = nI y) (hy8 : y ≤ 8) (h0 : ¬ al T a 0 = 5) (h1 : ¬ al T a 1 = 5) (h2 : ¬ al T a 2 = 3) (h3 : al T a 3 = 5) (hall : ∀ k, k < 1 → nok T (ps T (a + 5) k) (nI ac - nI 1)) {od : Nat → Nat} (ho : ∀ i, i < ac → zX σ 38 i = nI (od i) ∧ od i < ac) {p x : Nat} (hp : p < ac) (hx : od p = x) (hmin : ∀ j, j < p → od j ≠ x) (v0 : vs T (a + 5) 0 = nI x)  : Dt mX2_readItem [.ref 34, .ref q] (tS σ a (-1) r) (none) (zuX (tS σ (ps T (a + 5) 1) (-1) (fi 1 (vs T (a + 5)) r)) 38 (pf p x (zX (tS σ (ps T (a + 5) 1) (-1) (fi 1 (vs T (a + 5)) r)) 38))) := by
  refine Dt.ofN (by decide) (Nat.le_of_ble_eq_true rfl) fun κ B Rt hn0 => ?_
  show Z κ 0 0 (tS σ a (-1) r) 0 [(0, .ref 34), (1, .ref q)] []
  refine Z.aload_n B dX2_readItem_0 (v := .ref 34) rfl rfl ?_
  refine Z.getI (σ := (tS σ a (-1) r)) B fX2_19_2 dX2_readItem_1 (hl.n (k := 34) (by decide)) (hl.k (k := 34) (by decide)) (by decide) (v := nI a) tS_a ?_
  refine Z.istore_n B dX2_readItem_4 (by decide) (L' := [(0, .ref 34), (1, .ref q), (2, .int (nI a))]) rfl ?_
  refine Z.aload_n B dX2_readItem_5 (v := .ref 34) rfl rfl ?_
  refine Z.aload_n B dX2_readItem_6 (v := .ref q) rfl rfl ?_
  refine Z.callVI (σ := (tS σ a (-1) r)) B (M' := mX2_readWord) (as := [.ref q]) (st := []) (v := .int (nI 3)) dX2_readItem_7 wX2_readWord iX2_readWord sX2_readWord kX2_46 (hl.n (k := 34) (by decide)) (hl.k (k := 34) (by decide)) (by decide) rfl rfl (t_X2_readWord_3 (σ := σ) (f := -1) (r := r) hl ht hq (by omega) h0 h1 h2 h3) rfl rfl (by decide) (by decide) (Nat.le_of_ble_eq_true rfl) (by decide) (by decide) ?_
  refine Z.istore_n B dX2_readItem_10 (by decide) (L' := [(0, .ref 34), (1, .ref q), (2, .int (nI a)), (3, .int (nI 3))]) rfl ?_
  refine Z.iload_n B dX2_readItem_11 (x := nI 3) rfl ?_
  refine Z.iconst B dX2_readItem_12 (v := (-1)) rfl ?_
  refine Z.icmp_ne B dX2_readItem_13 (tgt := 17) rfl (fun h13 => ?_) (fun h13 => (zm1 (by omega) h13).elim)
  refine Z.aload_n B dX2_readItem_17 (v := .ref 34) rfl rfl ?_
  refine Z.getR (σ := (tS σ (a + 5) (-1) r)) B fX2_9_2 dX2_readItem_18 (hl.n (k := 34) (by decide)) (hl.k (k := 34) (by decide)) (by decide) (j := 35) (hl.r (k := 34) (f := 0) (by decide) (by decide)) ?_
  refine Z.iload_n B dX2_readItem_21 (x := nI 3) rfl ?_
  refine Z.callVI (σ := (tS σ (a + 5) (-1) r)) B (M' := mX1_hasRoomFor) (as := [.int (nI 3)]) (st := []) (v := .int (nI 1)) dX2_readItem_22 wX1_hasRoomFor iX1_hasRoomFor sX1_hasRoomFor kX2_50 (hl.n (k := 35) (by decide)) (hl.k (k := 35) (by decide)) (by decide) rfl rfl (t_X1_hasRoomFor_d_3_1 (σ := (tS σ (a + 5) (-1) r)) hl (by rw [tS_o (by decide) (by decide)]; exact hn) hn8 (by rw [tS_o (by decide) (by decide)]; exact hac) hac4 (by rw [tS_o (by decide) (by decide)]; exact hy) hy8) rfl rfl (by decide) (by decide) (Nat.le_of_ble_eq_true rfl) (by decide) (by decide) ?_
  refine Z.if_neN B dX2_readItem_25 (tgt := 34) rfl (by omega) (fun h25 => ?_) (fun h25 => by exfalso; first | omega | contradiction | simp_all)
  refine Z.iload_n B dX2_readItem_34 (x := nI 3) rfl ?_
  refine Z.callSI (σ := (tS σ (a + 5) (-1) r)) B (M' := mX2_numbersBehind) (as := [.int (nI 3)]) (st := []) (v := .int (nI 1)) dX2_readItem_35 wX2_numbersBehind iX2_numbersBehind kX2_54 (t_X2_numbersBehind_3 (σ := (tS σ (a + 5) (-1) r))) rfl rfl (by decide) (by decide) (Nat.le_of_ble_eq_true rfl) (by decide) (by decide) ?_
  refine Z.istore B dX2_readItem_38 (by decide) (L' := [(0, .ref 34), (1, .ref q), (2, .int (nI a)), (3, .int (nI 3)), (4, .int (nI 1))]) rfl ?_
  refine Z.iconst B dX2_readItem_40 (v := nI 0) rfl ?_
  refine Z.istore B dX2_readItem_41 (by decide) (L' := [(0, .ref 34), (1, .ref q), (2, .int (nI a)), (3, .int (nI 3)), (4, .int (nI 1)), (5, .int (nI 0))]) rfl ?_
  have hloop43 : ∀ k : Nat, k ≤ 1 → Z κ 0 0 (tS σ (ps T (a + 5) k) (-1) (fi k (vs T (a + 5)) r)) 43 [(0, .ref 34), (1, .ref q), (2, .int (nI a)), (3, .int (nI 3)), (4, .int (nI 1)), (5, .int (nI k))] [] := by
    refine z_loop (fun k => 1 - k) (fun k ih hk => ?_)
    have hps := ps_le (T := T) (p := a + 5) k
    refine Z.iload B dX2_readItem_43 (x := nI k) rfl ?_
    refine Z.iload B dX2_readItem_45 (x := nI 1) rfl ?_
    refine Z.icmp_geN B dX2_readItem_47 (tgt := 78) rfl (by omega) (by omega) (fun h47 => ?_) (fun h47 => ?_)
    · skip
      obtain rfl : k = 1 := by omega
      refine Z.aload_n B dX2_readItem_78 (v := .ref 34) rfl rfl ?_
      refine Z.getI (σ := (tS σ (ps T (a + 5) 1) (-1) (fi 1 (vs T (a + 5)) r))) B fX2_23_2 dX2_readItem_79 (hl.n (k := 34) (by decide)) (hl.k (k := 34) (by decide)) (by decide) (v := (-1)) tS_f ?_
      refine Z.iconst B dX2_readItem_82 (v := (-1)) rfl ?_
      refine Z.icmp_ne B dX2_readItem_83 (tgt := 91) rfl (fun h83 => absurd rfl h83) (fun h83 => ?_)
      refine Z.aload_n B dX2_readItem_86 (v := .ref 34) rfl rfl ?_
      refine Z.iload_n B dX2_readItem_87 (x := nI 3) rfl ?_
      refine Z.callVA (σ := (tS σ (ps T (a + 5) 1) (-1) (fi 1 (vs T (a + 5)) r))) B (M' := mX2_tell) (as := [.int (nI 3)]) (st := []) dX2_readItem_88 wX2_tell iX2_tell sX2_tell kX2_66 (hl.n (k := 34) (by decide)) (hl.k (k := 34) (by decide)) (by decide) rfl rfl (t_X2_tell_3 (σ := (tS σ (ps T (a + 5) 1) (-1) (fi 1 (vs T (a + 5)) r))) hl (by rw [tS_o (by decide) (by decide)]; exact hn) hn8 (by rw [tS_o (by decide) (by decide)]; exact hac) hac4 (by rw [tS_o (by decide) (by decide)]; exact hy) hy8 (od := od) (by rw [tS_o (by decide) (by decide)]; exact ho) hp hx hmin (by rw [tS_r, fi_at (by decide)]; exact v0)) rfl rfl (by decide) (by decide) (by decide) (by decide) (by decide) (by rw [hn0]; exact Nat.le_refl _) (zLLc (show 34 < zN (tS σ (ps T (a + 5) 1) (-1) (fi 1 (vs T (a + 5)) r)) from (by have h66 := hl.1; show 34 < zN σ; omega)) (zLLc (show q < zN (tS σ (ps T (a + 5) 1) (-1) (fi 1 (vs T (a + 5)) r)) from (by have h66 := hl.1; show q < zN σ; omega)) (zLLc trivial (zLLc trivial (zLLc trivial (zLLc trivial zLL0)))))) zLS0 ?_
      show Z κ (0 + 1) (0 + 4) (zuX (tS σ (ps T (a + 5) 1) (-1) (fi 1 (vs T (a + 5)) r)) 38 (pf p x (zX (tS σ (ps T (a + 5) 1) (-1) (fi 1 (vs T (a + 5)) r)) 38))) 91 [(0, .ref 34), (1, .ref q), (2, .int (nI a)), (3, .int (nI 3)), (4, .int (nI 1)), (5, .int (nI 1))] []
      refine Z.vret B Rt dX2_readItem_91 rfl (by decide) (by decide) ?_
      exact ⟨rfl, rfl⟩
    · skip
      refine Z.aload_n B dX2_readItem_50 (v := .ref 34) rfl rfl ?_
      refine Z.getI (σ := (tS σ (ps T (a + 5) k) (-1) (fi k (vs T (a + 5)) r))) B fX2_23_2 dX2_readItem_51 (hl.n (k := 34) (by decide)) (hl.k (k := 34) (by decide)) (by decide) (v := (-1)) tS_f ?_
      refine Z.iconst B dX2_readItem_54 (v := (-1)) rfl ?_
      refine Z.icmp_ne B dX2_readItem_55 (tgt := 78) rfl (fun h55 => absurd rfl h55) (fun h55 => ?_)
      refine Z.aload_n B dX2_readItem_58 (v := .ref 34) rfl rfl ?_
      refine Z.aload_n B dX2_readItem_59 (v := .ref q) rfl rfl ?_
      refine Z.iload B dX2_readItem_60 (x := nI k) rfl ?_
      refine Z.aload_n B dX2_readItem_62 (v := .ref 34) rfl rfl ?_
      refine Z.iload_n B dX2_readItem_63 (x := nI 3) rfl ?_
      refine Z.iload B dX2_readItem_64 (x := nI k) rfl ?_
      refine Z.callVI (σ := (tS σ (ps T (a + 5) k) (-1) (fi k (vs T (a + 5)) r))) B (M' := mX2_mostOf) (as := [.int (nI 3), .int (nI k)]) (st := [.int (nI k), .ref q, .ref 34]) (v := .int (nI ac - nI 1)) dX2_readItem_66 wX2_mostOf iX2_mostOf sX2_mostOf kX2_58 (hl.n (k := 34) (by decide)) (hl.k (k := 34) (by decide)) (by decide) rfl rfl (t_X2_mostOf_3 (σ := σ) (f := -1) (r := fi k (vs T (a + 5)) r) hl ht hq (a := ps T (a + 5) k) (by omega) (k := k) (by omega) hn hn8 hac hac4 hy hy8) rfl rfl (by decide) (by decide) (Nat.le_of_ble_eq_true rfl) (by decide) (by decide) ?_
      refine Z.callVN (σ := (tS σ (ps T (a + 5) k) (-1) (fi k (vs T (a + 5)) r))) B (M' := mX2_readNumber) (as := [.ref q, .int (nI k), .int (nI ac - nI 1)]) (st := []) dX2_readItem_69 wX2_readNumber iX2_readNumber sX2_readNumber kX2_62 (hl.n (k := 34) (by decide)) (hl.k (k := 34) (by decide)) (by decide) rfl rfl (t_X2_num_ok (σ := σ) (r := fi k (vs T (a + 5)) r) hl ht hq (a := ps T (a + 5) k) (by omega) (k := k) (by omega) (hall k (by omega))) rfl rfl (by decide) (by decide) (Nat.le_of_ble_eq_true rfl) (by decide) (by decide) ?_
      refine Z.eqσ (τ := (tS σ (ps T (a + 5) (k + 1)) (-1) (fi (k + 1) (vs T (a + 5)) r))) (by rw [← fi_s (i := k) (f := vs T (a + 5)) (g := r) rfl]; rfl) ?_
      refine Z.iincN B dX2_readItem_72 (by decide) (a := k) rfl (L' := [(0, .ref 34), (1, .ref q), (2, .int (nI a)), (3, .int (nI 3)), (4, .int (nI 1)), (5, .int (nI (k + 1)))]) rfl ?_
      refine Z.goto B dX2_readItem_75 (tgt := 43) rfl ?_
      exact ih (k + 1) (by omega) (by omega)
  have h0 := hloop43 0 (Nat.zero_le _)
  rw [fi_0] at h0
  exact h0
