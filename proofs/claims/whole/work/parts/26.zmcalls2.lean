/-! the model's calls, second; the class's come and act -/
theorem gI_keepn {f : Nat → Int32} {i : Nat} (h1 : ¬ gI f i = (-1)) (h2 : ¬ gm f i < f i) : gI f (i + 1) = gI f i ∧ gm f (i + 1) = gm f i := gI_keep h1 (by rw [zle_iff]; rw [zlt_iff] at h2; omega)

theorem t_X12_comesBy {σ : zSt} (hl : Lay σ) {n r : Nat} (hn : n ≤ 8) (h1 : 1 ≤ n) (hr : r < n) : Dt mX12_comesBy [.ref 45, .int (nI n), .int (nI r)] σ (some (.int (cb n r))) σ := by
  refine Dt.of (by decide) (Nat.le_of_ble_eq_true rfl) fun κ B Rt => ?_
  show Z κ 0 0 σ 0 [(0, .ref 45), (1, .int (nI n)), (2, .int (nI r))] []
  refine Z.iconst B dX12_comesBy_0 (v := nI 1) rfl ?_
  refine Z.istore_n B dX12_comesBy_1 (by decide) (L' := [(0, .ref 45), (1, .int (nI n)), (2, .int (nI r)), (3, .int (nI 1))]) rfl ?_
  refine Z.iconst B dX12_comesBy_2 (v := nI 2) rfl ?_
  refine Z.istore B dX12_comesBy_3 (by decide) (L' := [(0, .ref 45), (1, .int (nI n)), (2, .int (nI r)), (3, .int (nI 1)), (4, .int (nI 2))]) rfl ?_
  have hloop5 : ∀ i : Nat, i ≤ n - 2 → Z κ 0 0 σ 5 [(0, .ref 45), (1, .int (nI n)), (2, .int (nI r)), (3, .int (fc i)), (4, .int (nI (i + 2)))] [] := by
    refine z_loop (fun i => n - i) (fun i ih hi => ?_)
    refine Z.iload B dX12_comesBy_5 (x := nI (i + 2)) rfl ?_
    refine Z.iload_n B dX12_comesBy_7 (x := nI n) rfl ?_
    refine Z.icmp_geN B dX12_comesBy_8 (tgt := 22) rfl (by omega) (by omega) (fun h8 => ?_) (fun h8 => ?_)
    · skip
      obtain rfl : (n - 2) = i := by omega
      refine Z.iload_n B dX12_comesBy_22 (x := nI r) rfl ?_
      refine Z.if_neN B dX12_comesBy_23 (tgt := 28) rfl (by omega) (fun h23 => ?_) (fun h23 => ?_)
      · skip
        refine Z.iconst B dX12_comesBy_28 (v := nI 0) rfl ?_
        refine Z.istore B dX12_comesBy_29 (by decide) (L' := [(0, .ref 45), (1, .int (nI n)), (2, .int (nI r)), (3, .int (fc (n - 2))), (4, .int (nI 0))]) rfl ?_
        refine Z.iload_n B dX12_comesBy_31 (x := nI r) rfl ?_
        refine Z.istore B dX12_comesBy_32 (by decide) (L' := [(0, .ref 45), (1, .int (nI n)), (2, .int (nI r)), (3, .int (fc (n - 2))), (4, .int (nI 0)), (5, .int (nI r))]) rfl ?_
        have hloop34 : ∀ i : Nat, i ≤ n - r → Z κ 0 0 σ 34 [(0, .ref 45), (1, .int (nI n)), (2, .int (nI r)), (3, .int (fc (n - 2))), (4, .int (cs (fc (n - 2)) r i)), (5, .int (nI (r + i)))] [] := by
          refine z_loop (fun i => n - i) (fun i ih hi => ?_)
          refine Z.iload B dX12_comesBy_34 (x := nI (r + i)) rfl ?_
          refine Z.iload_n B dX12_comesBy_36 (x := nI n) rfl ?_
          refine Z.icmp_geN B dX12_comesBy_37 (tgt := 57) rfl (by omega) (by omega) (fun h37 => ?_) (fun h37 => ?_)
          · skip
            obtain rfl : (n - r) = i := by omega
            refine Z.iload B dX12_comesBy_57 (x := cs (fc (n - 2)) r (n - r)) rfl ?_
            refine Z.iret B Rt dX12_comesBy_59 (ty := .int) rfl rfl (by decide) (by decide) ?_
            exact ⟨by unfold cb; rw [if_neg h23], rfl⟩
          · skip
            refine Z.iload B dX12_comesBy_40 (x := cs (fc (n - 2)) r i) rfl ?_
            refine Z.iload_n B dX12_comesBy_42 (x := fc (n - 2)) rfl ?_
            refine Z.iload B dX12_comesBy_43 (x := nI (r + i)) rfl ?_
            refine Z.idiv B dX12_comesBy_45 (nI_ne0 (by omega) (by omega)) ?_
            refine Z.iload_n B dX12_comesBy_46 (x := nI r) rfl ?_
            refine Z.imul B dX12_comesBy_47 ?_
            refine Z.iadd B dX12_comesBy_48 ?_
            refine Z.istore B dX12_comesBy_49 (by decide) (L' := [(0, .ref 45), (1, .int (nI n)), (2, .int (nI r)), (3, .int (fc (n - 2))), (4, .int ((cs (fc (n - 2)) r i) + (((fc (n - 2)) / (nI (r + i))) * (nI r)))), (5, .int (nI (r + i)))]) rfl ?_
            refine Z.iincN B dX12_comesBy_51 (by decide) (a := r + i) rfl (L' := [(0, .ref 45), (1, .int (nI n)), (2, .int (nI r)), (3, .int (fc (n - 2))), (4, .int ((cs (fc (n - 2)) r i) + (((fc (n - 2)) / (nI (r + i))) * (nI r)))), (5, .int (nI (r + i + 1)))]) rfl ?_
            refine Z.goto B dX12_comesBy_54 (tgt := 34) rfl ?_
            exact ih (i + 1) (by omega) (by omega)
        exact hloop34 0 (Nat.zero_le _)
      · skip
        refine Z.iload_n B dX12_comesBy_26 (x := fc (n - 2)) rfl ?_
        refine Z.iret B Rt dX12_comesBy_27 (ty := .int) rfl rfl (by decide) (by decide) ?_
        exact ⟨by unfold cb; rw [if_pos h23], rfl⟩
    · skip
      refine Z.iload_n B dX12_comesBy_11 (x := fc i) rfl ?_
      refine Z.iload B dX12_comesBy_12 (x := nI (i + 2)) rfl ?_
      refine Z.imul B dX12_comesBy_14 ?_
      refine Z.istore_n B dX12_comesBy_15 (by decide) (L' := [(0, .ref 45), (1, .int (nI n)), (2, .int (nI r)), (3, .int ((fc i) * (nI (i + 2)))), (4, .int (nI (i + 2)))]) rfl ?_
      refine Z.iincN B dX12_comesBy_16 (by decide) (a := i + 2) rfl (L' := [(0, .ref 45), (1, .int (nI n)), (2, .int (nI r)), (3, .int ((fc i) * (nI (i + 2)))), (4, .int (nI (i + 2 + 1)))]) rfl ?_
      refine Z.goto B dX12_comesBy_19 (tgt := 5) rfl ?_
      exact ih (i + 1) (by omega) (by omega)
  exact hloop5 0 (Nat.zero_le _)

theorem t_M_comes_1 {σ : zSt} (hl : Lay σ) {n r : Int32} (hn : n < nI 1 ∨ nI 8 < n) : Dt mX12_comes [.ref 45, .int n, .int r] σ (some (.int (-6))) (zuX σ 46 (upd (zX σ 46) 6 (zX σ 46 6 + nI 1))) := by
  refine Dt.of (by decide) (Nat.le_of_ble_eq_true rfl) fun κ B Rt => ?_
  show Z κ 0 0 σ 0 [(0, .ref 45), (1, .int n), (2, .int r)] []
  refine Z.iload_n B dX12_comes_0 (x := n) rfl ?_
  refine Z.iconst B dX12_comes_1 (v := nI 1) rfl ?_
  refine Z.icmp_lt B dX12_comes_2 (tgt := 20) rfl (fun h2 => ?_) (fun h2 => ?_)
  · skip
    refine Z.aload_n B dX12_comes_20 (v := .ref 45) rfl rfl ?_
    refine Z.bipush B dX12_comes_21 (v := (-6)) rfl ?_
    refine Z.callVI (σ := σ) B (M' := mX12_no) (as := [.int (-6)]) (st := []) (v := .int (-6)) dX12_comes_23 wX12_no iX12_no sX12_no kX12_94 (hl.n (k := 45) (by decide)) (hl.k (k := 45) (by decide)) (by decide) rfl rfl (t_X12_no_6 (σ := σ) hl) rfl rfl (by decide) (by decide) (Nat.le_of_ble_eq_true rfl) (by decide) (by decide) ?_
    refine Z.eqσ (τ := (zuX σ 46 (upd (zX σ 46) 6 (zX σ 46 6 + nI 1)))) rfl ?_
    refine Z.iret B Rt dX12_comes_26 (ty := .int) rfl rfl (by decide) (by decide) ?_
    exact ⟨rfl, rfl⟩
  · skip
    refine Z.iload_n B dX12_comes_5 (x := n) rfl ?_
    refine Z.bipush B dX12_comes_6 (v := nI 8) rfl ?_
    refine Z.icmp_gt B dX12_comes_8 (tgt := 20) rfl (fun h8 => ?_) (fun h8 => (by exfalso; rcases hn with h | h; exact h2 h; exact h8 h))
    refine Z.aload_n B dX12_comes_20 (v := .ref 45) rfl rfl ?_
    refine Z.bipush B dX12_comes_21 (v := (-6)) rfl ?_
    refine Z.callVI (σ := σ) B (M' := mX12_no) (as := [.int (-6)]) (st := []) (v := .int (-6)) dX12_comes_23 wX12_no iX12_no sX12_no kX12_94 (hl.n (k := 45) (by decide)) (hl.k (k := 45) (by decide)) (by decide) rfl rfl (t_X12_no_6 (σ := σ) hl) rfl rfl (by decide) (by decide) (Nat.le_of_ble_eq_true rfl) (by decide) (by decide) ?_
    refine Z.eqσ (τ := (zuX σ 46 (upd (zX σ 46) 6 (zX σ 46 6 + nI 1)))) rfl ?_
    refine Z.iret B Rt dX12_comes_26 (ty := .int) rfl rfl (by decide) (by decide) ?_
    exact ⟨rfl, rfl⟩

theorem t_M_comes_2 {σ : zSt} (hl : Lay σ) {n : Nat} {r : Int32} (hn : n ≤ 8) (h1 : 1 ≤ n) (hr : zOut r n) : Dt mX12_comes [.ref 45, .int (nI n), .int r] σ (some (.int (-6))) (zuX σ 46 (upd (zX σ 46) 6 (zX σ 46 6 + nI 1))) := by
  refine Dt.of (by decide) (Nat.le_of_ble_eq_true rfl) fun κ B Rt => ?_
  show Z κ 0 0 σ 0 [(0, .ref 45), (1, .int (nI n)), (2, .int r)] []
  refine Z.iload_n B dX12_comes_0 (x := nI n) rfl ?_
  refine Z.iconst B dX12_comes_1 (v := nI 1) rfl ?_
  refine Z.icmp_ltN B dX12_comes_2 (tgt := 20) rfl (by omega) (by omega) (fun h2 => by exfalso; first | omega | contradiction | simp_all) (fun h2 => ?_)
  refine Z.iload_n B dX12_comes_5 (x := nI n) rfl ?_
  refine Z.bipush B dX12_comes_6 (v := nI 8) rfl ?_
  refine Z.icmp_gtN B dX12_comes_8 (tgt := 20) rfl (by omega) (by omega) (fun h8 => by exfalso; first | omega | contradiction | simp_all) (fun h8 => ?_)
  refine Z.iload_n B dX12_comes_11 (x := r) rfl ?_
  refine Z.if_lt B dX12_comes_12 (tgt := 20) rfl (fun h12 => ?_) (fun h12 => ?_)
  · skip
    refine Z.aload_n B dX12_comes_20 (v := .ref 45) rfl rfl ?_
    refine Z.bipush B dX12_comes_21 (v := (-6)) rfl ?_
    refine Z.callVI (σ := σ) B (M' := mX12_no) (as := [.int (-6)]) (st := []) (v := .int (-6)) dX12_comes_23 wX12_no iX12_no sX12_no kX12_94 (hl.n (k := 45) (by decide)) (hl.k (k := 45) (by decide)) (by decide) rfl rfl (t_X12_no_6 (σ := σ) hl) rfl rfl (by decide) (by decide) (Nat.le_of_ble_eq_true rfl) (by decide) (by decide) ?_
    refine Z.eqσ (τ := (zuX σ 46 (upd (zX σ 46) 6 (zX σ 46 6 + nI 1)))) rfl ?_
    refine Z.iret B Rt dX12_comes_26 (ty := .int) rfl rfl (by decide) (by decide) ?_
    exact ⟨rfl, rfl⟩
  · skip
    refine Z.iload_n B dX12_comes_15 (x := r) rfl ?_
    refine Z.iload_n B dX12_comes_16 (x := nI n) rfl ?_
    refine Z.icmp_lt B dX12_comes_17 (tgt := 27) rfl (fun h17 => (zo_lt hr h12 h17).elim) (fun h17 => ?_)
    refine Z.aload_n B dX12_comes_20 (v := .ref 45) rfl rfl ?_
    refine Z.bipush B dX12_comes_21 (v := (-6)) rfl ?_
    refine Z.callVI (σ := σ) B (M' := mX12_no) (as := [.int (-6)]) (st := []) (v := .int (-6)) dX12_comes_23 wX12_no iX12_no sX12_no kX12_94 (hl.n (k := 45) (by decide)) (hl.k (k := 45) (by decide)) (by decide) rfl rfl (t_X12_no_6 (σ := σ) hl) rfl rfl (by decide) (by decide) (Nat.le_of_ble_eq_true rfl) (by decide) (by decide) ?_
    refine Z.eqσ (τ := (zuX σ 46 (upd (zX σ 46) 6 (zX σ 46 6 + nI 1)))) rfl ?_
    refine Z.iret B Rt dX12_comes_26 (ty := .int) rfl rfl (by decide) (by decide) ?_
    exact ⟨rfl, rfl⟩

theorem t_M_comes_0 {σ : zSt} (hl : Lay σ) {n r : Nat} (hn : n ≤ 8) (h1 : 1 ≤ n) (hr : r < n) : Dt mX12_comes [.ref 45, .int (nI n), .int (nI r)] σ (some (.int (cb n r))) σ := by
  refine Dt.of (by decide) (Nat.le_of_ble_eq_true rfl) fun κ B Rt => ?_
  show Z κ 0 0 σ 0 [(0, .ref 45), (1, .int (nI n)), (2, .int (nI r))] []
  refine Z.iload_n B dX12_comes_0 (x := nI n) rfl ?_
  refine Z.iconst B dX12_comes_1 (v := nI 1) rfl ?_
  refine Z.icmp_ltN B dX12_comes_2 (tgt := 20) rfl (by omega) (by omega) (fun h2 => by exfalso; first | omega | contradiction | simp_all) (fun h2 => ?_)
  refine Z.iload_n B dX12_comes_5 (x := nI n) rfl ?_
  refine Z.bipush B dX12_comes_6 (v := nI 8) rfl ?_
  refine Z.icmp_gtN B dX12_comes_8 (tgt := 20) rfl (by omega) (by omega) (fun h8 => by exfalso; first | omega | contradiction | simp_all) (fun h8 => ?_)
  refine Z.iload_n B dX12_comes_11 (x := nI r) rfl ?_
  refine Z.if_ltN B dX12_comes_12 (tgt := 20) rfl (by omega) ?_
  refine Z.iload_n B dX12_comes_15 (x := nI r) rfl ?_
  refine Z.iload_n B dX12_comes_16 (x := nI n) rfl ?_
  refine Z.icmp_ltN B dX12_comes_17 (tgt := 27) rfl (by omega) (by omega) (fun h17 => ?_) (fun h17 => by exfalso; first | omega | contradiction | simp_all)
  refine Z.aload_n B dX12_comes_27 (v := .ref 45) rfl rfl ?_
  refine Z.iload_n B dX12_comes_28 (x := nI n) rfl ?_
  refine Z.iload_n B dX12_comes_29 (x := nI r) rfl ?_
  refine Z.callVI (σ := σ) B (M' := mX12_comesBy) (as := [.int (nI n), .int (nI r)]) (st := []) (v := .int (cb n r)) dX12_comes_30 wX12_comesBy iX12_comesBy sX12_comesBy kX12_216 (hl.n (k := 45) (by decide)) (hl.k (k := 45) (by decide)) (by decide) rfl rfl (t_X12_comesBy (σ := σ) hl hn h1 hr) rfl rfl (by decide) (by decide) (Nat.le_of_ble_eq_true rfl) (by decide) (by decide) ?_
  refine Z.iret B Rt dX12_comes_33 (ty := .int) rfl rfl (by decide) (by decide) ?_
  exact ⟨rfl, rfl⟩

theorem t_M_lets_1 {σ : zSt} (hl : Lay σ) {n : Int32} (hn : n < nI 1 ∨ nI 8 < n) : Dt mX12_lets [.ref 45, .int n] σ (some (.int (-6))) (zuX σ 46 (upd (zX σ 46) 6 (zX σ 46 6 + nI 1))) := by
  refine Dt.of (by decide) (Nat.le_of_ble_eq_true rfl) fun κ B Rt => ?_
  show Z κ 0 0 σ 0 [(0, .ref 45), (1, .int n)] []
  refine Z.iload_n B dX12_lets_0 (x := n) rfl ?_
  refine Z.iconst B dX12_lets_1 (v := nI 1) rfl ?_
  refine Z.icmp_lt B dX12_lets_2 (tgt := 11) rfl (fun h2 => ?_) (fun h2 => ?_)
  · skip
    refine Z.aload_n B dX12_lets_11 (v := .ref 45) rfl rfl ?_
    refine Z.bipush B dX12_lets_12 (v := (-6)) rfl ?_
    refine Z.callVI (σ := σ) B (M' := mX12_no) (as := [.int (-6)]) (st := []) (v := .int (-6)) dX12_lets_14 wX12_no iX12_no sX12_no kX12_94 (hl.n (k := 45) (by decide)) (hl.k (k := 45) (by decide)) (by decide) rfl rfl (t_X12_no_6 (σ := σ) hl) rfl rfl (by decide) (by decide) (Nat.le_of_ble_eq_true rfl) (by decide) (by decide) ?_
    refine Z.eqσ (τ := (zuX σ 46 (upd (zX σ 46) 6 (zX σ 46 6 + nI 1)))) rfl ?_
    refine Z.iret B Rt dX12_lets_17 (ty := .int) rfl rfl (by decide) (by decide) ?_
    exact ⟨rfl, rfl⟩
  · skip
    refine Z.iload_n B dX12_lets_5 (x := n) rfl ?_
    refine Z.bipush B dX12_lets_6 (v := nI 8) rfl ?_
    refine Z.icmp_le B dX12_lets_8 (tgt := 18) rfl (fun h8 => (by exfalso; rcases hn with h | h; exact h2 h; rw [zle_iff] at h8; rw [zlt_iff] at h; omega)) (fun h8 => ?_)
    refine Z.aload_n B dX12_lets_11 (v := .ref 45) rfl rfl ?_
    refine Z.bipush B dX12_lets_12 (v := (-6)) rfl ?_
    refine Z.callVI (σ := σ) B (M' := mX12_no) (as := [.int (-6)]) (st := []) (v := .int (-6)) dX12_lets_14 wX12_no iX12_no sX12_no kX12_94 (hl.n (k := 45) (by decide)) (hl.k (k := 45) (by decide)) (by decide) rfl rfl (t_X12_no_6 (σ := σ) hl) rfl rfl (by decide) (by decide) (Nat.le_of_ble_eq_true rfl) (by decide) (by decide) ?_
    refine Z.eqσ (τ := (zuX σ 46 (upd (zX σ 46) 6 (zX σ 46 6 + nI 1)))) rfl ?_
    refine Z.iret B Rt dX12_lets_17 (ty := .int) rfl rfl (by decide) (by decide) ?_
    exact ⟨rfl, rfl⟩

theorem t_M_lets_0 {σ : zSt} (hl : Lay σ) {n : Nat} (hn : n ≤ 8) (h1 : 1 ≤ n) : Dt mX12_lets [.ref 45, .int (nI n)] σ (some (.int (nI (ga (cb n) (n - 1))))) σ := by
  refine Dt.of (by decide) (Nat.le_of_ble_eq_true rfl) fun κ B Rt => ?_
  show Z κ 0 0 σ 0 [(0, .ref 45), (1, .int (nI n))] []
  refine Z.iload_n B dX12_lets_0 (x := nI n) rfl ?_
  refine Z.iconst B dX12_lets_1 (v := nI 1) rfl ?_
  refine Z.icmp_ltN B dX12_lets_2 (tgt := 11) rfl (by omega) (by omega) (fun h2 => by exfalso; first | omega | contradiction | simp_all) (fun h2 => ?_)
  refine Z.iload_n B dX12_lets_5 (x := nI n) rfl ?_
  refine Z.bipush B dX12_lets_6 (v := nI 8) rfl ?_
  refine Z.icmp_leN B dX12_lets_8 (tgt := 18) rfl (by omega) (by omega) (fun h8 => ?_) (fun h8 => by exfalso; first | omega | contradiction | simp_all)
  refine Z.iconst B dX12_lets_18 (v := nI 0) rfl ?_
  refine Z.istore_n B dX12_lets_19 (by decide) (L' := [(0, .ref 45), (1, .int (nI n)), (2, .int (nI 0))]) rfl ?_
  refine Z.iconst B dX12_lets_20 (v := nI 1) rfl ?_
  refine Z.istore_n B dX12_lets_21 (by decide) (L' := [(0, .ref 45), (1, .int (nI n)), (2, .int (nI 0)), (3, .int (nI 1))]) rfl ?_
  have hloop22 : ∀ i : Nat, i ≤ n - 1 → Z κ 0 0 σ 22 [(0, .ref 45), (1, .int (nI n)), (2, .int (nI (ga (cb n) i))), (3, .int (nI (i + 1)))] [] := by
    refine z_loop (fun i => n - i) (fun i ih hi => ?_)
    refine Z.iload_n B dX12_lets_22 (x := nI (i + 1)) rfl ?_
    refine Z.iload_n B dX12_lets_23 (x := nI n) rfl ?_
    refine Z.icmp_geN B dX12_lets_24 (tgt := 50) rfl (by omega) (by omega) (fun h24 => ?_) (fun h24 => ?_)
    · skip
      obtain rfl : (n - 1) = i := by omega
      refine Z.iload_n B dX12_lets_50 (x := nI (ga (cb n) (n - 1))) rfl ?_
      refine Z.iret B Rt dX12_lets_51 (ty := .int) rfl rfl (by decide) (by decide) ?_
      exact ⟨rfl, rfl⟩
    · skip
      refine Z.aload_n B dX12_lets_27 (v := .ref 45) rfl rfl ?_
      refine Z.iload_n B dX12_lets_28 (x := nI n) rfl ?_
      refine Z.iload_n B dX12_lets_29 (x := nI (i + 1)) rfl ?_
      refine Z.callVI (σ := σ) B (M' := mX12_comesBy) (as := [.int (nI n), .int (nI (i + 1))]) (st := []) (v := .int (cb n (i + 1))) dX12_lets_30 wX12_comesBy iX12_comesBy sX12_comesBy kX12_216 (hl.n (k := 45) (by decide)) (hl.k (k := 45) (by decide)) (by decide) rfl rfl (t_X12_comesBy (σ := σ) hl hn h1 (r := i + 1) (by omega)) rfl rfl (by decide) (by decide) (Nat.le_of_ble_eq_true rfl) (by decide) (by decide) ?_
      refine Z.aload_n B dX12_lets_33 (v := .ref 45) rfl rfl ?_
      refine Z.iload_n B dX12_lets_34 (x := nI n) rfl ?_
      refine Z.iload_n B dX12_lets_35 (x := nI (ga (cb n) i)) rfl ?_
      have hga := ga_le (cb n) i
      refine Z.callVI (σ := σ) B (M' := mX12_comesBy) (as := [.int (nI n), .int (nI (ga (cb n) i))]) (st := [.int (cb n (i + 1))]) (v := .int (cb n (ga (cb n) i))) dX12_lets_36 wX12_comesBy iX12_comesBy sX12_comesBy kX12_216 (hl.n (k := 45) (by decide)) (hl.k (k := 45) (by decide)) (by decide) rfl rfl (t_X12_comesBy (σ := σ) hl hn h1 (r := ga (cb n) i) (by omega)) rfl rfl (by decide) (by decide) (Nat.le_of_ble_eq_true rfl) (by decide) (by decide) ?_
      refine Z.icmp_le B dX12_lets_39 (tgt := 44) rfl (fun h39 => ?_) (fun h39 => ?_)
      · skip
        have h39 : ¬ cb n (ga (cb n) i) < cb n (i + 1) := by rw [zlt_iff]; rw [zle_iff] at h39; omega
        refine Z.iincN B dX12_lets_44 (by decide) (a := i + 1) rfl (L' := [(0, .ref 45), (1, .int (nI n)), (2, .int (nI (ga (cb n) i))), (3, .int (nI (i + 1 + 1)))]) rfl ?_
        refine Z.goto B dX12_lets_47 (tgt := 22) rfl ?_
        have e := ih (i + 1) (by omega) (by omega)
        simp only [ga] at e
        first | (rw [if_pos h39] at e; exact e) | (rw [if_neg h39] at e; exact e)
      · skip
        have h39 : cb n (ga (cb n) i) < cb n (i + 1) := by rw [zlt_iff]; rw [zle_iff] at h39; omega
        refine Z.iload_n B dX12_lets_42 (x := nI (i + 1)) rfl ?_
        refine Z.istore_n B dX12_lets_43 (by decide) (L' := [(0, .ref 45), (1, .int (nI n)), (2, .int (nI (i + 1))), (3, .int (nI (i + 1)))]) rfl ?_
        refine Z.iincN B dX12_lets_44 (by decide) (a := i + 1) rfl (L' := [(0, .ref 45), (1, .int (nI n)), (2, .int (nI (i + 1))), (3, .int (nI (i + 1 + 1)))]) rfl ?_
        refine Z.goto B dX12_lets_47 (tgt := 22) rfl ?_
        have e := ih (i + 1) (by omega) (by omega)
        simp only [ga] at e
        first | (rw [if_pos h39] at e; exact e) | (rw [if_neg h39] at e; exact e)
  exact hloop22 0 (Nat.zero_le _)

theorem t_M_come_6 {σ : zSt} (hl : Lay σ) {n a y : Nat} (H : zMd σ n a y) {m : Int32} (hn2 : m < nI 1 ∨ nI 8 < m) : Dt mX12_come [.ref 45, .int m] σ (some (.int (-6))) (zuX σ 46 (upd (zX σ 46) 6 (zX σ 46 6 + nI 1))) := by
  obtain ⟨-, hn, hn8, ha, ha4, hy, hy8⟩ := id H
  refine Dt.of (by decide) (Nat.le_of_ble_eq_true rfl) fun κ B Rt => ?_
  show Z κ 0 0 σ 0 [(0, .ref 45), (1, .int m)] []
  refine Z.iload_n B dX12_come_0 (x := m) rfl ?_
  refine Z.iconst B dX12_come_1 (v := nI 1) rfl ?_
  refine Z.icmp_lt B dX12_come_2 (tgt := 11) rfl (fun h2 => ?_) (fun h2 => ?_)
  · skip
    refine Z.aload_n B dX12_come_11 (v := .ref 45) rfl rfl ?_
    refine Z.bipush B dX12_come_12 (v := (-6)) rfl ?_
    refine Z.callVI (σ := σ) B (M' := mX12_no) (as := [.int (-6)]) (st := []) (v := .int (-6)) dX12_come_14 wX12_no iX12_no sX12_no kX12_94 (hl.n (k := 45) (by decide)) (hl.k (k := 45) (by decide)) (by decide) rfl rfl (t_X12_no_6 (σ := σ) hl) rfl rfl (by decide) (by decide) (Nat.le_of_ble_eq_true rfl) (by decide) (by decide) ?_
    refine Z.eqσ (τ := (zuX σ 46 (upd (zX σ 46) 6 (zX σ 46 6 + nI 1)))) rfl ?_
    refine Z.iret B Rt dX12_come_17 (ty := .int) rfl rfl (by decide) (by decide) ?_
    exact ⟨rfl, rfl⟩
  · skip
    refine Z.iload_n B dX12_come_5 (x := m) rfl ?_
    refine Z.bipush B dX12_come_6 (v := nI 8) rfl ?_
    refine Z.icmp_le B dX12_come_8 (tgt := 18) rfl (fun h8 => (by exfalso; rcases hn2 with h | h; exact h2 h; rw [zle_iff] at h8; rw [zlt_iff] at h; omega)) (fun h8 => ?_)
    refine Z.aload_n B dX12_come_11 (v := .ref 45) rfl rfl ?_
    refine Z.bipush B dX12_come_12 (v := (-6)) rfl ?_
    refine Z.callVI (σ := σ) B (M' := mX12_no) (as := [.int (-6)]) (st := []) (v := .int (-6)) dX12_come_14 wX12_no iX12_no sX12_no kX12_94 (hl.n (k := 45) (by decide)) (hl.k (k := 45) (by decide)) (by decide) rfl rfl (t_X12_no_6 (σ := σ) hl) rfl rfl (by decide) (by decide) (Nat.le_of_ble_eq_true rfl) (by decide) (by decide) ?_
    refine Z.eqσ (τ := (zuX σ 46 (upd (zX σ 46) 6 (zX σ 46 6 + nI 1)))) rfl ?_
    refine Z.iret B Rt dX12_come_17 (ty := .int) rfl rfl (by decide) (by decide) ?_
    exact ⟨rfl, rfl⟩

theorem t_M_come_0 {σ : zSt} (hl : Lay σ) {n a y : Nat} (H : zMd σ n a y) {m : Nat} (hm : m ≤ 8) (hm1 : 1 ≤ m) : Dt mX12_come [.ref 45, .int (nI m)] σ (some (.int (nI (min m (8 - n))))) (zuX (zuX σ 45 (upd (upd (zX σ 45) 3 (dS (zX σ 45 3) (min m (8 - n)))) 0 (nI (n + min m (8 - n))))) 47 (dX (zX σ 47) n (zX σ 45 3) (min m (8 - n)))) := by
  obtain ⟨-, hn, hn8, ha, ha4, hy, hy8⟩ := id H
  refine Dt.of (by decide) (Nat.le_of_ble_eq_true rfl) fun κ B Rt => ?_
  show Z κ 0 0 σ 0 [(0, .ref 45), (1, .int (nI m))] []
  refine Z.iload_n B dX12_come_0 (x := nI m) rfl ?_
  refine Z.iconst B dX12_come_1 (v := nI 1) rfl ?_
  refine Z.icmp_ltN B dX12_come_2 (tgt := 11) rfl (by omega) (by omega) (fun h2 => by exfalso; first | omega | contradiction | simp_all) (fun h2 => ?_)
  refine Z.iload_n B dX12_come_5 (x := nI m) rfl ?_
  refine Z.bipush B dX12_come_6 (v := nI 8) rfl ?_
  refine Z.icmp_leN B dX12_come_8 (tgt := 18) rfl (by omega) (by omega) (fun h8 => ?_) (fun h8 => by exfalso; first | omega | contradiction | simp_all)
  refine Z.iconst B dX12_come_18 (v := nI 0) rfl ?_
  refine Z.istore_n B dX12_come_19 (by decide) (L' := [(0, .ref 45), (1, .int (nI m)), (2, .int (nI 0))]) rfl ?_
  have hloop20 : ∀ i : Nat, i ≤ m ∧ i ≤ 8 - n → Z κ 0 0 (zuX (zuX σ 45 (upd (upd (zX σ 45) 3 (dS (zX σ 45 3) i)) 0 (nI (n + i)))) 47 (dX (zX σ 47) n (zX σ 45 3) i)) 20 [(0, .ref 45), (1, .int (nI m)), (2, .int (nI i))] [] := by
    refine z_loop (fun i => m - i) (fun i ih hi => ?_)
    refine Z.iload_n B dX12_come_20 (x := nI i) rfl ?_
    refine Z.iload_n B dX12_come_21 (x := nI m) rfl ?_
    refine Z.icmp_geN B dX12_come_22 (tgt := 89) rfl (by omega) (by omega) (fun h22 => ?_) (fun h22 => ?_)
    · skip
      obtain rfl : (min m (8 - n)) = i := by omega
      refine Z.iload_n B dX12_come_89 (x := nI (min m (8 - n))) rfl ?_
      refine Z.iret B Rt dX12_come_90 (ty := .int) rfl rfl (by decide) (by decide) ?_
      exact ⟨rfl, rfl⟩
    · skip
      refine Z.aload_n B dX12_come_25 (v := .ref 45) rfl rfl ?_
      refine Z.getI (σ := (zuX (zuX σ 45 (upd (upd (zX σ 45) 3 (dS (zX σ 45 3) i)) 0 (nI (n + i)))) 47 (dX (zX σ 47) n (zX σ 45 3) i))) B fX12_81_12 dX12_come_26 (hl.n (k := 45) (by decide)) (hl.k (k := 45) (by decide)) (by decide) (v := nI (n + i)) rfl ?_
      refine Z.bipush B dX12_come_29 (v := nI 8) rfl ?_
      refine Z.icmp_geN B dX12_come_31 (tgt := 89) rfl (by omega) (by omega) (fun h31 => ?_) (fun h31 => ?_)
      · skip
        obtain rfl : (min m (8 - n)) = i := by omega
        refine Z.iload_n B dX12_come_89 (x := nI (min m (8 - n))) rfl ?_
        refine Z.iret B Rt dX12_come_90 (ty := .int) rfl rfl (by decide) (by decide) ?_
        exact ⟨rfl, rfl⟩
      · skip
        refine Z.iconst B dX12_come_34 (v := nI 0) rfl ?_
        refine Z.istore_n B dX12_come_35 (by decide) (L' := [(0, .ref 45), (1, .int (nI m)), (2, .int (nI i)), (3, .int (nI 0))]) rfl ?_
        have hloop36 : ∀ t : Nat, t ≤ 6 → Z κ 0 0 (zuX (zuX σ 45 (upd (upd (zX σ 45) 3 (sq (dS (zX σ 45 3) i) t)) 0 (nI (n + i)))) 47 (dw (dX (zX σ 47) n (zX σ 45 3) i) (n + i) (dS (zX σ 45 3) i) t)) 36 [(0, .ref 45), (1, .int (nI m)), (2, .int (nI i)), (3, .int (nI t))] [] := by
          refine z_loop (fun t => 6 - t) (fun t iht ht => ?_)
          refine Z.iload_n B dX12_come_36 (x := nI t) rfl ?_
          refine Z.bipush B dX12_come_37 (v := nI 6) rfl ?_
          refine Z.icmp_geN B dX12_come_39 (tgt := 73) rfl (by omega) (by omega) (fun h39 => ?_) (fun h39 => ?_)
          · skip
            obtain rfl : 6 = t := by omega
            refine Z.aload_n B dX12_come_73 (v := .ref 45) rfl rfl ?_
            refine Z.dup B dX12_come_74 rfl ?_
            refine Z.getI (σ := (zuX (zuX σ 45 (upd (upd (zX σ 45) 3 (sq (dS (zX σ 45 3) i) 6)) 0 (nI (n + i)))) 47 (dw (dX (zX σ 47) n (zX σ 45 3) i) (n + i) (dS (zX σ 45 3) i) 6))) B fX12_81_12 dX12_come_75 (hl.n (k := 45) (by decide)) (hl.k (k := 45) (by decide)) (by decide) (v := nI (n + i)) rfl ?_
            refine Z.iconst B dX12_come_78 (v := nI 1) rfl ?_
            refine Z.iaddN B dX12_come_79 (a := n + i) (b := 1) ?_
            refine Z.putI (σ := (zuX (zuX σ 45 (upd (upd (zX σ 45) 3 (sq (dS (zX σ 45 3) i) 6)) 0 (nI (n + i)))) 47 (dw (dX (zX σ 47) n (zX σ 45 3) i) (n + i) (dS (zX σ 45 3) i) 6))) B fX12_81_12 (ty := .int) ⟨_, _, _, rfl, rfl, by decide +kernel⟩ dX12_come_80 (hl.n (k := 45) (by decide)) (hl.k (k := 45) (by decide)) (by decide) rfl rfl (τ := (zuX (zuX σ 45 (upd (upd (zX σ 45) 3 (sq (dS (zX σ 45 3) i) 6)) 0 (nI (n + i + 1)))) 47 (dw (dX (zX σ 47) n (zX σ 45 3) i) (n + i) (dS (zX σ 45 3) i) 6))) (by rw [show zX (zuX (zuX σ 45 (upd (upd (zX σ 45) 3 (sq (dS (zX σ 45 3) i) 6)) 0 (nI (n + i)))) 47 (dw (dX (zX σ 47) n (zX σ 45 3) i) (n + i) (dS (zX σ 45 3) i) 6)) 45 = upd (upd (zX σ 45) 3 (sq (dS (zX σ 45 3) i) 6)) 0 (nI (n + i)) from rfl, upd_upd, zuX_sw (by decide)]; try rfl) ?_
            refine Z.iincN B dX12_come_83 (by decide) (a := i) rfl (L' := [(0, .ref 45), (1, .int (nI m)), (2, .int (nI (i + 1))), (3, .int (nI 6))]) rfl ?_
            refine Z.goto B dX12_come_86 (tgt := 20) rfl ?_
            refine Z.drop 3 (L' := [(0, .ref 45), (1, .int (nI m)), (2, .int (nI (i + 1)))]) rfl ?_
            exact ih (i + 1) (by omega) (by omega)
          · skip
            refine Z.aload_n B dX12_come_42 (v := .ref 45) rfl rfl ?_
            refine Z.getR (σ := (zuX (zuX σ 45 (upd (upd (zX σ 45) 3 (sq (dS (zX σ 45 3) i) t)) 0 (nI (n + i)))) 47 (dw (dX (zX σ 47) n (zX σ 45 3) i) (n + i) (dS (zX σ 45 3) i) t))) B fX12_20_12 dX12_come_43 (hl.n (k := 45) (by decide)) (hl.k (k := 45) (by decide)) (by decide) (j := 47) (hl.r (k := 45) (f := 6) (by decide) (by decide)) ?_
            refine Z.bipush B dX12_come_46 (v := nI 6) rfl ?_
            refine Z.aload_n B dX12_come_48 (v := .ref 45) rfl rfl ?_
            refine Z.getI (σ := (zuX (zuX σ 45 (upd (upd (zX σ 45) 3 (sq (dS (zX σ 45 3) i) t)) 0 (nI (n + i)))) 47 (dw (dX (zX σ 47) n (zX σ 45 3) i) (n + i) (dS (zX σ 45 3) i) t))) B fX12_81_12 dX12_come_49 (hl.n (k := 45) (by decide)) (hl.k (k := 45) (by decide)) (by decide) (v := nI (n + i)) rfl ?_
            refine Z.imulNc B dX12_come_52 (a := 6) (b := n + i) ?_
            refine Z.iload_n B dX12_come_53 (x := nI t) rfl ?_
            refine Z.iaddN B dX12_come_54 (a := (n + i) * 6) (b := t) ?_
            refine Z.aload_n B dX12_come_55 (v := .ref 45) rfl rfl ?_
            refine Z.aload_n B dX12_come_56 (v := .ref 45) rfl rfl ?_
            refine Z.iload_n B dX12_come_57 (x := nI t) rfl ?_
            refine Z.callVI (σ := (zuX (zuX σ 45 (upd (upd (zX σ 45) 3 (sq (dS (zX σ 45 3) i) t)) 0 (nI (n + i)))) 47 (dw (dX (zX σ 47) n (zX σ 45 3) i) (n + i) (dS (zX σ 45 3) i) t))) B (M' := mX12_top) (as := [.int (nI t)]) (st := [.ref 45, .int (nI (((n + i) * 6) + t)), .ref 47]) (v := .int (nI (mo t))) dX12_come_58 wX12_top iX12_top sX12_top kX12_118 (hl.n (k := 45) (by decide)) (hl.k (k := 45) (by decide)) (by decide) rfl rfl (t_X12_top (σ := (zuX (zuX σ 45 (upd (upd (zX σ 45) 3 (sq (dS (zX σ 45 3) i) t)) 0 (nI (n + i)))) 47 (dw (dX (zX σ 47) n (zX σ 45 3) i) (n + i) (dS (zX σ 45 3) i) t))) (i := t) (by omega)) rfl rfl (by decide) (by decide) (Nat.le_of_ble_eq_true rfl) (by decide) (by decide) ?_
            refine Z.iconst B dX12_come_61 (v := nI 1) rfl ?_
            refine Z.iaddN B dX12_come_62 (a := mo t) (b := 1) ?_
            have hmo : mo t ≤ 9 := mo_le
            refine Z.callVI (σ := (zuX (zuX σ 45 (upd (upd (zX σ 45) 3 (sq (dS (zX σ 45 3) i) t)) 0 (nI (n + i)))) 47 (dw (dX (zX σ 47) n (zX σ 45 3) i) (n + i) (dS (zX σ 45 3) i) t))) B (M' := mX12_draw) (as := [.int (nI ((mo t) + 1))]) (st := [.int (nI (((n + i) * 6) + t)), .ref 47]) (v := .int (dv (sq (dS (zX σ 45 3) i) (t + 1)) (mo t + 1))) dX12_come_63 wX12_draw iX12_draw sX12_draw kX12_223 (hl.n (k := 45) (by decide)) (hl.k (k := 45) (by decide)) (by decide) rfl rfl (t_X12_draw (σ := (zuX (zuX σ 45 (upd (upd (zX σ 45) 3 (sq (dS (zX σ 45 3) i) t)) 0 (nI (n + i)))) 47 (dw (dX (zX σ 47) n (zX σ 45 3) i) (n + i) (dS (zX σ 45 3) i) t))) hl (n := mo t + 1) (by omega) (by omega)) rfl rfl (by decide) (by decide) (Nat.le_of_ble_eq_true rfl) (by decide) (by decide) ?_
            refine Z.eqσ (τ := (zuX (zuX σ 45 (upd (upd (zX σ 45) 3 (sq (dS (zX σ 45 3) i) (t + 1))) 0 (nI (n + i)))) 47 (dw (dX (zX σ 47) n (zX σ 45 3) i) (n + i) (dS (zX σ 45 3) i) t))) (by rw [show zX (zuX (zuX σ 45 (upd (upd (zX σ 45) 3 (sq (dS (zX σ 45 3) i) t)) 0 (nI (n + i)))) 47 (dw (dX (zX σ 47) n (zX σ 45 3) i) (n + i) (dS (zX σ 45 3) i) t)) 45 = upd (upd (zX σ 45) 3 (sq (dS (zX σ 45 3) i) t)) 0 (nI (n + i)) from rfl, upd_sw (by decide), pk_un (show (3 : Nat) ≠ 0 by decide), pk_us, zuX_sw (by decide)]; try rfl) ?_
            refine Z.iast (σ := (zuX (zuX σ 45 (upd (upd (zX σ 45) 3 (sq (dS (zX σ 45 3) i) (t + 1))) 0 (nI (n + i)))) 47 (dw (dX (zX σ 47) n (zX σ 45 3) i) (n + i) (dS (zX σ 45 3) i) t))) B dX12_come_66 (n := 48) (hl.n (k := 47) (by decide)) (hl.k (k := 47) (by decide)) (hl.l (k := 47) (by decide)) (by decide) (j := ((n + i) * 6) + t) rfl (by omega) (τ := (zuX (zuX σ 45 (upd (upd (zX σ 45) 3 (sq (dS (zX σ 45 3) i) (t + 1))) 0 (nI (n + i)))) 47 (dw (dX (zX σ 47) n (zX σ 45 3) i) (n + i) (dS (zX σ 45 3) i) (t + 1)))) (by rw [zX_self, zuX_uX]; rfl) ?_
            refine Z.iincN B dX12_come_67 (by decide) (a := t) rfl (L' := [(0, .ref 45), (1, .int (nI m)), (2, .int (nI i)), (3, .int (nI (t + 1)))]) rfl ?_
            refine Z.goto B dX12_come_70 (tgt := 36) rfl ?_
            exact iht (t + 1) (by omega) (by omega)
        exact hloop36 0 (Nat.zero_le _)
  have h0 := hloop20 0 ⟨Nat.zero_le _, Nat.zero_le _⟩
  have e0 : dX (zX σ 47) n (zX σ 45 3) 0 = zX (zuX σ 45 (zX σ 45)) 47 := rfl
  have e1 : dS (zX σ 45 3) 0 = zX σ 45 3 := rfl
  rw [e1, upd_id, Nat.add_zero, ← hn, upd_id, e0, zuX_id, zuX_id] at h0
  exact h0

theorem t_K_come_6 {σ : zSt} (hl : Lay σ) {n a y : Nat} (H : zHd σ n a y) {m : Int32} (hm : m < nI 1 ∨ nI 8 < m) : Dt mX11_come [.ref 0, .int m] σ (some (.int (-nI 6))) (zuX σ 43 (upd (zX σ 43) 6 (zX σ 43 6 + nI 1))) := by
  obtain ⟨-, hn, hn8, ha, ha4, hy, hy8⟩ := id H
  refine Dt.of (by decide) (Nat.le_of_ble_eq_true rfl) fun κ B Rt => ?_
  show Z κ 0 0 σ 0 [(0, .ref 0), (1, .int m)] []
  refine Z.iload_n B dX11_come_0 (x := m) rfl ?_
  refine Z.callSI (σ := σ) B (M' := mX11_isNumberOfComers) (as := [.int m]) (st := []) (v := .int (nI 0)) dX11_come_1 wX11_isNumberOfComers iX11_isNumberOfComers kX11_256 (t_X11_isNumberOfComers_out (σ := σ) hm) rfl rfl (by decide) (by decide) (Nat.le_of_ble_eq_true rfl) (by decide) (by decide) ?_
  refine Z.if_neN B dX11_come_4 (tgt := 14) rfl (by omega) (fun h4 => by exfalso; first | omega | contradiction | simp_all) (fun h4 => ?_)
  refine Z.aload_n B dX11_come_7 (v := .ref 0) rfl rfl ?_
  refine Z.bipush B dX11_come_8 (v := nI 6) rfl ?_
  refine Z.callVI (σ := σ) B (M' := mX11_refuse) (as := [.int (nI 6)]) (st := []) (v := .int (-nI 6)) dX11_come_10 wX11_refuse iX11_refuse sX11_refuse kX11_63 (hl.n (k := 0) (by decide)) (hl.k (k := 0) (by decide)) (by decide) rfl rfl (t_X11_refuse (σ := σ) hl (b := 6) (by decide)) rfl rfl (by decide) (by decide) (Nat.le_of_ble_eq_true rfl) (by decide) (by decide) ?_
  refine Z.eqσ (τ := (zuX σ 43 (upd (zX σ 43) 6 (zX σ 43 6 + nI 1)))) rfl ?_
  refine Z.iret B Rt dX11_come_13 (ty := .int) rfl rfl (by decide) (by decide) ?_
  exact ⟨rfl, rfl⟩

theorem t_K_come_0 {σ : zSt} (hl : Lay σ) {n a y : Nat} (H : zHd σ n a y) {m : Nat} (hm : m ≤ 8) (hm1 : 1 ≤ m) : Dt mX11_come [.ref 0, .int (nI m)] σ (some (.int (nI (min m (8 - n))))) (zuX (zuX σ 20 (upd (upd (zX σ 20) 8 (dS (zX σ 20 8) (min m (8 - n)))) 2 (nI (n + min m (8 - n))))) 21 (dX (zX σ 21) n (zX σ 20 8) (min m (8 - n)))) := by
  obtain ⟨-, hn, hn8, ha, ha4, hy, hy8⟩ := id H
  refine Dt.of (by decide) (Nat.le_of_ble_eq_true rfl) fun κ B Rt => ?_
  show Z κ 0 0 σ 0 [(0, .ref 0), (1, .int (nI m))] []
  refine Z.iload_n B dX11_come_0 (x := nI m) rfl ?_
  refine Z.callSI (σ := σ) B (M' := mX11_isNumberOfComers) (as := [.int (nI m)]) (st := []) (v := .int (nI 1)) dX11_come_1 wX11_isNumberOfComers iX11_isNumberOfComers kX11_256 (t_X11_isNumberOfComers_in (σ := σ) hm hm1) rfl rfl (by decide) (by decide) (Nat.le_of_ble_eq_true rfl) (by decide) (by decide) ?_
  refine Z.if_neN B dX11_come_4 (tgt := 14) rfl (by omega) (fun h4 => ?_) (fun h4 => by exfalso; first | omega | contradiction | simp_all)
  refine Z.iconst B dX11_come_14 (v := nI 0) rfl ?_
  refine Z.istore_n B dX11_come_15 (by decide) (L' := [(0, .ref 0), (1, .int (nI m)), (2, .int (nI 0))]) rfl ?_
  have hloop16 : ∀ i : Nat, i ≤ m ∧ i ≤ 8 - n → Z κ 0 0 (zuX (zuX σ 20 (upd (upd (zX σ 20) 8 (dS (zX σ 20 8) i)) 2 (nI (n + i)))) 21 (dX (zX σ 21) n (zX σ 20 8) i)) 16 [(0, .ref 0), (1, .int (nI m)), (2, .int (nI i))] [] := by
    refine z_loop (fun i => m - i) (fun i ih hi => ?_)
    refine Z.iload_n B dX11_come_16 (x := nI i) rfl ?_
    refine Z.iload_n B dX11_come_17 (x := nI m) rfl ?_
    refine Z.icmp_geN B dX11_come_18 (tgt := 45) rfl (by omega) (by omega) (fun h18 => ?_) (fun h18 => ?_)
    · skip
      obtain rfl : (min m (8 - n)) = i := by omega
      refine Z.iload_n B dX11_come_45 (x := nI (min m (8 - n))) rfl ?_
      refine Z.iret B Rt dX11_come_46 (ty := .int) rfl rfl (by decide) (by decide) ?_
      exact ⟨rfl, rfl⟩
    · skip
      refine Z.aload_n B dX11_come_21 (v := .ref 0) rfl rfl ?_
      refine Z.getR (σ := (zuX (zuX σ 20 (upd (upd (zX σ 20) 8 (dS (zX σ 20 8) i)) 2 (nI (n + i)))) 21 (dX (zX σ 21) n (zX σ 20 8) i))) B fX11_28_11 dX11_come_22 (hl.n (k := 0) (by decide)) (hl.k (k := 0) (by decide)) (by decide) (j := 20) (hl.r (k := 0) (f := 2) (by decide) (by decide)) ?_
      refine Z.iconst B dX11_come_25 (v := nI 0) rfl ?_
      rcases Nat.lt_or_ge (n + i) 8 with h8 | h8
      · skip
        refine Z.callVI (σ := (zuX (zuX σ 20 (upd (upd (zX σ 20) 8 (dS (zX σ 20 8) i)) 2 (nI (n + i)))) 21 (dX (zX σ 21) n (zX σ 20 8) i))) B (M' := mX1_hasRoomFor) (as := [.int (nI 0)]) (st := []) (v := .int (nI 1)) dX11_come_26 wX1_hasRoomFor iX1_hasRoomFor sX1_hasRoomFor kX11_130 (hl.n (k := 20) (by decide)) (hl.k (k := 20) (by decide)) (by decide) rfl rfl (t_X1_hasRoomFor_0_1 (σ := (zuX (zuX σ 20 (upd (upd (zX σ 20) 8 (dS (zX σ 20 8) i)) 2 (nI (n + i)))) 21 (dX (zX σ 21) n (zX σ 20 8) i))) hl (n := n + i) rfl (by omega) ha ha4 hy hy8 h8) rfl rfl (by decide) (by decide) (Nat.le_of_ble_eq_true rfl) (by decide) (by decide) ?_
        refine Z.if_eqN B dX11_come_29 (tgt := 45) rfl (by omega) (fun h29 => by exfalso; first | omega | contradiction | simp_all) (fun h29 => ?_)
        refine Z.aload_n B dX11_come_32 (v := .ref 0) rfl rfl ?_
        refine Z.getR (σ := (zuX (zuX σ 20 (upd (upd (zX σ 20) 8 (dS (zX σ 20 8) i)) 2 (nI (n + i)))) 21 (dX (zX σ 21) n (zX σ 20 8) i))) B fX11_28_11 dX11_come_33 (hl.n (k := 0) (by decide)) (hl.k (k := 0) (by decide)) (by decide) (j := 20) (hl.r (k := 0) (f := 2) (by decide) (by decide)) ?_
        refine Z.callVN (σ := (zuX (zuX σ 20 (upd (upd (zX σ 20) 8 (dS (zX σ 20 8) i)) 2 (nI (n + i)))) 21 (dX (zX σ 21) n (zX σ 20 8) i))) B (M' := mX1_addDrawnComer) (as := []) (st := []) dX11_come_36 wX1_addDrawnComer iX1_addDrawnComer sX1_addDrawnComer kX11_268 (hl.n (k := 20) (by decide)) (hl.k (k := 20) (by decide)) (by decide) rfl rfl (t_X1_addDrawnComer (σ := (zuX (zuX σ 20 (upd (upd (zX σ 20) 8 (dS (zX σ 20 8) i)) 2 (nI (n + i)))) 21 (dX (zX σ 21) n (zX σ 20 8) i))) (show zHd (zuX (zuX σ 20 (upd (upd (zX σ 20) 8 (dS (zX σ 20 8) i)) 2 (nI (n + i)))) 21 (dX (zX σ 21) n (zX σ 20 8) i)) (n + i) a y from ⟨hl, rfl, by omega, ha, ha4, hy, hy8⟩) h8) rfl rfl (by decide) (by decide) (Nat.le_of_ble_eq_true rfl) (by decide) (by decide) ?_
        refine Z.eqσ (τ := (zuX (zuX σ 20 (upd (upd (zX σ 20) 8 (sq (dS (zX σ 20 8) i) 6)) 2 (nI (n + i + 1)))) 21 (dw (dX (zX σ 21) n (zX σ 20 8) i) (n + i) (dS (zX σ 20 8) i) 6))) (by rw [show zX (zuX (zuX σ 20 (upd (upd (zX σ 20) 8 (dS (zX σ 20 8) i)) 2 (nI (n + i)))) 21 (dX (zX σ 21) n (zX σ 20 8) i)) 20 = upd (upd (zX σ 20) 8 (dS (zX σ 20 8) i)) 2 (nI (n + i)) from rfl, show zX (zuX (zuX σ 20 (upd (upd (zX σ 20) 8 (dS (zX σ 20 8) i)) 2 (nI (n + i)))) 21 (dX (zX σ 21) n (zX σ 20 8) i)) 21 = dX (zX σ 21) n (zX σ 20 8) i from rfl, upd_sw (by decide), upd_sw (by decide), pk_un (show (8 : Nat) ≠ 2 by decide), pk_us, zuX_sw (by decide), zuX_sw (by decide)]; try rfl) ?_
        refine Z.iincN B dX11_come_39 (by decide) (a := i) rfl (L' := [(0, .ref 0), (1, .int (nI m)), (2, .int (nI (i + 1)))]) rfl ?_
        refine Z.goto B dX11_come_42 (tgt := 16) rfl ?_
        exact ih (i + 1) (by omega) (by omega)
      · skip
        refine Z.callVI (σ := (zuX (zuX σ 20 (upd (upd (zX σ 20) 8 (dS (zX σ 20 8) i)) 2 (nI (n + i)))) 21 (dX (zX σ 21) n (zX σ 20 8) i))) B (M' := mX1_hasRoomFor) (as := [.int (nI 0)]) (st := []) (v := .int (nI 0)) dX11_come_26 wX1_hasRoomFor iX1_hasRoomFor sX1_hasRoomFor kX11_130 (hl.n (k := 20) (by decide)) (hl.k (k := 20) (by decide)) (by decide) rfl rfl (t_X1_hasRoomFor_0_0 (σ := (zuX (zuX σ 20 (upd (upd (zX σ 20) 8 (dS (zX σ 20 8) i)) 2 (nI (n + i)))) 21 (dX (zX σ 21) n (zX σ 20 8) i))) hl (n := n + i) rfl (by omega) ha ha4 hy hy8 (by omega)) rfl rfl (by decide) (by decide) (Nat.le_of_ble_eq_true rfl) (by decide) (by decide) ?_
        refine Z.if_eqN B dX11_come_29 (tgt := 45) rfl (by omega) (fun h29 => ?_) (fun h29 => by exfalso; first | omega | contradiction | simp_all)
        refine Z.iload_n B dX11_come_45 (x := nI i) rfl ?_
        refine Z.iret B Rt dX11_come_46 (ty := .int) rfl rfl (by decide) (by decide) ?_
        obtain rfl : min m (8 - n) = i := by omega
        exact ⟨rfl, rfl⟩
  have h0 := hloop16 0 ⟨Nat.zero_le _, Nat.zero_le _⟩
  have e0 : dX (zX σ 21) n (zX σ 20 8) 0 = zX (zuX σ 20 (zX σ 20)) 21 := rfl
  have e1 : dS (zX σ 20 8) 0 = zX σ 20 8 := rfl
  rw [e1, upd_id, Nat.add_zero, ← hn, upd_id, e0, zuX_id, zuX_id] at h0
  exact h0

theorem t_M_agree_1 {σ : zSt} (hl : Lay σ) {n a y : Nat} (H : zMd σ n a y) {i : Int32} (hi : zOut i y)  : Dt mX12_agree [.ref 45, .int i] σ (some (.int (-1))) (zuX σ 46 (upd (zX σ 46) 1 (zX σ 46 1 + nI 1))) := by
  obtain ⟨-, hn, hn8, ha, ha4, hy, hy8⟩ := id H
  refine Dt.of (by decide) (Nat.le_of_ble_eq_true rfl) fun κ B Rt => ?_
  show Z κ 0 0 σ 0 [(0, .ref 45), (1, .int i)] []
  refine Z.aload_n B dX12_agree_0 (v := .ref 45) rfl rfl ?_
  refine Z.iload_n B dX12_agree_1 (x := i) rfl ?_
  refine Z.callVI (σ := σ) B (M' := mX12_isWay) (as := [.int i]) (st := []) (v := .int (nI 0)) dX12_agree_2 wX12_isWay iX12_isWay sX12_isWay kX12_98 (hl.n (k := 45) (by decide)) (hl.k (k := 45) (by decide)) (by decide) rfl rfl (t_X12_isWay_out (σ := σ) H hi) rfl rfl (by decide) (by decide) (Nat.le_of_ble_eq_true rfl) (by decide) (by decide) ?_
  refine Z.if_neN B dX12_agree_5 (tgt := 14) rfl (by omega) (fun h5 => by exfalso; first | omega | contradiction | simp_all) (fun h5 => ?_)
  refine Z.aload_n B dX12_agree_8 (v := .ref 45) rfl rfl ?_
  refine Z.iconst B dX12_agree_9 (v := (-1)) rfl ?_
  refine Z.callVI (σ := σ) B (M' := mX12_no) (as := [.int (-1)]) (st := []) (v := .int (-1)) dX12_agree_10 wX12_no iX12_no sX12_no kX12_94 (hl.n (k := 45) (by decide)) (hl.k (k := 45) (by decide)) (by decide) rfl rfl (t_X12_no_1 (σ := σ) hl) rfl rfl (by decide) (by decide) (Nat.le_of_ble_eq_true rfl) (by decide) (by decide) ?_
  refine Z.eqσ (τ := (zuX σ 46 (upd (zX σ 46) 1 (zX σ 46 1 + nI 1)))) rfl ?_
  refine Z.iret B Rt dX12_agree_13 (ty := .int) rfl rfl (by decide) (by decide) ?_
  exact ⟨rfl, rfl⟩

theorem t_M_agree_5 {σ : zSt} (hl : Lay σ) {n a y : Nat} (H : zMd σ n a y) {i kd pa : Nat} (hi : i < y) (hw : zMy σ i kd pa) (h0 : n = 0) : Dt mX12_agree [.ref 45, .int (nI i)] σ (some (.int (-5))) (zuX σ 46 (upd (zX σ 46) 5 (zX σ 46 5 + nI 1))) := by
  obtain ⟨-, hn, hn8, ha, ha4, hy, hy8⟩ := id H
  refine Dt.of (by decide) (Nat.le_of_ble_eq_true rfl) fun κ B Rt => ?_
  show Z κ 0 0 σ 0 [(0, .ref 45), (1, .int (nI i))] []
  refine Z.aload_n B dX12_agree_0 (v := .ref 45) rfl rfl ?_
  refine Z.iload_n B dX12_agree_1 (x := nI i) rfl ?_
  refine Z.callVI (σ := σ) B (M' := mX12_isWay) (as := [.int (nI i)]) (st := []) (v := .int (nI 1)) dX12_agree_2 wX12_isWay iX12_isWay sX12_isWay kX12_98 (hl.n (k := 45) (by decide)) (hl.k (k := 45) (by decide)) (by decide) rfl rfl (t_X12_isWay_in (σ := σ) H hi) rfl rfl (by decide) (by decide) (Nat.le_of_ble_eq_true rfl) (by decide) (by decide) ?_
  refine Z.if_neN B dX12_agree_5 (tgt := 14) rfl (by omega) (fun h5 => ?_) (fun h5 => by exfalso; first | omega | contradiction | simp_all)
  refine Z.aload_n B dX12_agree_14 (v := .ref 45) rfl rfl ?_
  refine Z.getI (σ := σ) B fX12_81_12 dX12_agree_15 (hl.n (k := 45) (by decide)) (hl.k (k := 45) (by decide)) (by decide) (v := nI n) hn ?_
  refine Z.if_neN B dX12_agree_18 (tgt := 28) rfl (by omega) (fun h18 => by exfalso; first | omega | contradiction | simp_all) (fun h18 => ?_)
  refine Z.aload_n B dX12_agree_21 (v := .ref 45) rfl rfl ?_
  refine Z.bipush B dX12_agree_22 (v := (-5)) rfl ?_
  refine Z.callVI (σ := σ) B (M' := mX12_no) (as := [.int (-5)]) (st := []) (v := .int (-5)) dX12_agree_24 wX12_no iX12_no sX12_no kX12_94 (hl.n (k := 45) (by decide)) (hl.k (k := 45) (by decide)) (by decide) rfl rfl (t_X12_no_5 (σ := σ) hl) rfl rfl (by decide) (by decide) (Nat.le_of_ble_eq_true rfl) (by decide) (by decide) ?_
  refine Z.eqσ (τ := (zuX σ 46 (upd (zX σ 46) 5 (zX σ 46 5 + nI 1)))) rfl ?_
  refine Z.iret B Rt dX12_agree_27 (ty := .int) rfl rfl (by decide) (by decide) ?_
  exact ⟨rfl, rfl⟩

theorem t_M_agree_0 {σ : zSt} (hl : Lay σ) {n a y : Nat} (H : zMd σ n a y) {od : Nat → Nat} (ho : zMo σ a od) {pos : Nat → Nat} (hpo : zPo a od pos) {i kd pa : Nat} (hi : i < y) (hw : zMy σ i kd pa) (hg : zX σ 45 28 = (-1)) (h0 : 0 < n) : Dt mX12_agree [.ref 45, .int (nI i)] σ (some (.int (ct (fun b => decide (nI (ga ((fun b c => shW (zX σ 47) (zX σ 48) (zX σ 49) kd pa b c) b) (n - 1)) = gI (mtf (zX σ 47) (zX σ 48) (zX σ 49) (zX σ 50) false kd pa od pos a) n)) a))) σ := by
  obtain ⟨-, hn, hn8, ha, ha4, hy, hy8⟩ := id H
  refine Dt.of (by decide) (Nat.le_of_ble_eq_true rfl) fun κ B Rt => ?_
  show Z κ 0 0 σ 0 [(0, .ref 45), (1, .int (nI i))] []
  refine Z.aload_n B dX12_agree_0 (v := .ref 45) rfl rfl ?_
  refine Z.iload_n B dX12_agree_1 (x := nI i) rfl ?_
  refine Z.callVI (σ := σ) B (M' := mX12_isWay) (as := [.int (nI i)]) (st := []) (v := .int (nI 1)) dX12_agree_2 wX12_isWay iX12_isWay sX12_isWay kX12_98 (hl.n (k := 45) (by decide)) (hl.k (k := 45) (by decide)) (by decide) rfl rfl (t_X12_isWay_in (σ := σ) H hi) rfl rfl (by decide) (by decide) (Nat.le_of_ble_eq_true rfl) (by decide) (by decide) ?_
  refine Z.if_neN B dX12_agree_5 (tgt := 14) rfl (by omega) (fun h5 => ?_) (fun h5 => by exfalso; first | omega | contradiction | simp_all)
  refine Z.aload_n B dX12_agree_14 (v := .ref 45) rfl rfl ?_
  refine Z.getI (σ := σ) B fX12_81_12 dX12_agree_15 (hl.n (k := 45) (by decide)) (hl.k (k := 45) (by decide)) (by decide) (v := nI n) hn ?_
  refine Z.if_neN B dX12_agree_18 (tgt := 28) rfl (by omega) (fun h18 => ?_) (fun h18 => by exfalso; first | omega | contradiction | simp_all)
  refine Z.aload_n B dX12_agree_28 (v := .ref 45) rfl rfl ?_
  refine Z.iload_n B dX12_agree_29 (x := nI i) rfl ?_
  refine Z.iconst B dX12_agree_30 (v := nI 0) rfl ?_
  have efalse : nI 0 = zb false := rfl
  refine Z.callVI (σ := σ) B (M' := mX12_takenBy) (as := [.int (nI i), .int (zb false)]) (st := []) (v := .int (gI (mtf (zX σ 47) (zX σ 48) (zX σ 49) (zX σ 50) false kd pa od pos a) n)) dX12_agree_31 wX12_takenBy iX12_takenBy sX12_takenBy kX12_104 (hl.n (k := 45) (by decide)) (hl.k (k := 45) (by decide)) (by decide) rfl rfl (t_X12_takenBy (σ := σ) H ho hpo hw hg (sl := false)) rfl rfl (by decide) (by decide) (Nat.le_of_ble_eq_true rfl) (by decide) (by decide) ?_
  refine Z.istore_n B dX12_agree_34 (by decide) (L' := [(0, .ref 45), (1, .int (nI i)), (2, .int (gI (mtf (zX σ 47) (zX σ 48) (zX σ 49) (zX σ 50) false kd pa od pos a) n))]) rfl ?_
  refine Z.iconst B dX12_agree_35 (v := nI 0) rfl ?_
  refine Z.istore_n B dX12_agree_36 (by decide) (L' := [(0, .ref 45), (1, .int (nI i)), (2, .int (gI (mtf (zX σ 47) (zX σ 48) (zX σ 49) (zX σ 50) false kd pa od pos a) n)), (3, .int (nI 0))]) rfl ?_
  refine Z.iconst B dX12_agree_37 (v := nI 0) rfl ?_
  refine Z.istore B dX12_agree_38 (by decide) (L' := [(0, .ref 45), (1, .int (nI i)), (2, .int (gI (mtf (zX σ 47) (zX σ 48) (zX σ 49) (zX σ 50) false kd pa od pos a) n)), (3, .int (nI 0)), (4, .int (nI 0))]) rfl ?_
  have hloop40 : ∀ v : Nat, v ≤ a → Z κ 0 0 σ 40 [(0, .ref 45), (1, .int (nI i)), (2, .int (gI (mtf (zX σ 47) (zX σ 48) (zX σ 49) (zX σ 50) false kd pa od pos a) n)), (3, .int (ct (fun b => decide (nI (ga ((fun b c => shW (zX σ 47) (zX σ 48) (zX σ 49) kd pa b c) b) (n - 1)) = gI (mtf (zX σ 47) (zX σ 48) (zX σ 49) (zX σ 50) false kd pa od pos a) n)) v)), (4, .int (nI v))] [] := by
    refine z_loop (fun v => a - v) (fun v ih hb => ?_)
    refine Z.iload B dX12_agree_40 (x := nI v) rfl ?_
    refine Z.aload_n B dX12_agree_42 (v := .ref 45) rfl rfl ?_
    refine Z.getI (σ := σ) B fX12_84_12 dX12_agree_43 (hl.n (k := 45) (by decide)) (hl.k (k := 45) (by decide)) (by decide) (v := nI a) ha ?_
    refine Z.icmp_geN B dX12_agree_46 (tgt := 110) rfl (by omega) (by omega) (fun h46 => ?_) (fun h46 => ?_)
    · skip
      obtain rfl : a = v := by omega
      refine Z.iload_n B dX12_agree_110 (x := ct (fun b => decide (nI (ga ((fun b c => shW (zX σ 47) (zX σ 48) (zX σ 49) kd pa b c) b) (n - 1)) = gI (mtf (zX σ 47) (zX σ 48) (zX σ 49) (zX σ 50) false kd pa od pos a) n)) a) rfl ?_
      refine Z.iret B Rt dX12_agree_111 (ty := .int) rfl rfl (by decide) (by decide) ?_
      exact ⟨rfl, rfl⟩
    · skip
      refine Z.iconst B dX12_agree_49 (v := nI 0) rfl ?_
      refine Z.istore B dX12_agree_50 (by decide) (L' := [(0, .ref 45), (1, .int (nI i)), (2, .int (gI (mtf (zX σ 47) (zX σ 48) (zX σ 49) (zX σ 50) false kd pa od pos a) n)), (3, .int (ct (fun b => decide (nI (ga ((fun b c => shW (zX σ 47) (zX σ 48) (zX σ 49) kd pa b c) b) (n - 1)) = gI (mtf (zX σ 47) (zX σ 48) (zX σ 49) (zX σ 50) false kd pa od pos a) n)) v)), (4, .int (nI v)), (5, .int (nI 0))]) rfl ?_
      refine Z.iconst B dX12_agree_52 (v := nI 1) rfl ?_
      refine Z.istore B dX12_agree_53 (by decide) (L' := [(0, .ref 45), (1, .int (nI i)), (2, .int (gI (mtf (zX σ 47) (zX σ 48) (zX σ 49) (zX σ 50) false kd pa od pos a) n)), (3, .int (ct (fun b => decide (nI (ga ((fun b c => shW (zX σ 47) (zX σ 48) (zX σ 49) kd pa b c) b) (n - 1)) = gI (mtf (zX σ 47) (zX σ 48) (zX σ 49) (zX σ 50) false kd pa od pos a) n)) v)), (4, .int (nI v)), (5, .int (nI 0)), (6, .int (nI 1))]) rfl ?_
      have hloop55 : ∀ j : Nat, j ≤ n - 1 → Z κ 0 0 σ 55 [(0, .ref 45), (1, .int (nI i)), (2, .int (gI (mtf (zX σ 47) (zX σ 48) (zX σ 49) (zX σ 50) false kd pa od pos a) n)), (3, .int (ct (fun b => decide (nI (ga ((fun b c => shW (zX σ 47) (zX σ 48) (zX σ 49) kd pa b c) b) (n - 1)) = gI (mtf (zX σ 47) (zX σ 48) (zX σ 49) (zX σ 50) false kd pa od pos a) n)) v)), (4, .int (nI v)), (5, .int (nI (ga ((fun b c => shW (zX σ 47) (zX σ 48) (zX σ 49) kd pa b c) v) j))), (6, .int (nI (j + 1)))] [] := by
        refine z_loop (fun j => n - j) (fun j jh hj => ?_)
        refine Z.iload B dX12_agree_55 (x := nI (j + 1)) rfl ?_
        refine Z.aload_n B dX12_agree_57 (v := .ref 45) rfl rfl ?_
        refine Z.getI (σ := σ) B fX12_81_12 dX12_agree_58 (hl.n (k := 45) (by decide)) (hl.k (k := 45) (by decide)) (by decide) (v := nI n) hn ?_
        refine Z.icmp_geN B dX12_agree_61 (tgt := 95) rfl (by omega) (by omega) (fun h61 => ?_) (fun h61 => ?_)
        · skip
          obtain rfl : (n - 1) = j := by omega
          refine Z.iload B dX12_agree_95 (x := nI (ga ((fun b c => shW (zX σ 47) (zX σ 48) (zX σ 49) kd pa b c) v) (n - 1))) rfl ?_
          refine Z.iload_n B dX12_agree_97 (x := gI (mtf (zX σ 47) (zX σ 48) (zX σ 49) (zX σ 50) false kd pa od pos a) n) rfl ?_
          refine Z.icmp_ne B dX12_agree_98 (tgt := 104) rfl (fun h98 => ?_) (fun h98 => ?_)
          · skip
            refine Z.iincN B dX12_agree_104 (by decide) (a := v) rfl (L' := [(0, .ref 45), (1, .int (nI i)), (2, .int (gI (mtf (zX σ 47) (zX σ 48) (zX σ 49) (zX σ 50) false kd pa od pos a) n)), (3, .int (ct (fun b => decide (nI (ga ((fun b c => shW (zX σ 47) (zX σ 48) (zX σ 49) kd pa b c) b) (n - 1)) = gI (mtf (zX σ 47) (zX σ 48) (zX σ 49) (zX σ 50) false kd pa od pos a) n)) v)), (4, .int (nI (v + 1))), (5, .int (nI (ga ((fun b c => shW (zX σ 47) (zX σ 48) (zX σ 49) kd pa b c) v) (n - 1)))), (6, .int (nI ((n - 1) + 1)))]) rfl ?_
            refine Z.goto B dX12_agree_107 (tgt := 40) rfl ?_
            refine Z.drop 5 (L' := [(0, .ref 45), (1, .int (nI i)), (2, .int (gI (mtf (zX σ 47) (zX σ 48) (zX σ 49) (zX σ 50) false kd pa od pos a) n)), (3, .int (ct (fun b => decide (nI (ga ((fun b c => shW (zX σ 47) (zX σ 48) (zX σ 49) kd pa b c) b) (n - 1)) = gI (mtf (zX σ 47) (zX σ 48) (zX σ 49) (zX σ 50) false kd pa od pos a) n)) v)), (4, .int (nI (v + 1))), (6, .int (nI ((n - 1) + 1)))]) rfl ?_
            refine Z.drop 6 (L' := [(0, .ref 45), (1, .int (nI i)), (2, .int (gI (mtf (zX σ 47) (zX σ 48) (zX σ 49) (zX σ 50) false kd pa od pos a) n)), (3, .int (ct (fun b => decide (nI (ga ((fun b c => shW (zX σ 47) (zX σ 48) (zX σ 49) kd pa b c) b) (n - 1)) = gI (mtf (zX σ 47) (zX σ 48) (zX σ 49) (zX σ 50) false kd pa od pos a) n)) v)), (4, .int (nI (v + 1)))]) rfl ?_
            have e := ih (v + 1) (by omega) (by omega)
            simp only [ct] at e
            first | (rw [decide_eq_true h98] at e; exact e) | (rw [decide_eq_false h98] at e; simp only [cond_false] at e; rw [zad0] at e; exact e)
          · skip
            refine Z.iinc B dX12_agree_101 (by decide) (x := ct (fun b => decide (nI (ga ((fun b c => shW (zX σ 47) (zX σ 48) (zX σ 49) kd pa b c) b) (n - 1)) = gI (mtf (zX σ 47) (zX σ 48) (zX σ 49) (zX σ 50) false kd pa od pos a) n)) v) rfl (v := (ct (fun b => decide (nI (ga ((fun b c => shW (zX σ 47) (zX σ 48) (zX σ 49) kd pa b c) b) (n - 1)) = gI (mtf (zX σ 47) (zX σ 48) (zX σ 49) (zX σ 50) false kd pa od pos a) n)) v + Int32.ofInt (1))) rfl (L' := [(0, .ref 45), (1, .int (nI i)), (2, .int (gI (mtf (zX σ 47) (zX σ 48) (zX σ 49) (zX σ 50) false kd pa od pos a) n)), (3, .int (ct (fun b => decide (nI (ga ((fun b c => shW (zX σ 47) (zX σ 48) (zX σ 49) kd pa b c) b) (n - 1)) = gI (mtf (zX σ 47) (zX σ 48) (zX σ 49) (zX σ 50) false kd pa od pos a) n)) v + Int32.ofInt (1))), (4, .int (nI v)), (5, .int (nI (ga ((fun b c => shW (zX σ 47) (zX σ 48) (zX σ 49) kd pa b c) v) (n - 1)))), (6, .int (nI ((n - 1) + 1)))]) rfl ?_
            refine Z.iincN B dX12_agree_104 (by decide) (a := v) rfl (L' := [(0, .ref 45), (1, .int (nI i)), (2, .int (gI (mtf (zX σ 47) (zX σ 48) (zX σ 49) (zX σ 50) false kd pa od pos a) n)), (3, .int (ct (fun b => decide (nI (ga ((fun b c => shW (zX σ 47) (zX σ 48) (zX σ 49) kd pa b c) b) (n - 1)) = gI (mtf (zX σ 47) (zX σ 48) (zX σ 49) (zX σ 50) false kd pa od pos a) n)) v + Int32.ofInt (1))), (4, .int (nI (v + 1))), (5, .int (nI (ga ((fun b c => shW (zX σ 47) (zX σ 48) (zX σ 49) kd pa b c) v) (n - 1)))), (6, .int (nI ((n - 1) + 1)))]) rfl ?_
            refine Z.goto B dX12_agree_107 (tgt := 40) rfl ?_
            refine Z.drop 5 (L' := [(0, .ref 45), (1, .int (nI i)), (2, .int (gI (mtf (zX σ 47) (zX σ 48) (zX σ 49) (zX σ 50) false kd pa od pos a) n)), (3, .int (ct (fun b => decide (nI (ga ((fun b c => shW (zX σ 47) (zX σ 48) (zX σ 49) kd pa b c) b) (n - 1)) = gI (mtf (zX σ 47) (zX σ 48) (zX σ 49) (zX σ 50) false kd pa od pos a) n)) v + Int32.ofInt (1))), (4, .int (nI (v + 1))), (6, .int (nI ((n - 1) + 1)))]) rfl ?_
            refine Z.drop 6 (L' := [(0, .ref 45), (1, .int (nI i)), (2, .int (gI (mtf (zX σ 47) (zX σ 48) (zX σ 49) (zX σ 50) false kd pa od pos a) n)), (3, .int (ct (fun b => decide (nI (ga ((fun b c => shW (zX σ 47) (zX σ 48) (zX σ 49) kd pa b c) b) (n - 1)) = gI (mtf (zX σ 47) (zX σ 48) (zX σ 49) (zX σ 50) false kd pa od pos a) n)) v + Int32.ofInt (1))), (4, .int (nI (v + 1)))]) rfl ?_
            have e := ih (v + 1) (by omega) (by omega)
            simp only [ct] at e
            first | (rw [decide_eq_true h98] at e; exact e) | (rw [decide_eq_false h98] at e; simp only [cond_false] at e; rw [zad0] at e; exact e)
        · skip
          refine Z.aload_n B dX12_agree_64 (v := .ref 45) rfl rfl ?_
          refine Z.iload_n B dX12_agree_65 (x := nI i) rfl ?_
          refine Z.iload B dX12_agree_66 (x := nI v) rfl ?_
          refine Z.iload B dX12_agree_68 (x := nI (j + 1)) rfl ?_
          refine Z.callVI (σ := σ) B (M' := mX12_showsBy) (as := [.int (nI i), .int (nI v), .int (nI (j + 1))]) (st := []) (v := .int ((fun b c => shW (zX σ 47) (zX σ 48) (zX σ 49) kd pa b c) v (j + 1))) dX12_agree_70 wX12_showsBy iX12_showsBy sX12_showsBy kX12_186 (hl.n (k := 45) (by decide)) (hl.k (k := 45) (by decide)) (by decide) rfl rfl (t_X12_showsBy (σ := σ) H hw (b := v) (c := j + 1) (by omega) (by omega)) rfl rfl (by decide) (by decide) (Nat.le_of_ble_eq_true rfl) (by decide) (by decide) ?_
          refine Z.aload_n B dX12_agree_73 (v := .ref 45) rfl rfl ?_
          refine Z.iload_n B dX12_agree_74 (x := nI i) rfl ?_
          refine Z.iload B dX12_agree_75 (x := nI v) rfl ?_
          refine Z.iload B dX12_agree_77 (x := nI (ga ((fun b c => shW (zX σ 47) (zX σ 48) (zX σ 49) kd pa b c) v) j)) rfl ?_
          have hga := ga_le ((fun b c => shW (zX σ 47) (zX σ 48) (zX σ 49) kd pa b c) v) j
          refine Z.callVI (σ := σ) B (M' := mX12_showsBy) (as := [.int (nI i), .int (nI v), .int (nI (ga ((fun b c => shW (zX σ 47) (zX σ 48) (zX σ 49) kd pa b c) v) j))]) (st := [.int ((fun b c => shW (zX σ 47) (zX σ 48) (zX σ 49) kd pa b c) v (j + 1))]) (v := .int ((fun b c => shW (zX σ 47) (zX σ 48) (zX σ 49) kd pa b c) v (ga ((fun b c => shW (zX σ 47) (zX σ 48) (zX σ 49) kd pa b c) v) j))) dX12_agree_79 wX12_showsBy iX12_showsBy sX12_showsBy kX12_186 (hl.n (k := 45) (by decide)) (hl.k (k := 45) (by decide)) (by decide) rfl rfl (t_X12_showsBy (σ := σ) H hw (b := v) (c := ga ((fun b c => shW (zX σ 47) (zX σ 48) (zX σ 49) kd pa b c) v) j) (by omega) (by omega)) rfl rfl (by decide) (by decide) (Nat.le_of_ble_eq_true rfl) (by decide) (by decide) ?_
          refine Z.icmp_le B dX12_agree_82 (tgt := 89) rfl (fun h82 => ?_) (fun h82 => ?_)
          · skip
            have h82 : ¬ ((fun b c => shW (zX σ 47) (zX σ 48) (zX σ 49) kd pa b c) v) (ga ((fun b c => shW (zX σ 47) (zX σ 48) (zX σ 49) kd pa b c) v) j) < ((fun b c => shW (zX σ 47) (zX σ 48) (zX σ 49) kd pa b c) v) (j + 1) := by rw [zlt_iff]; rw [zle_iff] at h82; omega
            refine Z.iincN B dX12_agree_89 (by decide) (a := j + 1) rfl (L' := [(0, .ref 45), (1, .int (nI i)), (2, .int (gI (mtf (zX σ 47) (zX σ 48) (zX σ 49) (zX σ 50) false kd pa od pos a) n)), (3, .int (ct (fun b => decide (nI (ga ((fun b c => shW (zX σ 47) (zX σ 48) (zX σ 49) kd pa b c) b) (n - 1)) = gI (mtf (zX σ 47) (zX σ 48) (zX σ 49) (zX σ 50) false kd pa od pos a) n)) v)), (4, .int (nI v)), (5, .int (nI (ga ((fun b c => shW (zX σ 47) (zX σ 48) (zX σ 49) kd pa b c) v) j))), (6, .int (nI (j + 1 + 1)))]) rfl ?_
            refine Z.goto B dX12_agree_92 (tgt := 55) rfl ?_
            have e := jh (j + 1) (by omega) (by omega)
            simp only [ga] at e
            first | (rw [if_pos h82] at e; exact e) | (rw [if_neg h82] at e; exact e)
          · skip
            have h82 : ((fun b c => shW (zX σ 47) (zX σ 48) (zX σ 49) kd pa b c) v) (ga ((fun b c => shW (zX σ 47) (zX σ 48) (zX σ 49) kd pa b c) v) j) < ((fun b c => shW (zX σ 47) (zX σ 48) (zX σ 49) kd pa b c) v) (j + 1) := by rw [zlt_iff]; rw [zle_iff] at h82; omega
            refine Z.iload B dX12_agree_85 (x := nI (j + 1)) rfl ?_
            refine Z.istore B dX12_agree_87 (by decide) (L' := [(0, .ref 45), (1, .int (nI i)), (2, .int (gI (mtf (zX σ 47) (zX σ 48) (zX σ 49) (zX σ 50) false kd pa od pos a) n)), (3, .int (ct (fun b => decide (nI (ga ((fun b c => shW (zX σ 47) (zX σ 48) (zX σ 49) kd pa b c) b) (n - 1)) = gI (mtf (zX σ 47) (zX σ 48) (zX σ 49) (zX σ 50) false kd pa od pos a) n)) v)), (4, .int (nI v)), (5, .int (nI (j + 1))), (6, .int (nI (j + 1)))]) rfl ?_
            refine Z.iincN B dX12_agree_89 (by decide) (a := j + 1) rfl (L' := [(0, .ref 45), (1, .int (nI i)), (2, .int (gI (mtf (zX σ 47) (zX σ 48) (zX σ 49) (zX σ 50) false kd pa od pos a) n)), (3, .int (ct (fun b => decide (nI (ga ((fun b c => shW (zX σ 47) (zX σ 48) (zX σ 49) kd pa b c) b) (n - 1)) = gI (mtf (zX σ 47) (zX σ 48) (zX σ 49) (zX σ 50) false kd pa od pos a) n)) v)), (4, .int (nI v)), (5, .int (nI (j + 1))), (6, .int (nI (j + 1 + 1)))]) rfl ?_
            refine Z.goto B dX12_agree_92 (tgt := 55) rfl ?_
            have e := jh (j + 1) (by omega) (by omega)
            simp only [ga] at e
            first | (rw [if_pos h82] at e; exact e) | (rw [if_neg h82] at e; exact e)
      exact hloop55 0 (Nat.zero_le _)
  exact hloop40 0 (Nat.zero_le _)

theorem t_M_wrong_1 {σ : zSt} (hl : Lay σ) {n a y : Nat} (H : zMd σ n a y) {i : Int32} (hi : zOut i y) {sl : Bool} : Dt mX12_wrong_ [.ref 45, .int i, .int (zb sl)] σ (some (.int (-1))) (zuX σ 46 (upd (zX σ 46) 1 (zX σ 46 1 + nI 1))) := by
  obtain ⟨-, hn, hn8, ha, ha4, hy, hy8⟩ := id H
  refine Dt.of (by decide) (Nat.le_of_ble_eq_true rfl) fun κ B Rt => ?_
  show Z κ 0 0 σ 0 [(0, .ref 45), (1, .int i), (2, .int (zb sl))] []
  refine Z.aload_n B dX12_wrong__0 (v := .ref 45) rfl rfl ?_
  refine Z.iload_n B dX12_wrong__1 (x := i) rfl ?_
  refine Z.callVI (σ := σ) B (M' := mX12_isWay) (as := [.int i]) (st := []) (v := .int (nI 0)) dX12_wrong__2 wX12_isWay iX12_isWay sX12_isWay kX12_98 (hl.n (k := 45) (by decide)) (hl.k (k := 45) (by decide)) (by decide) rfl rfl (t_X12_isWay_out (σ := σ) H hi) rfl rfl (by decide) (by decide) (Nat.le_of_ble_eq_true rfl) (by decide) (by decide) ?_
  refine Z.if_neN B dX12_wrong__5 (tgt := 14) rfl (by omega) (fun h5 => by exfalso; first | omega | contradiction | simp_all) (fun h5 => ?_)
  refine Z.aload_n B dX12_wrong__8 (v := .ref 45) rfl rfl ?_
  refine Z.iconst B dX12_wrong__9 (v := (-1)) rfl ?_
  refine Z.callVI (σ := σ) B (M' := mX12_no) (as := [.int (-1)]) (st := []) (v := .int (-1)) dX12_wrong__10 wX12_no iX12_no sX12_no kX12_94 (hl.n (k := 45) (by decide)) (hl.k (k := 45) (by decide)) (by decide) rfl rfl (t_X12_no_1 (σ := σ) hl) rfl rfl (by decide) (by decide) (Nat.le_of_ble_eq_true rfl) (by decide) (by decide) ?_
  refine Z.eqσ (τ := (zuX σ 46 (upd (zX σ 46) 1 (zX σ 46 1 + nI 1)))) rfl ?_
  refine Z.iret B Rt dX12_wrong__13 (ty := .int) rfl rfl (by decide) (by decide) ?_
  exact ⟨rfl, rfl⟩

theorem t_M_wrong_5 {σ : zSt} (hl : Lay σ) {n a y : Nat} (H : zMd σ n a y) {i kd pa : Nat} (hi : i < y) (hw : zMy σ i kd pa) {sl : Bool} (h0 : n = 0) : Dt mX12_wrong_ [.ref 45, .int (nI i), .int (zb sl)] σ (some (.int (-5))) (zuX σ 46 (upd (zX σ 46) 5 (zX σ 46 5 + nI 1))) := by
  obtain ⟨-, hn, hn8, ha, ha4, hy, hy8⟩ := id H
  refine Dt.of (by decide) (Nat.le_of_ble_eq_true rfl) fun κ B Rt => ?_
  show Z κ 0 0 σ 0 [(0, .ref 45), (1, .int (nI i)), (2, .int (zb sl))] []
  refine Z.aload_n B dX12_wrong__0 (v := .ref 45) rfl rfl ?_
  refine Z.iload_n B dX12_wrong__1 (x := nI i) rfl ?_
  refine Z.callVI (σ := σ) B (M' := mX12_isWay) (as := [.int (nI i)]) (st := []) (v := .int (nI 1)) dX12_wrong__2 wX12_isWay iX12_isWay sX12_isWay kX12_98 (hl.n (k := 45) (by decide)) (hl.k (k := 45) (by decide)) (by decide) rfl rfl (t_X12_isWay_in (σ := σ) H hi) rfl rfl (by decide) (by decide) (Nat.le_of_ble_eq_true rfl) (by decide) (by decide) ?_
  refine Z.if_neN B dX12_wrong__5 (tgt := 14) rfl (by omega) (fun h5 => ?_) (fun h5 => by exfalso; first | omega | contradiction | simp_all)
  refine Z.aload_n B dX12_wrong__14 (v := .ref 45) rfl rfl ?_
  refine Z.getI (σ := σ) B fX12_81_12 dX12_wrong__15 (hl.n (k := 45) (by decide)) (hl.k (k := 45) (by decide)) (by decide) (v := nI n) hn ?_
  refine Z.if_neN B dX12_wrong__18 (tgt := 28) rfl (by omega) (fun h18 => by exfalso; first | omega | contradiction | simp_all) (fun h18 => ?_)
  refine Z.aload_n B dX12_wrong__21 (v := .ref 45) rfl rfl ?_
  refine Z.bipush B dX12_wrong__22 (v := (-5)) rfl ?_
  refine Z.callVI (σ := σ) B (M' := mX12_no) (as := [.int (-5)]) (st := []) (v := .int (-5)) dX12_wrong__24 wX12_no iX12_no sX12_no kX12_94 (hl.n (k := 45) (by decide)) (hl.k (k := 45) (by decide)) (by decide) rfl rfl (t_X12_no_5 (σ := σ) hl) rfl rfl (by decide) (by decide) (Nat.le_of_ble_eq_true rfl) (by decide) (by decide) ?_
  refine Z.eqσ (τ := (zuX σ 46 (upd (zX σ 46) 5 (zX σ 46 5 + nI 1)))) rfl ?_
  refine Z.iret B Rt dX12_wrong__27 (ty := .int) rfl rfl (by decide) (by decide) ?_
  exact ⟨rfl, rfl⟩

theorem t_M_wrong_0 {σ : zSt} (hl : Lay σ) {n a y : Nat} (H : zMd σ n a y) {od : Nat → Nat} (ho : zMo σ a od) {pos : Nat → Nat} (hpo : zPo a od pos) {i kd pa : Nat} (hi : i < y) (hw : zMy σ i kd pa) (hg : zX σ 45 28 = (-1)) {sl : Bool} (h0 : 0 < n) : Dt mX12_wrong_ [.ref 45, .int (nI i), .int (zb sl)] σ (some (.int (cn (zX σ 47) (ga (fun c => cn (zX σ 47) c 6) (n - 1)) 6 - cn (zX σ 47) (ga (mtf (zX σ 47) (zX σ 48) (zX σ 49) (zX σ 50) sl kd pa od pos a) (n - 1)) 6))) σ := by
  obtain ⟨-, hn, hn8, ha, ha4, hy, hy8⟩ := id H
  refine Dt.of (by decide) (Nat.le_of_ble_eq_true rfl) fun κ B Rt => ?_
  show Z κ 0 0 σ 0 [(0, .ref 45), (1, .int (nI i)), (2, .int (zb sl))] []
  refine Z.aload_n B dX12_wrong__0 (v := .ref 45) rfl rfl ?_
  refine Z.iload_n B dX12_wrong__1 (x := nI i) rfl ?_
  refine Z.callVI (σ := σ) B (M' := mX12_isWay) (as := [.int (nI i)]) (st := []) (v := .int (nI 1)) dX12_wrong__2 wX12_isWay iX12_isWay sX12_isWay kX12_98 (hl.n (k := 45) (by decide)) (hl.k (k := 45) (by decide)) (by decide) rfl rfl (t_X12_isWay_in (σ := σ) H hi) rfl rfl (by decide) (by decide) (Nat.le_of_ble_eq_true rfl) (by decide) (by decide) ?_
  refine Z.if_neN B dX12_wrong__5 (tgt := 14) rfl (by omega) (fun h5 => ?_) (fun h5 => by exfalso; first | omega | contradiction | simp_all)
  refine Z.aload_n B dX12_wrong__14 (v := .ref 45) rfl rfl ?_
  refine Z.getI (σ := σ) B fX12_81_12 dX12_wrong__15 (hl.n (k := 45) (by decide)) (hl.k (k := 45) (by decide)) (by decide) (v := nI n) hn ?_
  refine Z.if_neN B dX12_wrong__18 (tgt := 28) rfl (by omega) (fun h18 => ?_) (fun h18 => by exfalso; first | omega | contradiction | simp_all)
  refine Z.aload_n B dX12_wrong__28 (v := .ref 45) rfl rfl ?_
  refine Z.aload_n B dX12_wrong__29 (v := .ref 45) rfl rfl ?_
  refine Z.callVI (σ := σ) B (M' := mX12_bestNow) (as := []) (st := [.ref 45]) (v := .int (nI (ga (fun c => cn (zX σ 47) c 6) (n - 1)))) dX12_wrong__30 wX12_bestNow iX12_bestNow sX12_bestNow kX12_200 (hl.n (k := 45) (by decide)) (hl.k (k := 45) (by decide)) (by decide) rfl rfl (t_X12_bestNow (σ := σ) H h0) rfl rfl (by decide) (by decide) (Nat.le_of_ble_eq_true rfl) (by decide) (by decide) ?_
  have hg1 := ga_lt (f := (fun c => cn (zX σ 47) c 6)) h0
  refine Z.callVI (σ := σ) B (M' := mX12_sumOf) (as := [.int (nI (ga (fun c => cn (zX σ 47) c 6) (n - 1)))]) (st := []) (v := .int (cn (zX σ 47) (ga (fun c => cn (zX σ 47) c 6) (n - 1)) 6)) dX12_wrong__33 wX12_sumOf iX12_sumOf sX12_sumOf kX12_101 (hl.n (k := 45) (by decide)) (hl.k (k := 45) (by decide)) (by decide) rfl rfl (t_X12_sumOf (σ := σ) H (c := ga (fun c => cn (zX σ 47) c 6) (n - 1)) (by omega)) rfl rfl (by decide) (by decide) (Nat.le_of_ble_eq_true rfl) (by decide) (by decide) ?_
  refine Z.aload_n B dX12_wrong__36 (v := .ref 45) rfl rfl ?_
  refine Z.aload_n B dX12_wrong__37 (v := .ref 45) rfl rfl ?_
  refine Z.iload_n B dX12_wrong__38 (x := nI i) rfl ?_
  refine Z.iload_n B dX12_wrong__39 (x := zb sl) rfl ?_
  refine Z.callVI (σ := σ) B (M' := mX12_takenBy) (as := [.int (nI i), .int (zb sl)]) (st := [.ref 45, .int (cn (zX σ 47) (ga (fun c => cn (zX σ 47) c 6) (n - 1)) 6)]) (v := .int (gI (mtf (zX σ 47) (zX σ 48) (zX σ 49) (zX σ 50) sl kd pa od pos a) n)) dX12_wrong__40 wX12_takenBy iX12_takenBy sX12_takenBy kX12_104 (hl.n (k := 45) (by decide)) (hl.k (k := 45) (by decide)) (by decide) rfl rfl (t_X12_takenBy (σ := σ) H ho hpo hw hg) rfl rfl (by decide) (by decide) (Nat.le_of_ble_eq_true rfl) (by decide) (by decide) ?_
  rw [gI_pos h0]
  have hg2 := ga_lt (f := (mtf (zX σ 47) (zX σ 48) (zX σ 49) (zX σ 50) sl kd pa od pos a)) h0
  refine Z.callVI (σ := σ) B (M' := mX12_sumOf) (as := [.int (nI (ga (mtf (zX σ 47) (zX σ 48) (zX σ 49) (zX σ 50) sl kd pa od pos a) (n - 1)))]) (st := [.int (cn (zX σ 47) (ga (fun c => cn (zX σ 47) c 6) (n - 1)) 6)]) (v := .int (cn (zX σ 47) (ga (mtf (zX σ 47) (zX σ 48) (zX σ 49) (zX σ 50) sl kd pa od pos a) (n - 1)) 6)) dX12_wrong__43 wX12_sumOf iX12_sumOf sX12_sumOf kX12_101 (hl.n (k := 45) (by decide)) (hl.k (k := 45) (by decide)) (by decide) rfl rfl (t_X12_sumOf (σ := σ) H (c := ga (mtf (zX σ 47) (zX σ 48) (zX σ 49) (zX σ 50) sl kd pa od pos a) (n - 1)) (by omega)) rfl rfl (by decide) (by decide) (Nat.le_of_ble_eq_true rfl) (by decide) (by decide) ?_
  refine Z.isub B dX12_wrong__46 ?_
  refine Z.iret B Rt dX12_wrong__47 (ty := .int) rfl rfl (by decide) (by decide) ?_
  exact ⟨rfl, rfl⟩

theorem t_M_turned_1 {σ : zSt} (hl : Lay σ) {n a y : Nat} (H : zMd σ n a y) {i : Int32} (hi : zOut i y)  : Dt mX12_turned [.ref 45, .int i] σ (some (.int (-1))) (zuX σ 46 (upd (zX σ 46) 1 (zX σ 46 1 + nI 1))) := by
  obtain ⟨-, hn, hn8, ha, ha4, hy, hy8⟩ := id H
  refine Dt.of (by decide) (Nat.le_of_ble_eq_true rfl) fun κ B Rt => ?_
  show Z κ 0 0 σ 0 [(0, .ref 45), (1, .int i)] []
  refine Z.aload_n B dX12_turned_0 (v := .ref 45) rfl rfl ?_
  refine Z.iload_n B dX12_turned_1 (x := i) rfl ?_
  refine Z.callVI (σ := σ) B (M' := mX12_isWay) (as := [.int i]) (st := []) (v := .int (nI 0)) dX12_turned_2 wX12_isWay iX12_isWay sX12_isWay kX12_98 (hl.n (k := 45) (by decide)) (hl.k (k := 45) (by decide)) (by decide) rfl rfl (t_X12_isWay_out (σ := σ) H hi) rfl rfl (by decide) (by decide) (Nat.le_of_ble_eq_true rfl) (by decide) (by decide) ?_
  refine Z.if_neN B dX12_turned_5 (tgt := 14) rfl (by omega) (fun h5 => by exfalso; first | omega | contradiction | simp_all) (fun h5 => ?_)
  refine Z.aload_n B dX12_turned_8 (v := .ref 45) rfl rfl ?_
  refine Z.iconst B dX12_turned_9 (v := (-1)) rfl ?_
  refine Z.callVI (σ := σ) B (M' := mX12_no) (as := [.int (-1)]) (st := []) (v := .int (-1)) dX12_turned_10 wX12_no iX12_no sX12_no kX12_94 (hl.n (k := 45) (by decide)) (hl.k (k := 45) (by decide)) (by decide) rfl rfl (t_X12_no_1 (σ := σ) hl) rfl rfl (by decide) (by decide) (Nat.le_of_ble_eq_true rfl) (by decide) (by decide) ?_
  refine Z.eqσ (τ := (zuX σ 46 (upd (zX σ 46) 1 (zX σ 46 1 + nI 1)))) rfl ?_
  refine Z.iret B Rt dX12_turned_13 (ty := .int) rfl rfl (by decide) (by decide) ?_
  exact ⟨rfl, rfl⟩

theorem t_M_turned_n {σ : zSt} (hl : Lay σ) {n a y : Nat} (H : zMd σ n a y) {i kd pa : Nat} (hi : i < y) (hw : zMy σ i kd pa) (h0 : n = 0) (hg : zX σ 45 28 = (-1)) : Dt mX12_turned [.ref 45, .int (nI i)] σ (some (.int (nI 0))) σ := by
  obtain ⟨-, hn, hn8, ha, ha4, hy, hy8⟩ := id H
  refine Dt.of (by decide) (Nat.le_of_ble_eq_true rfl) fun κ B Rt => ?_
  show Z κ 0 0 σ 0 [(0, .ref 45), (1, .int (nI i))] []
  refine Z.aload_n B dX12_turned_0 (v := .ref 45) rfl rfl ?_
  refine Z.iload_n B dX12_turned_1 (x := nI i) rfl ?_
  refine Z.callVI (σ := σ) B (M' := mX12_isWay) (as := [.int (nI i)]) (st := []) (v := .int (nI 1)) dX12_turned_2 wX12_isWay iX12_isWay sX12_isWay kX12_98 (hl.n (k := 45) (by decide)) (hl.k (k := 45) (by decide)) (by decide) rfl rfl (t_X12_isWay_in (σ := σ) H hi) rfl rfl (by decide) (by decide) (Nat.le_of_ble_eq_true rfl) (by decide) (by decide) ?_
  refine Z.if_neN B dX12_turned_5 (tgt := 14) rfl (by omega) (fun h5 => ?_) (fun h5 => by exfalso; first | omega | contradiction | simp_all)
  refine Z.iconst B dX12_turned_14 (v := nI 0) rfl ?_
  refine Z.istore_n B dX12_turned_15 (by decide) (L' := [(0, .ref 45), (1, .int (nI i)), (2, .int (nI 0))]) rfl ?_
  refine Z.iconst B dX12_turned_16 (v := nI 0) rfl ?_
  refine Z.istore_n B dX12_turned_17 (by decide) (L' := [(0, .ref 45), (1, .int (nI i)), (2, .int (nI 0)), (3, .int (nI 0))]) rfl ?_
  refine Z.iload_n B dX12_turned_18 (x := nI 0) rfl ?_
  refine Z.aload_n B dX12_turned_19 (v := .ref 45) rfl rfl ?_
  refine Z.getI (σ := σ) B fX12_84_12 dX12_turned_20 (hl.n (k := 45) (by decide)) (hl.k (k := 45) (by decide)) (by decide) (v := nI a) ha ?_
  refine Z.icmp_geN B dX12_turned_23 (tgt := 55) rfl (by omega) (by omega) (fun h23 => ?_) (fun h23 => ?_)
  · skip
    refine Z.aload_n B dX12_turned_55 (v := .ref 45) rfl rfl ?_
    refine Z.iconst B dX12_turned_56 (v := (-1)) rfl ?_
    refine Z.putI (σ := σ) B fX12_72_12 (ty := .int) ⟨_, _, _, rfl, rfl, by decide +kernel⟩ dX12_turned_57 (hl.n (k := 45) (by decide)) (hl.k (k := 45) (by decide)) (by decide) rfl rfl (τ := (zuX σ 45 (upd (zX σ 45) 28 (-1)))) rfl ?_
    refine Z.iload_n B dX12_turned_60 (x := nI 0) rfl ?_
    refine Z.iret B Rt dX12_turned_61 (ty := .int) rfl rfl (by decide) (by decide) ?_
    exact ⟨rfl, by rw [← hg, upd_id, zuX_id]⟩
  · skip
    refine Z.aload_n B dX12_turned_26 (v := .ref 45) rfl rfl ?_
    refine Z.getI (σ := σ) B fX12_81_12 dX12_turned_27 (hl.n (k := 45) (by decide)) (hl.k (k := 45) (by decide)) (by decide) (v := nI n) hn ?_
    refine Z.if_leN B dX12_turned_30 (tgt := 55) rfl (by omega) (fun h30 => ?_) (fun h30 => by exfalso; first | omega | contradiction | simp_all)
    refine Z.aload_n B dX12_turned_55 (v := .ref 45) rfl rfl ?_
    refine Z.iconst B dX12_turned_56 (v := (-1)) rfl ?_
    refine Z.putI (σ := σ) B fX12_72_12 (ty := .int) ⟨_, _, _, rfl, rfl, by decide +kernel⟩ dX12_turned_57 (hl.n (k := 45) (by decide)) (hl.k (k := 45) (by decide)) (by decide) rfl rfl (τ := (zuX σ 45 (upd (zX σ 45) 28 (-1)))) rfl ?_
    refine Z.iload_n B dX12_turned_60 (x := nI 0) rfl ?_
    refine Z.iret B Rt dX12_turned_61 (ty := .int) rfl rfl (by decide) (by decide) ?_
    exact ⟨rfl, by rw [← hg, upd_id, zuX_id]⟩

theorem t_M_turned_0 {σ : zSt} (hl : Lay σ) {n a y : Nat} (H : zMd σ n a y) {od : Nat → Nat} (ho : zMo σ a od) {pos : Nat → Nat} (hpo : zPo a od pos) {i kd pa : Nat} (hi : i < y) (hw : zMy σ i kd pa) (h0 : 0 < n) (hg : zX σ 45 28 = (-1)) : Dt mX12_turned [.ref 45, .int (nI i)] σ (some (.int (tnM n (fun g => mtg (zX σ 47) (zX σ 48) (zX σ 49) (zX σ 50) kd pa od pos a g) a))) σ := by
  obtain ⟨-, hn, hn8, ha, ha4, hy, hy8⟩ := id H
  refine Dt.of (by decide) (Nat.le_of_ble_eq_true rfl) fun κ B Rt => ?_
  show Z κ 0 0 σ 0 [(0, .ref 45), (1, .int (nI i))] []
  refine Z.aload_n B dX12_turned_0 (v := .ref 45) rfl rfl ?_
  refine Z.iload_n B dX12_turned_1 (x := nI i) rfl ?_
  refine Z.callVI (σ := σ) B (M' := mX12_isWay) (as := [.int (nI i)]) (st := []) (v := .int (nI 1)) dX12_turned_2 wX12_isWay iX12_isWay sX12_isWay kX12_98 (hl.n (k := 45) (by decide)) (hl.k (k := 45) (by decide)) (by decide) rfl rfl (t_X12_isWay_in (σ := σ) H hi) rfl rfl (by decide) (by decide) (Nat.le_of_ble_eq_true rfl) (by decide) (by decide) ?_
  refine Z.if_neN B dX12_turned_5 (tgt := 14) rfl (by omega) (fun h5 => ?_) (fun h5 => by exfalso; first | omega | contradiction | simp_all)
  refine Z.iconst B dX12_turned_14 (v := nI 0) rfl ?_
  refine Z.istore_n B dX12_turned_15 (by decide) (L' := [(0, .ref 45), (1, .int (nI i)), (2, .int (nI 0))]) rfl ?_
  refine Z.iconst B dX12_turned_16 (v := nI 0) rfl ?_
  refine Z.istore_n B dX12_turned_17 (by decide) (L' := [(0, .ref 45), (1, .int (nI i)), (2, .int (nI 0)), (3, .int (nI 0))]) rfl ?_
  have hloop18 : ∀ b : Nat, b ≤ a → Z κ 0 0 (zuX σ 45 (upd (zX σ 45) 28 (gn b))) 18 [(0, .ref 45), (1, .int (nI i)), (2, .int (tnM n (fun g => mtg (zX σ 47) (zX σ 48) (zX σ 49) (zX σ 50) kd pa od pos a g) b)), (3, .int (nI b))] [] := by
    refine z_loop (fun b => a - b) (fun b ih hb => ?_)
    refine Z.iload_n B dX12_turned_18 (x := nI b) rfl ?_
    refine Z.aload_n B dX12_turned_19 (v := .ref 45) rfl rfl ?_
    refine Z.getI (σ := (zuX σ 45 (upd (zX σ 45) 28 (gn b)))) B fX12_84_12 dX12_turned_20 (hl.n (k := 45) (by decide)) (hl.k (k := 45) (by decide)) (by decide) (v := nI a) ha ?_
    refine Z.icmp_geN B dX12_turned_23 (tgt := 55) rfl (by omega) (by omega) (fun h23 => ?_) (fun h23 => ?_)
    · skip
      obtain rfl : a = b := by omega
      refine Z.aload_n B dX12_turned_55 (v := .ref 45) rfl rfl ?_
      refine Z.iconst B dX12_turned_56 (v := (-1)) rfl ?_
      refine Z.putI (σ := (zuX σ 45 (upd (zX σ 45) 28 (gn a)))) B fX12_72_12 (ty := .int) ⟨_, _, _, rfl, rfl, by decide +kernel⟩ dX12_turned_57 (hl.n (k := 45) (by decide)) (hl.k (k := 45) (by decide)) (by decide) rfl rfl (τ := (zuX σ 45 (upd (zX σ 45) 28 (-1)))) (by rw [zX_self, upd_upd, zuX_uX]) ?_
      refine Z.iload_n B dX12_turned_60 (x := tnM n (fun g => mtg (zX σ 47) (zX σ 48) (zX σ 49) (zX σ 50) kd pa od pos a g) a) rfl ?_
      refine Z.iret B Rt dX12_turned_61 (ty := .int) rfl rfl (by decide) (by decide) ?_
      exact ⟨rfl, by rw [← hg, upd_id, zuX_id]⟩
    · skip
      refine Z.aload_n B dX12_turned_26 (v := .ref 45) rfl rfl ?_
      refine Z.getI (σ := (zuX σ 45 (upd (zX σ 45) 28 (gn b)))) B fX12_81_12 dX12_turned_27 (hl.n (k := 45) (by decide)) (hl.k (k := 45) (by decide)) (by decide) (v := nI n) hn ?_
      refine Z.if_leN B dX12_turned_30 (tgt := 55) rfl (by omega) (fun h30 => by exfalso; first | omega | contradiction | simp_all) (fun h30 => ?_)
      refine Z.aload_n B dX12_turned_33 (v := .ref 45) rfl rfl ?_
      refine Z.iload_n B dX12_turned_34 (x := nI b) rfl ?_
      refine Z.putI (σ := (zuX σ 45 (upd (zX σ 45) 28 (gn b)))) B fX12_72_12 (ty := .int) ⟨_, _, _, rfl, rfl, by decide +kernel⟩ dX12_turned_35 (hl.n (k := 45) (by decide)) (hl.k (k := 45) (by decide)) (by decide) rfl rfl (τ := (zuX σ 45 (upd (zX σ 45) 28 (nI b)))) (by rw [zX_self, upd_upd, zuX_uX]) ?_
      refine Z.iload_n B dX12_turned_38 (x := tnM n (fun g => mtg (zX σ 47) (zX σ 48) (zX σ 49) (zX σ 50) kd pa od pos a g) b) rfl ?_
      refine Z.iconst B dX12_turned_39 (v := nI 1) rfl ?_
      refine Z.aload_n B dX12_turned_40 (v := .ref 45) rfl rfl ?_
      refine Z.iload_n B dX12_turned_41 (x := nI i) rfl ?_
      refine Z.iconst B dX12_turned_42 (v := nI 1) rfl ?_
      have etrue : nI 1 = zb true := rfl
      refine Z.callVI (σ := (zuX σ 45 (upd (zX σ 45) 28 (nI b)))) B (M' := mX12_takenBy) (as := [.int (nI i), .int (zb true)]) (st := [.int (nI 1), .int (tnM n (fun g => mtg (zX σ 47) (zX σ 48) (zX σ 49) (zX σ 50) kd pa od pos a g) b)]) (v := .int (gI ((fun g => mtg (zX σ 47) (zX σ 48) (zX σ 49) (zX σ 50) kd pa od pos a g) b) n)) dX12_turned_43 wX12_takenBy iX12_takenBy sX12_takenBy kX12_104 (hl.n (k := 45) (by decide)) (hl.k (k := 45) (by decide)) (by decide) rfl rfl (t_X12_takenBy_g (σ := (zuX σ 45 (upd (zX σ 45) 28 (nI b)))) H ho hpo hw (g := b) rfl (by omega)) rfl rfl (by decide) (by decide) (Nat.le_of_ble_eq_true rfl) (by decide) (by decide) ?_
      refine Z.ishl B dX12_turned_46 ?_
      refine Z.ior B dX12_turned_47 ?_
      refine Z.istore_n B dX12_turned_48 (by decide) (L' := [(0, .ref 45), (1, .int (nI i)), (2, .int ((tnM n (fun g => mtg (zX σ 47) (zX σ 48) (zX σ 49) (zX σ 50) kd pa od pos a g) b) ||| ((nI 1) <<< ((gI ((fun g => mtg (zX σ 47) (zX σ 48) (zX σ 49) (zX σ 50) kd pa od pos a g) b) n) &&& 31)))), (3, .int (nI b))]) rfl ?_
      refine Z.iincN B dX12_turned_49 (by decide) (a := b) rfl (L' := [(0, .ref 45), (1, .int (nI i)), (2, .int ((tnM n (fun g => mtg (zX σ 47) (zX σ 48) (zX σ 49) (zX σ 50) kd pa od pos a g) b) ||| ((nI 1) <<< ((gI ((fun g => mtg (zX σ 47) (zX σ 48) (zX σ 49) (zX σ 50) kd pa od pos a g) b) n) &&& 31)))), (3, .int (nI (b + 1)))]) rfl ?_
      refine Z.goto B dX12_turned_52 (tgt := 18) rfl ?_
      exact ih (b + 1) (by omega) (by omega)
  have h1 := hloop18 0 (Nat.zero_le _)
  have e1 : gn 0 = zX σ 45 28 := hg.symm
  rw [e1, upd_id, zuX_id] at h1
  exact h1

theorem t_M_piece_0 {σ : zSt} (hl : Lay σ) {n a y : Nat} (H : zMd σ n a y)  : Dt mX12_piece [.ref 45] σ (some (.int (gI (fun l => tO (mt (am_ 255) (zX σ 47) (fun c => cn (zX σ 47) c l)) n) 3))) (zuX σ 64 (fl (fun l c => cn (zX σ 47) c l) n (zX σ 64) 3)) := by
  obtain ⟨-, hn, hn8, ha, ha4, hy, hy8⟩ := id H
  refine Dt.of (by decide) (Nat.le_of_ble_eq_true rfl) fun κ B Rt => ?_
  show Z κ 0 0 σ 0 [(0, .ref 45)] []
  refine Z.iconst B dX12_piece_0 (v := (-1)) rfl ?_
  refine Z.istore_n B dX12_piece_1 (by decide) (L' := [(0, .ref 45), (1, .int (-1))]) rfl ?_
  refine Z.iconst B dX12_piece_2 (v := nI 0) rfl ?_
  refine Z.istore_n B dX12_piece_3 (by decide) (L' := [(0, .ref 45), (1, .int (-1)), (2, .int (nI 0))]) rfl ?_
  refine Z.iconst B dX12_piece_4 (v := nI 0) rfl ?_
  refine Z.istore_n B dX12_piece_5 (by decide) (L' := [(0, .ref 45), (1, .int (-1)), (2, .int (nI 0)), (3, .int (nI 0))]) rfl ?_
  have hloop6 : ∀ v : Nat, v ≤ 3 → Z κ 0 0 (zuX σ 64 (fl (fun l c => cn (zX σ 47) c l) n (zX σ 64) v)) 6 [(0, .ref 45), (1, .int (gI (fun l => tO (mt (am_ 255) (zX σ 47) (fun c => cn (zX σ 47) c l)) n) v)), (2, .int (gm (fun l => tO (mt (am_ 255) (zX σ 47) (fun c => cn (zX σ 47) c l)) n) v)), (3, .int (nI v))] [] := by
    refine z_loop (fun v => 3 - v) (fun v ih hl3 => ?_)
    refine Z.iload_n B dX12_piece_6 (x := nI v) rfl ?_
    refine Z.iconst B dX12_piece_7 (v := nI 3) rfl ?_
    refine Z.icmp_geN B dX12_piece_8 (tgt := 82) rfl (by omega) (by omega) (fun h8 => ?_) (fun h8 => ?_)
    · skip
      obtain rfl : 3 = v := by omega
      refine Z.iload_n B dX12_piece_82 (x := gI (fun l => tO (mt (am_ 255) (zX σ 47) (fun c => cn (zX σ 47) c l)) n) 3) rfl ?_
      refine Z.iret B Rt dX12_piece_83 (ty := .int) rfl rfl (by decide) (by decide) ?_
      exact ⟨rfl, rfl⟩
    · skip
      refine Z.iconst B dX12_piece_11 (v := nI 0) rfl ?_
      refine Z.istore B dX12_piece_12 (by decide) (L' := [(0, .ref 45), (1, .int (gI (fun l => tO (mt (am_ 255) (zX σ 47) (fun c => cn (zX σ 47) c l)) n) v)), (2, .int (gm (fun l => tO (mt (am_ 255) (zX σ 47) (fun c => cn (zX σ 47) c l)) n) v)), (3, .int (nI v)), (4, .int (nI 0))]) rfl ?_
      have hloop14 : ∀ i : Nat, i ≤ n → Z κ 0 0 (zuX σ 64 (fi i (fun c => cn (zX σ 47) c v) (fl (fun l c => cn (zX σ 47) c l) n (zX σ 64) v))) 14 [(0, .ref 45), (1, .int (gI (fun l => tO (mt (am_ 255) (zX σ 47) (fun c => cn (zX σ 47) c l)) n) v)), (2, .int (gm (fun l => tO (mt (am_ 255) (zX σ 47) (fun c => cn (zX σ 47) c l)) n) v)), (3, .int (nI v)), (4, .int (nI i))] [] := by
        refine z_loop (fun i => n - i) (fun i ihi hi => ?_)
        refine Z.iload B dX12_piece_14 (x := nI i) rfl ?_
        refine Z.aload_n B dX12_piece_16 (v := .ref 45) rfl rfl ?_
        refine Z.getI (σ := (zuX σ 64 (fi i (fun c => cn (zX σ 47) c v) (fl (fun l c => cn (zX σ 47) c l) n (zX σ 64) v)))) B fX12_81_12 dX12_piece_17 (hl.n (k := 45) (by decide)) (hl.k (k := 45) (by decide)) (by decide) (v := nI n) hn ?_
        refine Z.icmp_geN B dX12_piece_20 (tgt := 48) rfl (by omega) (by omega) (fun h20 => ?_) (fun h20 => ?_)
        · skip
          obtain rfl : n = i := by omega
          refine Z.aload_n B dX12_piece_48 (v := .ref 45) rfl rfl ?_
          refine Z.sipush B dX12_piece_49 (v := nI 255) rfl ?_
          refine Z.callVI (σ := (zuX σ 64 (fi n (fun c => cn (zX σ 47) c v) (fl (fun l c => cn (zX σ 47) c l) n (zX σ 64) v)))) B (M' := mX12_tellsBy) (as := [.int (nI 255)]) (st := []) (v := .int (tO (mt (am_ 255) (zX σ 47) (fi n (fun c => cn (zX σ 47) c v) (fl (fun l c => cn (zX σ 47) c l) n (zX σ 64) v))) n)) dX12_piece_52 wX12_tellsBy iX12_tellsBy sX12_tellsBy kX12_210 (hl.n (k := 45) (by decide)) (hl.k (k := 45) (by decide)) (by decide) rfl rfl (t_X12_tellsBy (σ := (zuX σ 64 (fi n (fun c => cn (zX σ 47) c v) (fl (fun l c => cn (zX σ 47) c l) n (zX σ 64) v)))) H (mk := 255) (by omega)) rfl rfl (by decide) (by decide) (Nat.le_of_ble_eq_true rfl) (by decide) (by decide) ?_
          refine Z.eqS (st' := [.int ((fun l => tO (mt (am_ 255) (zX σ 47) (fun c => cn (zX σ 47) c l)) n) v)]) (by rw [mt_fi]) ?_
          refine Z.istore B dX12_piece_55 (by decide) (L' := [(0, .ref 45), (1, .int (gI (fun l => tO (mt (am_ 255) (zX σ 47) (fun c => cn (zX σ 47) c l)) n) v)), (2, .int (gm (fun l => tO (mt (am_ 255) (zX σ 47) (fun c => cn (zX σ 47) c l)) n) v)), (3, .int (nI v)), (4, .int ((fun l => tO (mt (am_ 255) (zX σ 47) (fun c => cn (zX σ 47) c l)) n) v))]) rfl ?_
          refine Z.iload_n B dX12_piece_57 (x := gI (fun l => tO (mt (am_ 255) (zX σ 47) (fun c => cn (zX σ 47) c l)) n) v) rfl ?_
          refine Z.iconst B dX12_piece_58 (v := (-1)) rfl ?_
          refine Z.icmp_eq B dX12_piece_59 (tgt := 71) rfl (fun h59 => ?_) (fun h59 => ?_)
          · skip
            refine Z.iload_n B dX12_piece_71 (x := nI v) rfl ?_
            refine Z.istore_n B dX12_piece_72 (by decide) (L' := [(0, .ref 45), (1, .int (nI v)), (2, .int (gm (fun l => tO (mt (am_ 255) (zX σ 47) (fun c => cn (zX σ 47) c l)) n) v)), (3, .int (nI v)), (4, .int ((fun l => tO (mt (am_ 255) (zX σ 47) (fun c => cn (zX σ 47) c l)) n) v))]) rfl ?_
            refine Z.iload B dX12_piece_73 (x := ((fun l => tO (mt (am_ 255) (zX σ 47) (fun c => cn (zX σ 47) c l)) n) v)) rfl ?_
            refine Z.istore_n B dX12_piece_75 (by decide) (L' := [(0, .ref 45), (1, .int (nI v)), (2, .int ((fun l => tO (mt (am_ 255) (zX σ 47) (fun c => cn (zX σ 47) c l)) n) v)), (3, .int (nI v)), (4, .int ((fun l => tO (mt (am_ 255) (zX σ 47) (fun c => cn (zX σ 47) c l)) n) v))]) rfl ?_
            refine Z.iincN B dX12_piece_76 (by decide) (a := v) rfl (L' := [(0, .ref 45), (1, .int (nI v)), (2, .int ((fun l => tO (mt (am_ 255) (zX σ 47) (fun c => cn (zX σ 47) c l)) n) v)), (3, .int (nI (v + 1))), (4, .int ((fun l => tO (mt (am_ 255) (zX σ 47) (fun c => cn (zX σ 47) c l)) n) v))]) rfl ?_
            refine Z.goto B dX12_piece_79 (tgt := 6) rfl ?_
            refine Z.drop 4 (L' := [(0, .ref 45), (1, .int (nI v)), (2, .int ((fun l => tO (mt (am_ 255) (zX σ 47) (fun c => cn (zX σ 47) c l)) n) v)), (3, .int (nI (v + 1)))]) rfl ?_
            have e := ih (v + 1) (by omega) (by omega)
            rw [← fl_s] at e
            first | (rw [(gI_take (Or.inl h59) (by omega)).1, (gI_take (Or.inl h59) (by omega)).2] at e; exact e) | (rw [(gI_take (Or.inr h65) (by omega)).1, (gI_take (Or.inr h65) (by omega)).2] at e; exact e) | (rw [(gI_keepn h59 h65).1, (gI_keepn h59 h65).2] at e; exact e)
          · skip
            refine Z.iload B dX12_piece_62 (x := ((fun l => tO (mt (am_ 255) (zX σ 47) (fun c => cn (zX σ 47) c l)) n) v)) rfl ?_
            refine Z.iload_n B dX12_piece_64 (x := gm (fun l => tO (mt (am_ 255) (zX σ 47) (fun c => cn (zX σ 47) c l)) n) v) rfl ?_
            refine Z.icmp_gt B dX12_piece_65 (tgt := 71) rfl (fun h65 => ?_) (fun h65 => ?_)
            · skip
              refine Z.iload_n B dX12_piece_71 (x := nI v) rfl ?_
              refine Z.istore_n B dX12_piece_72 (by decide) (L' := [(0, .ref 45), (1, .int (nI v)), (2, .int (gm (fun l => tO (mt (am_ 255) (zX σ 47) (fun c => cn (zX σ 47) c l)) n) v)), (3, .int (nI v)), (4, .int ((fun l => tO (mt (am_ 255) (zX σ 47) (fun c => cn (zX σ 47) c l)) n) v))]) rfl ?_
              refine Z.iload B dX12_piece_73 (x := ((fun l => tO (mt (am_ 255) (zX σ 47) (fun c => cn (zX σ 47) c l)) n) v)) rfl ?_
              refine Z.istore_n B dX12_piece_75 (by decide) (L' := [(0, .ref 45), (1, .int (nI v)), (2, .int ((fun l => tO (mt (am_ 255) (zX σ 47) (fun c => cn (zX σ 47) c l)) n) v)), (3, .int (nI v)), (4, .int ((fun l => tO (mt (am_ 255) (zX σ 47) (fun c => cn (zX σ 47) c l)) n) v))]) rfl ?_
              refine Z.iincN B dX12_piece_76 (by decide) (a := v) rfl (L' := [(0, .ref 45), (1, .int (nI v)), (2, .int ((fun l => tO (mt (am_ 255) (zX σ 47) (fun c => cn (zX σ 47) c l)) n) v)), (3, .int (nI (v + 1))), (4, .int ((fun l => tO (mt (am_ 255) (zX σ 47) (fun c => cn (zX σ 47) c l)) n) v))]) rfl ?_
              refine Z.goto B dX12_piece_79 (tgt := 6) rfl ?_
              refine Z.drop 4 (L' := [(0, .ref 45), (1, .int (nI v)), (2, .int ((fun l => tO (mt (am_ 255) (zX σ 47) (fun c => cn (zX σ 47) c l)) n) v)), (3, .int (nI (v + 1)))]) rfl ?_
              have e := ih (v + 1) (by omega) (by omega)
              rw [← fl_s] at e
              first | (rw [(gI_take (Or.inl h59) (by omega)).1, (gI_take (Or.inl h59) (by omega)).2] at e; exact e) | (rw [(gI_take (Or.inr h65) (by omega)).1, (gI_take (Or.inr h65) (by omega)).2] at e; exact e) | (rw [(gI_keepn h59 h65).1, (gI_keepn h59 h65).2] at e; exact e)
            · skip
              refine Z.goto B dX12_piece_68 (tgt := 76) rfl ?_
              refine Z.iincN B dX12_piece_76 (by decide) (a := v) rfl (L' := [(0, .ref 45), (1, .int (gI (fun l => tO (mt (am_ 255) (zX σ 47) (fun c => cn (zX σ 47) c l)) n) v)), (2, .int (gm (fun l => tO (mt (am_ 255) (zX σ 47) (fun c => cn (zX σ 47) c l)) n) v)), (3, .int (nI (v + 1))), (4, .int ((fun l => tO (mt (am_ 255) (zX σ 47) (fun c => cn (zX σ 47) c l)) n) v))]) rfl ?_
              refine Z.goto B dX12_piece_79 (tgt := 6) rfl ?_
              refine Z.drop 4 (L' := [(0, .ref 45), (1, .int (gI (fun l => tO (mt (am_ 255) (zX σ 47) (fun c => cn (zX σ 47) c l)) n) v)), (2, .int (gm (fun l => tO (mt (am_ 255) (zX σ 47) (fun c => cn (zX σ 47) c l)) n) v)), (3, .int (nI (v + 1)))]) rfl ?_
              have e := ih (v + 1) (by omega) (by omega)
              rw [← fl_s] at e
              first | (rw [(gI_take (Or.inl h59) (by omega)).1, (gI_take (Or.inl h59) (by omega)).2] at e; exact e) | (rw [(gI_take (Or.inr h65) (by omega)).1, (gI_take (Or.inr h65) (by omega)).2] at e; exact e) | (rw [(gI_keepn h59 h65).1, (gI_keepn h59 h65).2] at e; exact e)
        · skip
          refine Z.aload_n B dX12_piece_23 (v := .ref 45) rfl rfl ?_
          refine Z.getR (σ := (zuX σ 64 (fi i (fun c => cn (zX σ 47) c v) (fl (fun l c => cn (zX σ 47) c l) n (zX σ 64) v)))) B fX12_75_12 dX12_piece_24 (hl.n (k := 45) (by decide)) (hl.k (k := 45) (by decide)) (by decide) (j := 64) (hl.r (k := 45) (f := 29) (by decide) (by decide)) ?_
          refine Z.iload B dX12_piece_27 (x := nI i) rfl ?_
          refine Z.aload_n B dX12_piece_29 (v := .ref 45) rfl rfl ?_
          refine Z.getR (σ := (zuX σ 64 (fi i (fun c => cn (zX σ 47) c v) (fl (fun l c => cn (zX σ 47) c l) n (zX σ 64) v)))) B fX12_20_12 dX12_piece_30 (hl.n (k := 45) (by decide)) (hl.k (k := 45) (by decide)) (by decide) (j := 47) (hl.r (k := 45) (f := 6) (by decide) (by decide)) ?_
          refine Z.bipush B dX12_piece_33 (v := nI 6) rfl ?_
          refine Z.iload B dX12_piece_35 (x := nI i) rfl ?_
          refine Z.imulNc B dX12_piece_37 (a := 6) (b := i) ?_
          refine Z.iload_n B dX12_piece_38 (x := nI v) rfl ?_
          refine Z.iaddN B dX12_piece_39 (a := i * 6) (b := v) ?_
          refine Z.iald (σ := (zuX σ 64 (fi i (fun c => cn (zX σ 47) c v) (fl (fun l c => cn (zX σ 47) c l) n (zX σ 64) v)))) B dX12_piece_40 (n := 48) (hl.n (k := 47) (by decide)) (hl.k (k := 47) (by decide)) (hl.l (k := 47) (by decide)) (by decide) (j := (i * 6) + v) rfl (by omega) (v := (fun c => cn (zX σ 47) c v) i) (cn_ne (by omega)).symm ?_
          refine Z.iast (σ := (zuX σ 64 (fi i (fun c => cn (zX σ 47) c v) (fl (fun l c => cn (zX σ 47) c l) n (zX σ 64) v)))) B dX12_piece_41 (n := 8) (hl.n (k := 64) (by decide)) (hl.k (k := 64) (by decide)) (hl.l (k := 64) (by decide)) (by decide) (j := i) rfl (by omega) (τ := (zuX σ 64 (fi (i + 1) (fun c => cn (zX σ 47) c v) (fl (fun l c => cn (zX σ 47) c l) n (zX σ 64) v)))) (by rw [zX_self, zuX_uX, fi_s rfl]) ?_
          refine Z.iincN B dX12_piece_42 (by decide) (a := i) rfl (L' := [(0, .ref 45), (1, .int (gI (fun l => tO (mt (am_ 255) (zX σ 47) (fun c => cn (zX σ 47) c l)) n) v)), (2, .int (gm (fun l => tO (mt (am_ 255) (zX σ 47) (fun c => cn (zX σ 47) c l)) n) v)), (3, .int (nI v)), (4, .int (nI (i + 1)))]) rfl ?_
          refine Z.goto B dX12_piece_45 (tgt := 14) rfl ?_
          exact ihi (i + 1) (by omega) (by omega)
      have h1 := hloop14 0 (Nat.zero_le _)
      rw [fi_0] at h1
      exact h1
  have h0 := hloop6 0 (Nat.zero_le _)
  have e0 : fl (fun l c => cn (zX σ 47) c l) n (zX σ 64) 0 = zX σ 64 := rfl
  rw [e0, zuX_id] at h0
  exact h0

theorem t_M_trace_0 {σ : zSt} (hl : Lay σ) {r i : Nat} (hr : zX σ 45 31 = nI r) (hr3 : r < 2 ^ 31) (hi : i < r) (hi20 : i < 20) : Dt mX12_trace [.ref 45, .int (nI i)] σ (some (.int (zX σ 65 i))) σ := by
  refine Dt.of (by decide) (Nat.le_of_ble_eq_true rfl) fun κ B Rt => ?_
  show Z κ 0 0 σ 0 [(0, .ref 45), (1, .int (nI i))] []
  refine Z.iload_n B dX12_trace_0 (x := nI i) rfl ?_
  refine Z.if_ltN B dX12_trace_1 (tgt := 27) rfl (by omega) ?_
  refine Z.iload_n B dX12_trace_4 (x := nI i) rfl ?_
  refine Z.bipush B dX12_trace_5 (v := nI 20) rfl ?_
  refine Z.icmp_geN B dX12_trace_7 (tgt := 27) rfl (by omega) (by omega) (fun h7 => by exfalso; first | omega | contradiction | simp_all) (fun h7 => ?_)
  refine Z.iload_n B dX12_trace_10 (x := nI i) rfl ?_
  refine Z.aload_n B dX12_trace_11 (v := .ref 45) rfl rfl ?_
  refine Z.getI (σ := σ) B fX12_226_12 dX12_trace_12 (hl.n (k := 45) (by decide)) (hl.k (k := 45) (by decide)) (by decide) (v := nI r) hr ?_
  refine Z.icmp_geN B dX12_trace_15 (tgt := 27) rfl (by omega) (by omega) (fun h15 => by exfalso; first | omega | contradiction | simp_all) (fun h15 => ?_)
  refine Z.aload_n B dX12_trace_18 (v := .ref 45) rfl rfl ?_
  refine Z.getR (σ := σ) B fX12_78_12 dX12_trace_19 (hl.n (k := 45) (by decide)) (hl.k (k := 45) (by decide)) (by decide) (j := 65) (hl.r (k := 45) (f := 30) (by decide) (by decide)) ?_
  refine Z.iload_n B dX12_trace_22 (x := nI i) rfl ?_
  refine Z.iald (σ := σ) B dX12_trace_23 (n := 20) (hl.n (k := 65) (by decide)) (hl.k (k := 65) (by decide)) (hl.l (k := 65) (by decide)) (by decide) (j := i) rfl (by omega) (v := (zX σ 65 i)) rfl ?_
  refine Z.goto B dX12_trace_24 (tgt := 28) rfl ?_
  refine Z.iret B Rt dX12_trace_28 (ty := .int) rfl rfl (by decide) (by decide) ?_
  exact ⟨rfl, rfl⟩

theorem t_M_trace_n {σ : zSt} (hl : Lay σ) {i : Int32} (hi : i < 0) : Dt mX12_trace [.ref 45, .int i] σ (some (.int (-1))) σ := by
  refine Dt.of (by decide) (Nat.le_of_ble_eq_true rfl) fun κ B Rt => ?_
  show Z κ 0 0 σ 0 [(0, .ref 45), (1, .int i)] []
  refine Z.iload_n B dX12_trace_0 (x := i) rfl ?_
  refine Z.if_lt B dX12_trace_1 (tgt := 27) rfl (fun h1 => ?_) (fun h1 => by exfalso; first | omega | contradiction | simp_all)
  refine Z.iconst B dX12_trace_27 (v := (-1)) rfl ?_
  refine Z.iret B Rt dX12_trace_28 (ty := .int) rfl rfl (by decide) (by decide) ?_
  exact ⟨rfl, rfl⟩

theorem t_M_trace_f {σ : zSt} (hl : Lay σ) {r : Nat} {i : Int32} (hr : zX σ 45 31 = nI r) (hi0 : ¬ i < 0) (hi : nI r ≤ i) : Dt mX12_trace [.ref 45, .int i] σ (some (.int (-1))) σ := by
  refine Dt.of (by decide) (Nat.le_of_ble_eq_true rfl) fun κ B Rt => ?_
  show Z κ 0 0 σ 0 [(0, .ref 45), (1, .int i)] []
  refine Z.iload_n B dX12_trace_0 (x := i) rfl ?_
  refine Z.if_lt B dX12_trace_1 (tgt := 27) rfl (fun h1 => absurd h1 hi0) (fun h1 => ?_)
  refine Z.iload_n B dX12_trace_4 (x := i) rfl ?_
  refine Z.bipush B dX12_trace_5 (v := nI 20) rfl ?_
  refine Z.icmp_ge B dX12_trace_7 (tgt := 27) rfl (fun h7 => ?_) (fun h7 => ?_)
  · skip
    refine Z.iconst B dX12_trace_27 (v := (-1)) rfl ?_
    refine Z.iret B Rt dX12_trace_28 (ty := .int) rfl rfl (by decide) (by decide) ?_
    exact ⟨rfl, rfl⟩
  · skip
    refine Z.iload_n B dX12_trace_10 (x := i) rfl ?_
    refine Z.aload_n B dX12_trace_11 (v := .ref 45) rfl rfl ?_
    refine Z.getI (σ := σ) B fX12_226_12 dX12_trace_12 (hl.n (k := 45) (by decide)) (hl.k (k := 45) (by decide)) (by decide) (v := nI r) hr ?_
    refine Z.icmp_ge B dX12_trace_15 (tgt := 27) rfl (fun h15 => ?_) (fun h15 => absurd hi h15)
    refine Z.iconst B dX12_trace_27 (v := (-1)) rfl ?_
    refine Z.iret B Rt dX12_trace_28 (ty := .int) rfl rfl (by decide) (by decide) ?_
    exact ⟨rfl, rfl⟩

theorem t_M_trace_f2 {σ : zSt} (hl : Lay σ) {i : Int32} (hi0 : ¬ i < 0) (hi : nI 20 ≤ i) : Dt mX12_trace [.ref 45, .int i] σ (some (.int (-1))) σ := by
  refine Dt.of (by decide) (Nat.le_of_ble_eq_true rfl) fun κ B Rt => ?_
  show Z κ 0 0 σ 0 [(0, .ref 45), (1, .int i)] []
  refine Z.iload_n B dX12_trace_0 (x := i) rfl ?_
  refine Z.if_lt B dX12_trace_1 (tgt := 27) rfl (fun h1 => absurd h1 hi0) (fun h1 => ?_)
  refine Z.iload_n B dX12_trace_4 (x := i) rfl ?_
  refine Z.bipush B dX12_trace_5 (v := nI 20) rfl ?_
  refine Z.icmp_ge B dX12_trace_7 (tgt := 27) rfl (fun h7 => ?_) (fun h7 => absurd hi h7)
  refine Z.iconst B dX12_trace_27 (v := (-1)) rfl ?_
  refine Z.iret B Rt dX12_trace_28 (ty := .int) rfl rfl (by decide) (by decide) ?_
  exact ⟨rfl, rfl⟩

theorem t_M_status_0 {σ : zSt} (hl : Lay σ) {n a y : Nat} (H : zMd σ n a y)  : Dt mX12_status [.ref 45, .int (nI 0)] σ (some (.int (nI n))) σ := by
  obtain ⟨-, hn, hn8, ha, ha4, hy, hy8⟩ := id H
  refine Dt.of (by decide) (Nat.le_of_ble_eq_true rfl) fun κ B Rt => ?_
  show Z κ 0 0 σ 0 [(0, .ref 45), (1, .int (nI 0))] []
  refine Z.iload_n B dX12_status_0 (x := nI 0) rfl ?_
  refine Z.bipush B dX12_status_1 (v := nI 11) rfl ?_
  refine Z.icmp_ltN B dX12_status_3 (tgt := 22) rfl (by omega) (by omega) (fun h3 => ?_) (fun h3 => by exfalso; first | omega | contradiction | simp_all)
  refine Z.iconst B dX12_status_22 (v := nI 0) rfl ?_
  refine Z.istore_n B dX12_status_23 (by decide) (L' := [(0, .ref 45), (1, .int (nI 0)), (2, .int (nI 0))]) rfl ?_
  refine Z.iload_n B dX12_status_24 (x := nI 0) rfl ?_
  refine Z.tabIn B dX12_status_25 (by decide) (by decide) (off := 43) (by decide) (tgt := 68) rfl ?_
  refine Z.aload_n B dX12_status_68 (v := .ref 45) rfl rfl ?_
  refine Z.getI (σ := σ) B fX12_81_12 dX12_status_69 (hl.n (k := 45) (by decide)) (hl.k (k := 45) (by decide)) (by decide) (v := nI n) hn ?_
  refine Z.iret B Rt dX12_status_72 (ty := .int) rfl rfl (by decide) (by decide) ?_
  exact ⟨rfl, rfl⟩

theorem t_M_status_1 {σ : zSt} (hl : Lay σ) {n a y : Nat} (H : zMd σ n a y)  : Dt mX12_status [.ref 45, .int (nI 1)] σ (some (.int (nI a))) σ := by
  obtain ⟨-, hn, hn8, ha, ha4, hy, hy8⟩ := id H
  refine Dt.of (by decide) (Nat.le_of_ble_eq_true rfl) fun κ B Rt => ?_
  show Z κ 0 0 σ 0 [(0, .ref 45), (1, .int (nI 1))] []
  refine Z.iload_n B dX12_status_0 (x := nI 1) rfl ?_
  refine Z.bipush B dX12_status_1 (v := nI 11) rfl ?_
  refine Z.icmp_ltN B dX12_status_3 (tgt := 22) rfl (by omega) (by omega) (fun h3 => ?_) (fun h3 => by exfalso; first | omega | contradiction | simp_all)
  refine Z.iconst B dX12_status_22 (v := nI 0) rfl ?_
  refine Z.istore_n B dX12_status_23 (by decide) (L' := [(0, .ref 45), (1, .int (nI 1)), (2, .int (nI 0))]) rfl ?_
  refine Z.iload_n B dX12_status_24 (x := nI 1) rfl ?_
  refine Z.tabIn B dX12_status_25 (by decide) (by decide) (off := 48) (by decide) (tgt := 73) rfl ?_
  refine Z.aload_n B dX12_status_73 (v := .ref 45) rfl rfl ?_
  refine Z.getI (σ := σ) B fX12_84_12 dX12_status_74 (hl.n (k := 45) (by decide)) (hl.k (k := 45) (by decide)) (by decide) (v := nI a) ha ?_
  refine Z.iret B Rt dX12_status_77 (ty := .int) rfl rfl (by decide) (by decide) ?_
  exact ⟨rfl, rfl⟩

theorem t_M_status_2 {σ : zSt} (hl : Lay σ) {n a y : Nat} (H : zMd σ n a y)  : Dt mX12_status [.ref 45, .int (nI 2)] σ (some (.int (nI y))) σ := by
  obtain ⟨-, hn, hn8, ha, ha4, hy, hy8⟩ := id H
  refine Dt.of (by decide) (Nat.le_of_ble_eq_true rfl) fun κ B Rt => ?_
  show Z κ 0 0 σ 0 [(0, .ref 45), (1, .int (nI 2))] []
  refine Z.iload_n B dX12_status_0 (x := nI 2) rfl ?_
  refine Z.bipush B dX12_status_1 (v := nI 11) rfl ?_
  refine Z.icmp_ltN B dX12_status_3 (tgt := 22) rfl (by omega) (by omega) (fun h3 => ?_) (fun h3 => by exfalso; first | omega | contradiction | simp_all)
  refine Z.iconst B dX12_status_22 (v := nI 0) rfl ?_
  refine Z.istore_n B dX12_status_23 (by decide) (L' := [(0, .ref 45), (1, .int (nI 2)), (2, .int (nI 0))]) rfl ?_
  refine Z.iload_n B dX12_status_24 (x := nI 2) rfl ?_
  refine Z.tabIn B dX12_status_25 (by decide) (by decide) (off := 53) (by decide) (tgt := 78) rfl ?_
  refine Z.aload_n B dX12_status_78 (v := .ref 45) rfl rfl ?_
  refine Z.getI (σ := σ) B fX12_87_12 dX12_status_79 (hl.n (k := 45) (by decide)) (hl.k (k := 45) (by decide)) (by decide) (v := nI y) hy ?_
  refine Z.iret B Rt dX12_status_82 (ty := .int) rfl rfl (by decide) (by decide) ?_
  exact ⟨rfl, rfl⟩

theorem t_M_status_5 {σ : zSt} (hl : Lay σ) {n a y : Nat} (H : zMd σ n a y)  : Dt mX12_status [.ref 45, .int (nI 5)] σ (some (.int (zX σ 45 3))) σ := by
  obtain ⟨-, hn, hn8, ha, ha4, hy, hy8⟩ := id H
  refine Dt.of (by decide) (Nat.le_of_ble_eq_true rfl) fun κ B Rt => ?_
  show Z κ 0 0 σ 0 [(0, .ref 45), (1, .int (nI 5))] []
  refine Z.iload_n B dX12_status_0 (x := nI 5) rfl ?_
  refine Z.bipush B dX12_status_1 (v := nI 11) rfl ?_
  refine Z.icmp_ltN B dX12_status_3 (tgt := 22) rfl (by omega) (by omega) (fun h3 => ?_) (fun h3 => by exfalso; first | omega | contradiction | simp_all)
  refine Z.iconst B dX12_status_22 (v := nI 0) rfl ?_
  refine Z.istore_n B dX12_status_23 (by decide) (L' := [(0, .ref 45), (1, .int (nI 5)), (2, .int (nI 0))]) rfl ?_
  refine Z.iload_n B dX12_status_24 (x := nI 5) rfl ?_
  refine Z.tabIn B dX12_status_25 (by decide) (by decide) (off := 102) (by decide) (tgt := 127) rfl ?_
  refine Z.aload_n B dX12_status_127 (v := .ref 45) rfl rfl ?_
  refine Z.getI (σ := σ) B fX12_7_12 dX12_status_128 (hl.n (k := 45) (by decide)) (hl.k (k := 45) (by decide)) (by decide) (v := (zX σ 45 3)) rfl ?_
  refine Z.iret B Rt dX12_status_131 (ty := .int) rfl rfl (by decide) (by decide) ?_
  exact ⟨rfl, rfl⟩

theorem t_M_status_6 {σ : zSt} (hl : Lay σ) {n a y : Nat} (H : zMd σ n a y)  : Dt mX12_status [.ref 45, .int (nI 6)] σ (some (.int (zX σ 45 31))) σ := by
  obtain ⟨-, hn, hn8, ha, ha4, hy, hy8⟩ := id H
  refine Dt.of (by decide) (Nat.le_of_ble_eq_true rfl) fun κ B Rt => ?_
  show Z κ 0 0 σ 0 [(0, .ref 45), (1, .int (nI 6))] []
  refine Z.iload_n B dX12_status_0 (x := nI 6) rfl ?_
  refine Z.bipush B dX12_status_1 (v := nI 11) rfl ?_
  refine Z.icmp_ltN B dX12_status_3 (tgt := 22) rfl (by omega) (by omega) (fun h3 => ?_) (fun h3 => by exfalso; first | omega | contradiction | simp_all)
  refine Z.iconst B dX12_status_22 (v := nI 0) rfl ?_
  refine Z.istore_n B dX12_status_23 (by decide) (L' := [(0, .ref 45), (1, .int (nI 6)), (2, .int (nI 0))]) rfl ?_
  refine Z.iload_n B dX12_status_24 (x := nI 6) rfl ?_
  refine Z.tabIn B dX12_status_25 (by decide) (by decide) (off := 107) (by decide) (tgt := 132) rfl ?_
  refine Z.aload_n B dX12_status_132 (v := .ref 45) rfl rfl ?_
  refine Z.getI (σ := σ) B fX12_226_12 dX12_status_133 (hl.n (k := 45) (by decide)) (hl.k (k := 45) (by decide)) (by decide) (v := (zX σ 45 31)) rfl ?_
  refine Z.iret B Rt dX12_status_136 (ty := .int) rfl rfl (by decide) (by decide) ?_
  exact ⟨rfl, rfl⟩

theorem t_M_status_3 {σ : zSt} (hl : Lay σ) {n a y : Nat} (H : zMd σ n a y)  : Dt mX12_status [.ref 45, .int (nI 3)] σ (some (.int (sm (fun c => cn (zX σ 47) c 6) n))) σ := by
  obtain ⟨-, hn, hn8, ha, ha4, hy, hy8⟩ := id H
  refine Dt.of (by decide) (Nat.le_of_ble_eq_true rfl) fun κ B Rt => ?_
  show Z κ 0 0 σ 0 [(0, .ref 45), (1, .int (nI 3))] []
  refine Z.iload_n B dX12_status_0 (x := nI 3) rfl ?_
  refine Z.bipush B dX12_status_1 (v := nI 11) rfl ?_
  refine Z.icmp_ltN B dX12_status_3 (tgt := 22) rfl (by omega) (by omega) (fun h3 => ?_) (fun h3 => by exfalso; first | omega | contradiction | simp_all)
  refine Z.iconst B dX12_status_22 (v := nI 0) rfl ?_
  refine Z.istore_n B dX12_status_23 (by decide) (L' := [(0, .ref 45), (1, .int (nI 3)), (2, .int (nI 0))]) rfl ?_
  refine Z.iload_n B dX12_status_24 (x := nI 3) rfl ?_
  refine Z.tabIn B dX12_status_25 (by decide) (by decide) (off := 58) (by decide) (tgt := 83) rfl ?_
  refine Z.iconst B dX12_status_83 (v := nI 0) rfl ?_
  refine Z.istore_n B dX12_status_84 (by decide) (L' := [(0, .ref 45), (1, .int (nI 3)), (2, .int (nI 0)), (3, .int (nI 0))]) rfl ?_
  have hloop85 : ∀ i : Nat, i ≤ n → Z κ 0 0 σ 85 [(0, .ref 45), (1, .int (nI 3)), (2, .int (sm (fun c => cn (zX σ 47) c 6) i)), (3, .int (nI i))] [] := by
    refine z_loop (fun i => n - i) (fun i ih hi => ?_)
    refine Z.iload_n B dX12_status_85 (x := nI i) rfl ?_
    refine Z.aload_n B dX12_status_86 (v := .ref 45) rfl rfl ?_
    refine Z.getI (σ := σ) B fX12_81_12 dX12_status_87 (hl.n (k := 45) (by decide)) (hl.k (k := 45) (by decide)) (by decide) (v := nI n) hn ?_
    refine Z.icmp_geN B dX12_status_90 (tgt := 107) rfl (by omega) (by omega) (fun h90 => ?_) (fun h90 => ?_)
    · skip
      obtain rfl : n = i := by omega
      refine Z.iload_n B dX12_status_107 (x := sm (fun c => cn (zX σ 47) c 6) n) rfl ?_
      refine Z.iret B Rt dX12_status_108 (ty := .int) rfl rfl (by decide) (by decide) ?_
      exact ⟨rfl, rfl⟩
    · skip
      refine Z.iload_n B dX12_status_93 (x := sm (fun c => cn (zX σ 47) c 6) i) rfl ?_
      refine Z.aload_n B dX12_status_94 (v := .ref 45) rfl rfl ?_
      refine Z.iload_n B dX12_status_95 (x := nI i) rfl ?_
      refine Z.callVI (σ := σ) B (M' := mX12_sumOf) (as := [.int (nI i)]) (st := [.int (sm (fun c => cn (zX σ 47) c 6) i)]) (v := .int (cn (zX σ 47) i 6)) dX12_status_96 wX12_sumOf iX12_sumOf sX12_sumOf kX12_101 (hl.n (k := 45) (by decide)) (hl.k (k := 45) (by decide)) (by decide) rfl rfl (t_X12_sumOf (σ := σ) H (c := i) (by omega)) rfl rfl (by decide) (by decide) (Nat.le_of_ble_eq_true rfl) (by decide) (by decide) ?_
      refine Z.iadd B dX12_status_99 ?_
      refine Z.istore_n B dX12_status_100 (by decide) (L' := [(0, .ref 45), (1, .int (nI 3)), (2, .int ((sm (fun c => cn (zX σ 47) c 6) i) + (cn (zX σ 47) i 6))), (3, .int (nI i))]) rfl ?_
      refine Z.iincN B dX12_status_101 (by decide) (a := i) rfl (L' := [(0, .ref 45), (1, .int (nI 3)), (2, .int ((sm (fun c => cn (zX σ 47) c 6) i) + (cn (zX σ 47) i 6))), (3, .int (nI (i + 1)))]) rfl ?_
      refine Z.goto B dX12_status_104 (tgt := 85) rfl ?_
      exact ih (i + 1) (by omega) (by omega)
  exact hloop85 0 (Nat.zero_le _)

theorem t_M_status_4n {σ : zSt} (hl : Lay σ) {n a y : Nat} (H : zMd σ n a y) (h0 : a = 0) : Dt mX12_status [.ref 45, .int (nI 4)] σ (some (.int (-1))) σ := by
  obtain ⟨-, hn, hn8, ha, ha4, hy, hy8⟩ := id H
  refine Dt.of (by decide) (Nat.le_of_ble_eq_true rfl) fun κ B Rt => ?_
  show Z κ 0 0 σ 0 [(0, .ref 45), (1, .int (nI 4))] []
  refine Z.iload_n B dX12_status_0 (x := nI 4) rfl ?_
  refine Z.bipush B dX12_status_1 (v := nI 11) rfl ?_
  refine Z.icmp_ltN B dX12_status_3 (tgt := 22) rfl (by omega) (by omega) (fun h3 => ?_) (fun h3 => by exfalso; first | omega | contradiction | simp_all)
  refine Z.iconst B dX12_status_22 (v := nI 0) rfl ?_
  refine Z.istore_n B dX12_status_23 (by decide) (L' := [(0, .ref 45), (1, .int (nI 4)), (2, .int (nI 0))]) rfl ?_
  refine Z.iload_n B dX12_status_24 (x := nI 4) rfl ?_
  refine Z.tabIn B dX12_status_25 (by decide) (by decide) (off := 84) (by decide) (tgt := 109) rfl ?_
  refine Z.aload_n B dX12_status_109 (v := .ref 45) rfl rfl ?_
  refine Z.getI (σ := σ) B fX12_84_12 dX12_status_110 (hl.n (k := 45) (by decide)) (hl.k (k := 45) (by decide)) (by decide) (v := nI a) ha ?_
  refine Z.if_neN B dX12_status_113 (tgt := 120) rfl (by omega) (fun h113 => by exfalso; first | omega | contradiction | simp_all) (fun h113 => ?_)
  refine Z.iconst B dX12_status_116 (v := (-1)) rfl ?_
  refine Z.goto B dX12_status_117 (tgt := 126) rfl ?_
  refine Z.iret B Rt dX12_status_126 (ty := .int) rfl rfl (by decide) (by decide) ?_
  exact ⟨rfl, rfl⟩

theorem t_M_status_4 {σ : zSt} (hl : Lay σ) {n a y : Nat} (H : zMd σ n a y) (h0 : 0 < a) : Dt mX12_status [.ref 45, .int (nI 4)] σ (some (.int (zX σ 51 0))) σ := by
  obtain ⟨-, hn, hn8, ha, ha4, hy, hy8⟩ := id H
  refine Dt.of (by decide) (Nat.le_of_ble_eq_true rfl) fun κ B Rt => ?_
  show Z κ 0 0 σ 0 [(0, .ref 45), (1, .int (nI 4))] []
  refine Z.iload_n B dX12_status_0 (x := nI 4) rfl ?_
  refine Z.bipush B dX12_status_1 (v := nI 11) rfl ?_
  refine Z.icmp_ltN B dX12_status_3 (tgt := 22) rfl (by omega) (by omega) (fun h3 => ?_) (fun h3 => by exfalso; first | omega | contradiction | simp_all)
  refine Z.iconst B dX12_status_22 (v := nI 0) rfl ?_
  refine Z.istore_n B dX12_status_23 (by decide) (L' := [(0, .ref 45), (1, .int (nI 4)), (2, .int (nI 0))]) rfl ?_
  refine Z.iload_n B dX12_status_24 (x := nI 4) rfl ?_
  refine Z.tabIn B dX12_status_25 (by decide) (by decide) (off := 84) (by decide) (tgt := 109) rfl ?_
  refine Z.aload_n B dX12_status_109 (v := .ref 45) rfl rfl ?_
  refine Z.getI (σ := σ) B fX12_84_12 dX12_status_110 (hl.n (k := 45) (by decide)) (hl.k (k := 45) (by decide)) (by decide) (v := nI a) ha ?_
  refine Z.if_neN B dX12_status_113 (tgt := 120) rfl (by omega) (fun h113 => ?_) (fun h113 => by exfalso; first | omega | contradiction | simp_all)
  refine Z.aload_n B dX12_status_120 (v := .ref 45) rfl rfl ?_
  refine Z.getR (σ := σ) B fX12_32_12 dX12_status_121 (hl.n (k := 45) (by decide)) (hl.k (k := 45) (by decide)) (by decide) (j := 51) (hl.r (k := 45) (f := 10) (by decide) (by decide)) ?_
  refine Z.iconst B dX12_status_124 (v := nI 0) rfl ?_
  refine Z.iald (σ := σ) B dX12_status_125 (n := 4) (hl.n (k := 51) (by decide)) (hl.k (k := 51) (by decide)) (hl.l (k := 51) (by decide)) (by decide) (j := 0) rfl (by omega) (v := (zX σ 51 0)) rfl ?_
  refine Z.iret B Rt dX12_status_126 (ty := .int) rfl rfl (by decide) (by decide) ?_
  exact ⟨rfl, rfl⟩

theorem t_M_status_r {σ : zSt} (hl : Lay σ) {k : Nat} (hk : 11 ≤ k) (hk2 : k ≤ 17) : Dt mX12_status [.ref 45, .int (nI k)] σ (some (.int (zX σ 46 (k - 10)))) σ := by
  refine Dt.of (by decide) (Nat.le_of_ble_eq_true rfl) fun κ B Rt => ?_
  show Z κ 0 0 σ 0 [(0, .ref 45), (1, .int (nI k))] []
  refine Z.iload_n B dX12_status_0 (x := nI k) rfl ?_
  refine Z.bipush B dX12_status_1 (v := nI 11) rfl ?_
  refine Z.icmp_ltN B dX12_status_3 (tgt := 22) rfl (by omega) (by omega) (fun h3 => by exfalso; first | omega | contradiction | simp_all) (fun h3 => ?_)
  refine Z.iload_n B dX12_status_6 (x := nI k) rfl ?_
  refine Z.bipush B dX12_status_7 (v := nI 17) rfl ?_
  refine Z.icmp_gtN B dX12_status_9 (tgt := 22) rfl (by omega) (by omega) (fun h9 => by exfalso; first | omega | contradiction | simp_all) (fun h9 => ?_)
  refine Z.aload_n B dX12_status_12 (v := .ref 45) rfl rfl ?_
  refine Z.getR (σ := σ) B fX12_16_12 dX12_status_13 (hl.n (k := 45) (by decide)) (hl.k (k := 45) (by decide)) (by decide) (j := 46) (hl.r (k := 45) (f := 5) (by decide) (by decide)) ?_
  refine Z.iload_n B dX12_status_16 (x := nI k) rfl ?_
  refine Z.bipush B dX12_status_17 (v := nI 10) rfl ?_
  refine Z.isubN B dX12_status_19 (a := k) (b := 10) (by omega) ?_
  refine Z.iald (σ := σ) B dX12_status_20 (n := 8) (hl.n (k := 46) (by decide)) (hl.k (k := 46) (by decide)) (hl.l (k := 46) (by decide)) (by decide) (j := k - 10) rfl (by omega) (v := (zX σ 46 (k - 10))) rfl ?_
  refine Z.iret B Rt dX12_status_21 (ty := .int) rfl rfl (by decide) (by decide) ?_
  exact ⟨rfl, rfl⟩

theorem t_M_status_x {σ : zSt} (hl : Lay σ) {v : Int32} (hv : v.toInt < 0 ∨ 6 < v.toInt) (hv2 : v < nI 11 ∨ nI 17 < v) : Dt mX12_status [.ref 45, .int v] σ (some (.int (-1))) σ := by
  refine Dt.of (by decide) (Nat.le_of_ble_eq_true rfl) fun κ B Rt => ?_
  show Z κ 0 0 σ 0 [(0, .ref 45), (1, .int v)] []
  refine Z.iload_n B dX12_status_0 (x := v) rfl ?_
  refine Z.bipush B dX12_status_1 (v := nI 11) rfl ?_
  refine Z.icmp_lt B dX12_status_3 (tgt := 22) rfl (fun h3 => ?_) (fun h3 => ?_)
  · skip
    refine Z.iconst B dX12_status_22 (v := nI 0) rfl ?_
    refine Z.istore_n B dX12_status_23 (by decide) (L' := [(0, .ref 45), (1, .int v), (2, .int (nI 0))]) rfl ?_
    refine Z.iload_n B dX12_status_24 (x := v) rfl ?_
    refine Z.tabOut B dX12_status_25 hv (tgt := 137) rfl ?_
    refine Z.iconst B dX12_status_137 (v := (-1)) rfl ?_
    refine Z.iret B Rt dX12_status_138 (ty := .int) rfl rfl (by decide) (by decide) ?_
    exact ⟨rfl, rfl⟩
  · skip
    refine Z.iload_n B dX12_status_6 (x := v) rfl ?_
    refine Z.bipush B dX12_status_7 (v := nI 17) rfl ?_
    refine Z.icmp_gt B dX12_status_9 (tgt := 22) rfl (fun h9 => ?_) (fun h9 => (by exfalso; rcases hv2 with h | h; exact h3 h; exact h9 h))
    refine Z.iconst B dX12_status_22 (v := nI 0) rfl ?_
    refine Z.istore_n B dX12_status_23 (by decide) (L' := [(0, .ref 45), (1, .int v), (2, .int (nI 0))]) rfl ?_
    refine Z.iload_n B dX12_status_24 (x := v) rfl ?_
    refine Z.tabOut B dX12_status_25 hv (tgt := 137) rfl ?_
    refine Z.iconst B dX12_status_137 (v := (-1)) rfl ?_
    refine Z.iret B Rt dX12_status_138 (ty := .int) rfl rfl (by decide) (by decide) ?_
    exact ⟨rfl, rfl⟩
