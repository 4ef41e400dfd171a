/-! the class's calls, one row for each way that a call can end -/
theorem zo_le {x : Int32} {k : Nat} (h : zOut x (k + 1)) (h0 : ¬ x < 0) (h1 : x ≤ nI k) (hk : k + 1 < 2 ^ 31) : False := by
  rcases h with h | h
  · exact h0 h
  · rw [zle_iff, nI_toInt hk] at h
    rw [zle_iff, nI_toInt (by omega)] at h1
    omega
theorem zo_lt {x : Int32} {k : Nat} (h : zOut x k) (h0 : ¬ x < 0) (h1 : x < nI k) : False := by
  rcases h with h | h
  · exact h0 h
  · rw [zle_iff] at h
    rw [zlt_iff] at h1
    omega
theorem zo_ngt {x : Int32} {k : Nat} (h : zOut x (k + 1)) (h0 : ¬ x < 0) (h1 : ¬ nI k < x) (hk : k + 1 < 2 ^ 31) : False := by
  refine zo_le h h0 ?_ hk
  rw [zle_iff]
  rw [zlt_iff] at h1
  omega
theorem zo_far {x : Int32} {k : Nat} (h : zOut x (k + 1)) (h0 : ¬ x < 0) (hk : k + 1 < 2 ^ 31) : nI k < x := by
  rcases h with h | h
  · exact absurd h h0
  · rw [zle_iff, nI_toInt hk] at h
    rw [zlt_iff, nI_toInt (by omega)]
    omega
/-- a shelf's three states, in the class -/
def zRw (σ : zSt) (q o m : Nat) : Prop := zX σ q 1 = nI o ∧ o ≤ 3 ∧ zX σ q 2 = nI m ∧ m ≤ 160 ∧ zX σ q 3 = (-1)
def zWa (σ : zSt) (q i : Nat) : Prop := zX σ q 1 = (-1) ∧ zX σ q 2 = nI 0 ∧ zX σ q 3 = nI i ∧ i < 8
def zNo (σ : zSt) (q : Nat) : Prop := zX σ q 1 = (-1) ∧ zX σ q 2 = nI 0 ∧ zX σ q 3 = (-1)
theorem t_X6_hasRun_out {σ : zSt} {q : Nat} (hq : zSh σ q) {m n : Nat} (hm : zX σ q 2 = nI m) (hm160 : m ≤ 160) {i : Int32} (hi : i < 0 ∨ ∃ j : Nat, i = nI j ∧ j < 2 ^ 31 ∧ m < j + n) (hn3 : n < 2 ^ 31) : Dt mX6_hasRun [.ref q, .int i, .int (nI n)] σ (some (.int (nI 0))) σ := by
  rcases hi with hi | ⟨j, rfl, hj3, hj⟩
  · exact t_X6_hasRun_neg hq hi
  · exact t_X6_hasRun_far hq hm hm160 hj hj3 hn3
theorem zOut_run {i : Int32} {m : Nat} (h : zOut i m) (hm : m < 2 ^ 31) : i < 0 ∨ ∃ j : Nat, i = nI j ∧ j < 2 ^ 31 ∧ m < j + 1 := by
  by_cases h0 : i < 0
  · exact Or.inl h0
  · obtain ⟨j, hj, rfl⟩ := nI_of h0
    refine Or.inr ⟨j, rfl, hj, ?_⟩
    rcases h with h | h
    · exact absurd h h0
    · have := (nI_leI hm hj).mp h
      omega
theorem t_X11_isUpTo_out {σ : zSt} {x : Int32} {n : Nat} (h : zOut x (n + 1)) (hn : n + 1 < 2 ^ 31) : Dt mX11_isUpTo [.int x, .int (nI n)] σ (some (.int (nI 0))) σ := by
  by_cases h0 : x < 0
  · exact t_X11_isUpTo_neg h0
  · exact t_X11_isUpTo_far h0 (zo_far h h0 hn)

theorem t_K_row_1 {σ : zSt} (hl : Lay σ) {s : Int32} (hs : zOut s 8) {o n : Int32} : Dt mX11_row [.ref 0, .int s, .int o, .int n] σ (some (.int (-nI 1))) (zuX σ 43 (upd (zX σ 43) 1 (zX σ 43 1 + nI 1))) := by
  refine Dt.of (by decide) (Nat.le_of_ble_eq_true rfl) fun κ B Rt => ?_
  show Z κ 0 0 σ 0 [(0, .ref 0), (1, .int s), (2, .int o), (3, .int n)] []
  refine Z.aload_n B dX11_row_0 (v := .ref 0) rfl rfl ?_
  refine Z.iload_n B dX11_row_1 (x := s) rfl ?_
  refine Z.callVI (σ := σ) B (M' := mX11_shelfAt) (as := [.int s]) (st := []) (v := .null) dX11_row_2 wX11_shelfAt iX11_shelfAt sX11_shelfAt kX11_59 (hl.n (k := 0) (by decide)) (hl.k (k := 0) (by decide)) (by decide) rfl rfl (t_X11_shelfAt_out (σ := σ) hl hs) rfl rfl (by decide) (by decide) (Nat.le_of_ble_eq_true rfl) (by decide) (by decide) ?_
  refine Z.astore B dX11_row_5 (by decide) rfl (L' := [(0, .ref 0), (1, .int s), (2, .int o), (3, .int n), (4, .null)]) rfl ?_
  refine Z.aload B dX11_row_7 (v := .null) rfl rfl ?_
  refine Z.ifnonnull_n B dX11_row_9 ?_
  refine Z.aload_n B dX11_row_12 (v := .ref 0) rfl rfl ?_
  refine Z.iconst B dX11_row_13 (v := nI 1) rfl ?_
  refine Z.callVI (σ := σ) B (M' := mX11_refuse) (as := [.int (nI 1)]) (st := []) (v := .int (-nI 1)) dX11_row_14 wX11_refuse iX11_refuse sX11_refuse kX11_63 (hl.n (k := 0) (by decide)) (hl.k (k := 0) (by decide)) (by decide) rfl rfl (t_X11_refuse (σ := σ) hl (b := 1) (by decide)) rfl rfl (by decide) (by decide) (Nat.le_of_ble_eq_true rfl) (by decide) (by decide) ?_
  refine Z.eqσ (τ := (zuX σ 43 (upd (zX σ 43) 1 (zX σ 43 1 + nI 1)))) rfl ?_
  refine Z.iret B Rt dX11_row_17 (ty := .int) rfl rfl (by decide) (by decide) ?_
  exact ⟨rfl, rfl⟩

theorem t_K_row_4 {σ : zSt} (hl : Lay σ) {s : Nat} (hs : s < 8) {o n : Int32} (hn : n < 0) : Dt mX11_row [.ref 0, .int (nI s), .int o, .int n] σ (some (.int (-nI 4))) (zuX σ 43 (upd (zX σ 43) 4 (zX σ 43 4 + nI 1))) := by
  have hqs := (hl.shelf hs).2
  refine Dt.of (by decide) (Nat.le_of_ble_eq_true rfl) fun κ B Rt => ?_
  show Z κ 0 0 σ 0 [(0, .ref 0), (1, .int (nI s)), (2, .int o), (3, .int n)] []
  refine Z.aload_n B dX11_row_0 (v := .ref 0) rfl rfl ?_
  refine Z.iload_n B dX11_row_1 (x := nI s) rfl ?_
  refine Z.callVI (σ := σ) B (M' := mX11_shelfAt) (as := [.int (nI s)]) (st := []) (v := .ref (2 + 2 * s)) dX11_row_2 wX11_shelfAt iX11_shelfAt sX11_shelfAt kX11_59 (hl.n (k := 0) (by decide)) (hl.k (k := 0) (by decide)) (by decide) rfl rfl (t_X11_shelfAt_in (σ := σ) hl hs) rfl rfl (by decide) (by decide) (Nat.le_of_ble_eq_true rfl) (by decide) (by decide) ?_
  refine Z.astore B dX11_row_5 (by decide) rfl (L' := [(0, .ref 0), (1, .int (nI s)), (2, .int o), (3, .int n), (4, .ref (2 + 2 * s))]) rfl ?_
  refine Z.aload B dX11_row_7 (v := .ref (2 + 2 * s)) rfl rfl ?_
  refine Z.ifnonnull_r B dX11_row_9 (tgt := 18) rfl ?_
  refine Z.iload_n B dX11_row_18 (x := n) rfl ?_
  refine Z.if_ge B dX11_row_19 (tgt := 28) rfl (fun h19 => (by exfalso; rw [zle_iff] at h19; rw [zlt_iff] at hn; omega)) (fun h19 => ?_)
  refine Z.aload_n B dX11_row_22 (v := .ref 0) rfl rfl ?_
  refine Z.iconst B dX11_row_23 (v := nI 4) rfl ?_
  refine Z.callVI (σ := σ) B (M' := mX11_refuse) (as := [.int (nI 4)]) (st := []) (v := .int (-nI 4)) dX11_row_24 wX11_refuse iX11_refuse sX11_refuse kX11_63 (hl.n (k := 0) (by decide)) (hl.k (k := 0) (by decide)) (by decide) rfl rfl (t_X11_refuse (σ := σ) hl (b := 4) (by decide)) rfl rfl (by decide) (by decide) (Nat.le_of_ble_eq_true rfl) (by decide) (by decide) ?_
  refine Z.eqσ (τ := (zuX σ 43 (upd (zX σ 43) 4 (zX σ 43 4 + nI 1)))) rfl ?_
  refine Z.iret B Rt dX11_row_27 (ty := .int) rfl rfl (by decide) (by decide) ?_
  exact ⟨rfl, rfl⟩

theorem t_K_row_6 {σ : zSt} (hl : Lay σ) {s : Nat} (hs : s < 8) {o n : Int32} (hn : ¬ n < 0) (ho : zOut o 4) : Dt mX11_row [.ref 0, .int (nI s), .int o, .int n] σ (some (.int (-nI 6))) (zuX σ 43 (upd (zX σ 43) 6 (zX σ 43 6 + nI 1))) := by
  have hqs := (hl.shelf hs).2
  refine Dt.of (by decide) (Nat.le_of_ble_eq_true rfl) fun κ B Rt => ?_
  show Z κ 0 0 σ 0 [(0, .ref 0), (1, .int (nI s)), (2, .int o), (3, .int n)] []
  refine Z.aload_n B dX11_row_0 (v := .ref 0) rfl rfl ?_
  refine Z.iload_n B dX11_row_1 (x := nI s) rfl ?_
  refine Z.callVI (σ := σ) B (M' := mX11_shelfAt) (as := [.int (nI s)]) (st := []) (v := .ref (2 + 2 * s)) dX11_row_2 wX11_shelfAt iX11_shelfAt sX11_shelfAt kX11_59 (hl.n (k := 0) (by decide)) (hl.k (k := 0) (by decide)) (by decide) rfl rfl (t_X11_shelfAt_in (σ := σ) hl hs) rfl rfl (by decide) (by decide) (Nat.le_of_ble_eq_true rfl) (by decide) (by decide) ?_
  refine Z.astore B dX11_row_5 (by decide) rfl (L' := [(0, .ref 0), (1, .int (nI s)), (2, .int o), (3, .int n), (4, .ref (2 + 2 * s))]) rfl ?_
  refine Z.aload B dX11_row_7 (v := .ref (2 + 2 * s)) rfl rfl ?_
  refine Z.ifnonnull_r B dX11_row_9 (tgt := 18) rfl ?_
  refine Z.iload_n B dX11_row_18 (x := n) rfl ?_
  refine Z.if_ge B dX11_row_19 (tgt := 28) rfl (fun h19 => ?_) (fun h19 => by exfalso; first | omega | contradiction | simp_all)
  refine Z.iload_n B dX11_row_28 (x := o) rfl ?_
  refine Z.if_lt B dX11_row_29 (tgt := 37) rfl (fun h29 => ?_) (fun h29 => ?_)
  · skip
    refine Z.aload_n B dX11_row_37 (v := .ref 0) rfl rfl ?_
    refine Z.bipush B dX11_row_38 (v := nI 6) rfl ?_
    refine Z.callVI (σ := σ) B (M' := mX11_refuse) (as := [.int (nI 6)]) (st := []) (v := .int (-nI 6)) dX11_row_40 wX11_refuse iX11_refuse sX11_refuse kX11_63 (hl.n (k := 0) (by decide)) (hl.k (k := 0) (by decide)) (by decide) rfl rfl (t_X11_refuse (σ := σ) hl (b := 6) (by decide)) rfl rfl (by decide) (by decide) (Nat.le_of_ble_eq_true rfl) (by decide) (by decide) ?_
    refine Z.eqσ (τ := (zuX σ 43 (upd (zX σ 43) 6 (zX σ 43 6 + nI 1)))) rfl ?_
    refine Z.iret B Rt dX11_row_43 (ty := .int) rfl rfl (by decide) (by decide) ?_
    exact ⟨rfl, rfl⟩
  · skip
    refine Z.iload_n B dX11_row_32 (x := o) rfl ?_
    refine Z.iconst B dX11_row_33 (v := nI 3) rfl ?_
    refine Z.icmp_le B dX11_row_34 (tgt := 44) rfl (fun h34 => (zo_le ho h29 h34 (by decide)).elim) (fun h34 => ?_)
    refine Z.aload_n B dX11_row_37 (v := .ref 0) rfl rfl ?_
    refine Z.bipush B dX11_row_38 (v := nI 6) rfl ?_
    refine Z.callVI (σ := σ) B (M' := mX11_refuse) (as := [.int (nI 6)]) (st := []) (v := .int (-nI 6)) dX11_row_40 wX11_refuse iX11_refuse sX11_refuse kX11_63 (hl.n (k := 0) (by decide)) (hl.k (k := 0) (by decide)) (by decide) rfl rfl (t_X11_refuse (σ := σ) hl (b := 6) (by decide)) rfl rfl (by decide) (by decide) (Nat.le_of_ble_eq_true rfl) (by decide) (by decide) ?_
    refine Z.eqσ (τ := (zuX σ 43 (upd (zX σ 43) 6 (zX σ 43 6 + nI 1)))) rfl ?_
    refine Z.iret B Rt dX11_row_43 (ty := .int) rfl rfl (by decide) (by decide) ?_
    exact ⟨rfl, rfl⟩

theorem t_K_row_7 {σ : zSt} (hl : Lay σ) {s : Nat} (hs : s < 8) {o : Nat} {n : Int32} (ho : o < 4) (hn : ¬ n < 0) (hn2 : nI 160 < n) : Dt mX11_row [.ref 0, .int (nI s), .int (nI o), .int n] σ (some (.int (-nI 7))) (zuX σ 43 (upd (zX σ 43) 7 (zX σ 43 7 + nI 1))) := by
  have hqs := (hl.shelf hs).2
  refine Dt.of (by decide) (Nat.le_of_ble_eq_true rfl) fun κ B Rt => ?_
  show Z κ 0 0 σ 0 [(0, .ref 0), (1, .int (nI s)), (2, .int (nI o)), (3, .int n)] []
  refine Z.aload_n B dX11_row_0 (v := .ref 0) rfl rfl ?_
  refine Z.iload_n B dX11_row_1 (x := nI s) rfl ?_
  refine Z.callVI (σ := σ) B (M' := mX11_shelfAt) (as := [.int (nI s)]) (st := []) (v := .ref (2 + 2 * s)) dX11_row_2 wX11_shelfAt iX11_shelfAt sX11_shelfAt kX11_59 (hl.n (k := 0) (by decide)) (hl.k (k := 0) (by decide)) (by decide) rfl rfl (t_X11_shelfAt_in (σ := σ) hl hs) rfl rfl (by decide) (by decide) (Nat.le_of_ble_eq_true rfl) (by decide) (by decide) ?_
  refine Z.astore B dX11_row_5 (by decide) rfl (L' := [(0, .ref 0), (1, .int (nI s)), (2, .int (nI o)), (3, .int n), (4, .ref (2 + 2 * s))]) rfl ?_
  refine Z.aload B dX11_row_7 (v := .ref (2 + 2 * s)) rfl rfl ?_
  refine Z.ifnonnull_r B dX11_row_9 (tgt := 18) rfl ?_
  refine Z.iload_n B dX11_row_18 (x := n) rfl ?_
  refine Z.if_ge B dX11_row_19 (tgt := 28) rfl (fun h19 => ?_) (fun h19 => by exfalso; first | omega | contradiction | simp_all)
  refine Z.iload_n B dX11_row_28 (x := nI o) rfl ?_
  refine Z.if_ltN B dX11_row_29 (tgt := 37) rfl (by omega) ?_
  refine Z.iload_n B dX11_row_32 (x := nI o) rfl ?_
  refine Z.iconst B dX11_row_33 (v := nI 3) rfl ?_
  refine Z.icmp_leN B dX11_row_34 (tgt := 44) rfl (by omega) (by omega) (fun h34 => ?_) (fun h34 => by exfalso; first | omega | contradiction | simp_all)
  refine Z.iload_n B dX11_row_44 (x := n) rfl ?_
  refine Z.sipush B dX11_row_45 (v := nI 160) rfl ?_
  refine Z.icmp_le B dX11_row_48 (tgt := 58) rfl (fun h48 => (by exfalso; rw [zle_iff] at h48; rw [zlt_iff] at hn2; omega)) (fun h48 => ?_)
  refine Z.aload_n B dX11_row_51 (v := .ref 0) rfl rfl ?_
  refine Z.bipush B dX11_row_52 (v := nI 7) rfl ?_
  refine Z.callVI (σ := σ) B (M' := mX11_refuse) (as := [.int (nI 7)]) (st := []) (v := .int (-nI 7)) dX11_row_54 wX11_refuse iX11_refuse sX11_refuse kX11_63 (hl.n (k := 0) (by decide)) (hl.k (k := 0) (by decide)) (by decide) rfl rfl (t_X11_refuse (σ := σ) hl (b := 7) (by decide)) rfl rfl (by decide) (by decide) (Nat.le_of_ble_eq_true rfl) (by decide) (by decide) ?_
  refine Z.eqσ (τ := (zuX σ 43 (upd (zX σ 43) 7 (zX σ 43 7 + nI 1)))) rfl ?_
  refine Z.iret B Rt dX11_row_57 (ty := .int) rfl rfl (by decide) (by decide) ?_
  exact ⟨rfl, rfl⟩

theorem t_K_row_0 {σ : zSt} (hl : Lay σ) {s : Nat} (hs : s < 8) {o m : Nat} (ho : o < 4) (hm : m ≤ 160) : Dt mX11_row [.ref 0, .int (nI s), .int (nI o), .int (nI m)] σ (some (.int (nI 1))) (zuY (zuX σ (2 + 2 * s) (upd (upd (upd (zX σ (2 + 2 * s)) 3 (-1)) 1 (nI o)) 2 (nI m))) (2 + 2 * s + 1) (zfl 160 0 (zY σ (2 + 2 * s + 1)))) := by
  have hqs := (hl.shelf hs).2
  refine Dt.of (by decide) (Nat.le_of_ble_eq_true rfl) fun κ B Rt => ?_
  show Z κ 0 0 σ 0 [(0, .ref 0), (1, .int (nI s)), (2, .int (nI o)), (3, .int (nI m))] []
  refine Z.aload_n B dX11_row_0 (v := .ref 0) rfl rfl ?_
  refine Z.iload_n B dX11_row_1 (x := nI s) rfl ?_
  refine Z.callVI (σ := σ) B (M' := mX11_shelfAt) (as := [.int (nI s)]) (st := []) (v := .ref (2 + 2 * s)) dX11_row_2 wX11_shelfAt iX11_shelfAt sX11_shelfAt kX11_59 (hl.n (k := 0) (by decide)) (hl.k (k := 0) (by decide)) (by decide) rfl rfl (t_X11_shelfAt_in (σ := σ) hl hs) rfl rfl (by decide) (by decide) (Nat.le_of_ble_eq_true rfl) (by decide) (by decide) ?_
  refine Z.astore B dX11_row_5 (by decide) rfl (L' := [(0, .ref 0), (1, .int (nI s)), (2, .int (nI o)), (3, .int (nI m)), (4, .ref (2 + 2 * s))]) rfl ?_
  refine Z.aload B dX11_row_7 (v := .ref (2 + 2 * s)) rfl rfl ?_
  refine Z.ifnonnull_r B dX11_row_9 (tgt := 18) rfl ?_
  refine Z.iload_n B dX11_row_18 (x := nI m) rfl ?_
  refine Z.if_geN B dX11_row_19 (tgt := 28) rfl (by omega) ?_
  refine Z.iload_n B dX11_row_28 (x := nI o) rfl ?_
  refine Z.if_ltN B dX11_row_29 (tgt := 37) rfl (by omega) ?_
  refine Z.iload_n B dX11_row_32 (x := nI o) rfl ?_
  refine Z.iconst B dX11_row_33 (v := nI 3) rfl ?_
  refine Z.icmp_leN B dX11_row_34 (tgt := 44) rfl (by omega) (by omega) (fun h34 => ?_) (fun h34 => by exfalso; first | omega | contradiction | simp_all)
  refine Z.iload_n B dX11_row_44 (x := nI m) rfl ?_
  refine Z.sipush B dX11_row_45 (v := nI 160) rfl ?_
  refine Z.icmp_leN B dX11_row_48 (tgt := 58) rfl (by omega) (by omega) (fun h48 => ?_) (fun h48 => by exfalso; first | omega | contradiction | simp_all)
  refine Z.aload B dX11_row_58 (v := .ref (2 + 2 * s)) rfl rfl ?_
  refine Z.iload_n B dX11_row_60 (x := nI o) rfl ?_
  refine Z.iload_n B dX11_row_61 (x := nI m) rfl ?_
  refine Z.callVN (σ := σ) B (M' := mX6_holdRow) (as := [.int (nI o), .int (nI m)]) (st := []) dX11_row_62 wX6_holdRow iX6_holdRow sX6_holdRow kX11_67 (Nat.lt_of_succ_lt hqs.1) hqs.2.1 (by decide) rfl rfl (t_X6_holdRow (σ := σ) hqs (o := o) (m := m) (by omega) hm) rfl rfl (by decide) (by decide) (Nat.le_of_ble_eq_true rfl) (by decide) (by decide) ?_
  refine Z.eqσ (τ := (zuY (zuX σ (2 + 2 * s) (upd (upd (upd (zX σ (2 + 2 * s)) 3 (-1)) 1 (nI o)) 2 (nI m))) (2 + 2 * s + 1) (zfl 160 0 (zY σ (2 + 2 * s + 1))))) rfl ?_
  refine Z.iconst B dX11_row_65 (v := nI 1) rfl ?_
  refine Z.iret B Rt dX11_row_66 (ty := .int) rfl rfl (by decide) (by decide) ?_
  exact ⟨rfl, rfl⟩

theorem t_K_set_1 {σ : zSt} (hl : Lay σ) {s : Int32} (hs : zOut s 8)  {i : Int32} {v : Int64} : Dt mX11_set [.ref 0, .int s, .int i, .long v] σ (some (.int (-nI 1))) (zuX σ 43 (upd (zX σ 43) 1 (zX σ 43 1 + nI 1))) := by
  refine Dt.of (by decide) (Nat.le_of_ble_eq_true rfl) fun κ B Rt => ?_
  show Z κ 0 0 σ 0 [(0, .ref 0), (1, .int s), (2, .int i), (3, .long v)] []
  refine Z.aload_n B dX11_set_0 (v := .ref 0) rfl rfl ?_
  refine Z.iload_n B dX11_set_1 (x := s) rfl ?_
  refine Z.callVI (σ := σ) B (M' := mX11_shelfAt) (as := [.int s]) (st := []) (v := .null) dX11_set_2 wX11_shelfAt iX11_shelfAt sX11_shelfAt kX11_59 (hl.n (k := 0) (by decide)) (hl.k (k := 0) (by decide)) (by decide) rfl rfl (t_X11_shelfAt_out (σ := σ) hl hs) rfl rfl (by decide) (by decide) (Nat.le_of_ble_eq_true rfl) (by decide) (by decide) ?_
  refine Z.astore B dX11_set_5 (by decide) rfl (L' := [(0, .ref 0), (1, .int s), (2, .int i), (3, .long v), (5, .null)]) rfl ?_
  refine Z.aload B dX11_set_7 (v := .null) rfl rfl ?_
  refine Z.ifnull_n B dX11_set_9 (tgt := 20) rfl ?_
  refine Z.aload_n B dX11_set_20 (v := .ref 0) rfl rfl ?_
  refine Z.aload B dX11_set_21 (v := .null) rfl rfl ?_
  refine Z.callSI (σ := σ) B (M' := mX11_whyNoRow) (as := [.null]) (st := [.ref 0]) (v := .int (nI 1)) dX11_set_23 wX11_whyNoRow iX11_whyNoRow kX11_75 (t_X11_whyNoRow_n (σ := σ)) rfl rfl (by decide) (by decide) (Nat.le_of_ble_eq_true rfl) (by decide) (by decide) ?_
  refine Z.callVI (σ := σ) B (M' := mX11_refuse) (as := [.int (nI 1)]) (st := []) (v := .int (-nI 1)) dX11_set_26 wX11_refuse iX11_refuse sX11_refuse kX11_63 (hl.n (k := 0) (by decide)) (hl.k (k := 0) (by decide)) (by decide) rfl rfl (t_X11_refuse (σ := σ) hl (b := 1) (by decide)) rfl rfl (by decide) (by decide) (Nat.le_of_ble_eq_true rfl) (by decide) (by decide) ?_
  refine Z.eqσ (τ := (zuX σ 43 (upd (zX σ 43) 1 (zX σ 43 1 + nI 1)))) rfl ?_
  refine Z.iret B Rt dX11_set_29 (ty := .int) rfl rfl (by decide) (by decide) ?_
  exact ⟨rfl, rfl⟩

theorem t_K_set_2 {σ : zSt} (hl : Lay σ) {s : Nat} (hs : s < 8) {i8 : Nat} (hh : zWa σ (2 + 2 * s) i8) {i : Int32} {v : Int64} : Dt mX11_set [.ref 0, .int (nI s), .int i, .long v] σ (some (.int (-nI 2))) (zuX σ 43 (upd (zX σ 43) 2 (zX σ 43 2 + nI 1))) := by
  have hqs := (hl.shelf hs).2
  refine Dt.of (by decide) (Nat.le_of_ble_eq_true rfl) fun κ B Rt => ?_
  show Z κ 0 0 σ 0 [(0, .ref 0), (1, .int (nI s)), (2, .int i), (3, .long v)] []
  refine Z.aload_n B dX11_set_0 (v := .ref 0) rfl rfl ?_
  refine Z.iload_n B dX11_set_1 (x := nI s) rfl ?_
  refine Z.callVI (σ := σ) B (M' := mX11_shelfAt) (as := [.int (nI s)]) (st := []) (v := .ref (2 + 2 * s)) dX11_set_2 wX11_shelfAt iX11_shelfAt sX11_shelfAt kX11_59 (hl.n (k := 0) (by decide)) (hl.k (k := 0) (by decide)) (by decide) rfl rfl (t_X11_shelfAt_in (σ := σ) hl hs) rfl rfl (by decide) (by decide) (Nat.le_of_ble_eq_true rfl) (by decide) (by decide) ?_
  refine Z.astore B dX11_set_5 (by decide) rfl (L' := [(0, .ref 0), (1, .int (nI s)), (2, .int i), (3, .long v), (5, .ref (2 + 2 * s))]) rfl ?_
  refine Z.aload B dX11_set_7 (v := .ref (2 + 2 * s)) rfl rfl ?_
  refine Z.ifnull_r B dX11_set_9 ?_
  refine Z.aload B dX11_set_12 (v := .ref (2 + 2 * s)) rfl rfl ?_
  refine Z.callVI (σ := σ) B (M' := mX6_holdsRow) (as := []) (st := []) (v := .int (nI 0)) dX11_set_14 wX6_holdsRow iX6_holdsRow sX6_holdsRow kX11_71 (Nat.lt_of_succ_lt hqs.1) hqs.2.1 (by decide) rfl rfl (t_X6_holdsRow_0 (σ := σ) hqs hh.1) rfl rfl (by decide) (by decide) (Nat.le_of_ble_eq_true rfl) (by decide) (by decide) ?_
  refine Z.if_neN B dX11_set_17 (tgt := 30) rfl (by omega) (fun h17 => by exfalso; first | omega | contradiction | simp_all) (fun h17 => ?_)
  refine Z.aload_n B dX11_set_20 (v := .ref 0) rfl rfl ?_
  refine Z.aload B dX11_set_21 (v := .ref (2 + 2 * s)) rfl rfl ?_
  refine Z.callSI (σ := σ) B (M' := mX11_whyNoRow) (as := [.ref (2 + 2 * s)]) (st := [.ref 0]) (v := .int (nI 2)) dX11_set_23 wX11_whyNoRow iX11_whyNoRow kX11_75 (t_X11_whyNoRow_w (σ := σ) hqs (Nat.lt_trans hh.2.2.2 (by decide)) hh.2.2.1) rfl rfl (by decide) (by decide) (Nat.le_of_ble_eq_true rfl) (by decide) (by decide) ?_
  refine Z.callVI (σ := σ) B (M' := mX11_refuse) (as := [.int (nI 2)]) (st := []) (v := .int (-nI 2)) dX11_set_26 wX11_refuse iX11_refuse sX11_refuse kX11_63 (hl.n (k := 0) (by decide)) (hl.k (k := 0) (by decide)) (by decide) rfl rfl (t_X11_refuse (σ := σ) hl (b := 2) (by decide)) rfl rfl (by decide) (by decide) (Nat.le_of_ble_eq_true rfl) (by decide) (by decide) ?_
  refine Z.eqσ (τ := (zuX σ 43 (upd (zX σ 43) 2 (zX σ 43 2 + nI 1)))) rfl ?_
  refine Z.iret B Rt dX11_set_29 (ty := .int) rfl rfl (by decide) (by decide) ?_
  exact ⟨rfl, rfl⟩

theorem t_K_set_3 {σ : zSt} (hl : Lay σ) {s : Nat} (hs : s < 8) (hh : zNo σ (2 + 2 * s)) {i : Int32} {v : Int64} : Dt mX11_set [.ref 0, .int (nI s), .int i, .long v] σ (some (.int (-nI 3))) (zuX σ 43 (upd (zX σ 43) 3 (zX σ 43 3 + nI 1))) := by
  have hqs := (hl.shelf hs).2
  refine Dt.of (by decide) (Nat.le_of_ble_eq_true rfl) fun κ B Rt => ?_
  show Z κ 0 0 σ 0 [(0, .ref 0), (1, .int (nI s)), (2, .int i), (3, .long v)] []
  refine Z.aload_n B dX11_set_0 (v := .ref 0) rfl rfl ?_
  refine Z.iload_n B dX11_set_1 (x := nI s) rfl ?_
  refine Z.callVI (σ := σ) B (M' := mX11_shelfAt) (as := [.int (nI s)]) (st := []) (v := .ref (2 + 2 * s)) dX11_set_2 wX11_shelfAt iX11_shelfAt sX11_shelfAt kX11_59 (hl.n (k := 0) (by decide)) (hl.k (k := 0) (by decide)) (by decide) rfl rfl (t_X11_shelfAt_in (σ := σ) hl hs) rfl rfl (by decide) (by decide) (Nat.le_of_ble_eq_true rfl) (by decide) (by decide) ?_
  refine Z.astore B dX11_set_5 (by decide) rfl (L' := [(0, .ref 0), (1, .int (nI s)), (2, .int i), (3, .long v), (5, .ref (2 + 2 * s))]) rfl ?_
  refine Z.aload B dX11_set_7 (v := .ref (2 + 2 * s)) rfl rfl ?_
  refine Z.ifnull_r B dX11_set_9 ?_
  refine Z.aload B dX11_set_12 (v := .ref (2 + 2 * s)) rfl rfl ?_
  refine Z.callVI (σ := σ) B (M' := mX6_holdsRow) (as := []) (st := []) (v := .int (nI 0)) dX11_set_14 wX6_holdsRow iX6_holdsRow sX6_holdsRow kX11_71 (Nat.lt_of_succ_lt hqs.1) hqs.2.1 (by decide) rfl rfl (t_X6_holdsRow_0 (σ := σ) hqs hh.1) rfl rfl (by decide) (by decide) (Nat.le_of_ble_eq_true rfl) (by decide) (by decide) ?_
  refine Z.if_neN B dX11_set_17 (tgt := 30) rfl (by omega) (fun h17 => by exfalso; first | omega | contradiction | simp_all) (fun h17 => ?_)
  refine Z.aload_n B dX11_set_20 (v := .ref 0) rfl rfl ?_
  refine Z.aload B dX11_set_21 (v := .ref (2 + 2 * s)) rfl rfl ?_
  refine Z.callSI (σ := σ) B (M' := mX11_whyNoRow) (as := [.ref (2 + 2 * s)]) (st := [.ref 0]) (v := .int (nI 3)) dX11_set_23 wX11_whyNoRow iX11_whyNoRow kX11_75 (t_X11_whyNoRow_0 (σ := σ) hqs hh.2.2) rfl rfl (by decide) (by decide) (Nat.le_of_ble_eq_true rfl) (by decide) (by decide) ?_
  refine Z.callVI (σ := σ) B (M' := mX11_refuse) (as := [.int (nI 3)]) (st := []) (v := .int (-nI 3)) dX11_set_26 wX11_refuse iX11_refuse sX11_refuse kX11_63 (hl.n (k := 0) (by decide)) (hl.k (k := 0) (by decide)) (by decide) rfl rfl (t_X11_refuse (σ := σ) hl (b := 3) (by decide)) rfl rfl (by decide) (by decide) (Nat.le_of_ble_eq_true rfl) (by decide) (by decide) ?_
  refine Z.eqσ (τ := (zuX σ 43 (upd (zX σ 43) 3 (zX σ 43 3 + nI 1)))) rfl ?_
  refine Z.iret B Rt dX11_set_29 (ty := .int) rfl rfl (by decide) (by decide) ?_
  exact ⟨rfl, rfl⟩

theorem t_K_comer_1 {σ : zSt} (hl : Lay σ) {s : Int32} (hs : zOut s 8)  {i : Int32} : Dt mX11_comer [.ref 0, .int s, .int i] σ (some (.int (-nI 1))) (zuX σ 43 (upd (zX σ 43) 1 (zX σ 43 1 + nI 1))) := by
  refine Dt.of (by decide) (Nat.le_of_ble_eq_true rfl) fun κ B Rt => ?_
  show Z κ 0 0 σ 0 [(0, .ref 0), (1, .int s), (2, .int i)] []
  refine Z.aload_n B dX11_comer_0 (v := .ref 0) rfl rfl ?_
  refine Z.iload_n B dX11_comer_1 (x := s) rfl ?_
  refine Z.callVI (σ := σ) B (M' := mX11_shelfAt) (as := [.int s]) (st := []) (v := .null) dX11_comer_2 wX11_shelfAt iX11_shelfAt sX11_shelfAt kX11_59 (hl.n (k := 0) (by decide)) (hl.k (k := 0) (by decide)) (by decide) rfl rfl (t_X11_shelfAt_out (σ := σ) hl hs) rfl rfl (by decide) (by decide) (Nat.le_of_ble_eq_true rfl) (by decide) (by decide) ?_
  refine Z.astore_n B dX11_comer_5 (by decide) rfl (L' := [(0, .ref 0), (1, .int s), (2, .int i), (3, .null)]) rfl ?_
  refine Z.aload_n B dX11_comer_6 (v := .null) rfl rfl ?_
  refine Z.ifnull_n B dX11_comer_7 (tgt := 17) rfl ?_
  refine Z.aload_n B dX11_comer_17 (v := .ref 0) rfl rfl ?_
  refine Z.aload_n B dX11_comer_18 (v := .null) rfl rfl ?_
  refine Z.callSI (σ := σ) B (M' := mX11_whyNoRow) (as := [.null]) (st := [.ref 0]) (v := .int (nI 1)) dX11_comer_19 wX11_whyNoRow iX11_whyNoRow kX11_75 (t_X11_whyNoRow_n (σ := σ)) rfl rfl (by decide) (by decide) (Nat.le_of_ble_eq_true rfl) (by decide) (by decide) ?_
  refine Z.callVI (σ := σ) B (M' := mX11_refuse) (as := [.int (nI 1)]) (st := []) (v := .int (-nI 1)) dX11_comer_22 wX11_refuse iX11_refuse sX11_refuse kX11_63 (hl.n (k := 0) (by decide)) (hl.k (k := 0) (by decide)) (by decide) rfl rfl (t_X11_refuse (σ := σ) hl (b := 1) (by decide)) rfl rfl (by decide) (by decide) (Nat.le_of_ble_eq_true rfl) (by decide) (by decide) ?_
  refine Z.eqσ (τ := (zuX σ 43 (upd (zX σ 43) 1 (zX σ 43 1 + nI 1)))) rfl ?_
  refine Z.iret B Rt dX11_comer_25 (ty := .int) rfl rfl (by decide) (by decide) ?_
  exact ⟨rfl, rfl⟩

theorem t_K_comer_2 {σ : zSt} (hl : Lay σ) {s : Nat} (hs : s < 8) {i8 : Nat} (hh : zWa σ (2 + 2 * s) i8) {i : Int32} : Dt mX11_comer [.ref 0, .int (nI s), .int i] σ (some (.int (-nI 2))) (zuX σ 43 (upd (zX σ 43) 2 (zX σ 43 2 + nI 1))) := by
  have hqs := (hl.shelf hs).2
  refine Dt.of (by decide) (Nat.le_of_ble_eq_true rfl) fun κ B Rt => ?_
  show Z κ 0 0 σ 0 [(0, .ref 0), (1, .int (nI s)), (2, .int i)] []
  refine Z.aload_n B dX11_comer_0 (v := .ref 0) rfl rfl ?_
  refine Z.iload_n B dX11_comer_1 (x := nI s) rfl ?_
  refine Z.callVI (σ := σ) B (M' := mX11_shelfAt) (as := [.int (nI s)]) (st := []) (v := .ref (2 + 2 * s)) dX11_comer_2 wX11_shelfAt iX11_shelfAt sX11_shelfAt kX11_59 (hl.n (k := 0) (by decide)) (hl.k (k := 0) (by decide)) (by decide) rfl rfl (t_X11_shelfAt_in (σ := σ) hl hs) rfl rfl (by decide) (by decide) (Nat.le_of_ble_eq_true rfl) (by decide) (by decide) ?_
  refine Z.astore_n B dX11_comer_5 (by decide) rfl (L' := [(0, .ref 0), (1, .int (nI s)), (2, .int i), (3, .ref (2 + 2 * s))]) rfl ?_
  refine Z.aload_n B dX11_comer_6 (v := .ref (2 + 2 * s)) rfl rfl ?_
  refine Z.ifnull_r B dX11_comer_7 ?_
  refine Z.aload_n B dX11_comer_10 (v := .ref (2 + 2 * s)) rfl rfl ?_
  refine Z.callVI (σ := σ) B (M' := mX6_holdsRow) (as := []) (st := []) (v := .int (nI 0)) dX11_comer_11 wX6_holdsRow iX6_holdsRow sX6_holdsRow kX11_71 (Nat.lt_of_succ_lt hqs.1) hqs.2.1 (by decide) rfl rfl (t_X6_holdsRow_0 (σ := σ) hqs hh.1) rfl rfl (by decide) (by decide) (Nat.le_of_ble_eq_true rfl) (by decide) (by decide) ?_
  refine Z.if_neN B dX11_comer_14 (tgt := 26) rfl (by omega) (fun h14 => by exfalso; first | omega | contradiction | simp_all) (fun h14 => ?_)
  refine Z.aload_n B dX11_comer_17 (v := .ref 0) rfl rfl ?_
  refine Z.aload_n B dX11_comer_18 (v := .ref (2 + 2 * s)) rfl rfl ?_
  refine Z.callSI (σ := σ) B (M' := mX11_whyNoRow) (as := [.ref (2 + 2 * s)]) (st := [.ref 0]) (v := .int (nI 2)) dX11_comer_19 wX11_whyNoRow iX11_whyNoRow kX11_75 (t_X11_whyNoRow_w (σ := σ) hqs (Nat.lt_trans hh.2.2.2 (by decide)) hh.2.2.1) rfl rfl (by decide) (by decide) (Nat.le_of_ble_eq_true rfl) (by decide) (by decide) ?_
  refine Z.callVI (σ := σ) B (M' := mX11_refuse) (as := [.int (nI 2)]) (st := []) (v := .int (-nI 2)) dX11_comer_22 wX11_refuse iX11_refuse sX11_refuse kX11_63 (hl.n (k := 0) (by decide)) (hl.k (k := 0) (by decide)) (by decide) rfl rfl (t_X11_refuse (σ := σ) hl (b := 2) (by decide)) rfl rfl (by decide) (by decide) (Nat.le_of_ble_eq_true rfl) (by decide) (by decide) ?_
  refine Z.eqσ (τ := (zuX σ 43 (upd (zX σ 43) 2 (zX σ 43 2 + nI 1)))) rfl ?_
  refine Z.iret B Rt dX11_comer_25 (ty := .int) rfl rfl (by decide) (by decide) ?_
  exact ⟨rfl, rfl⟩

theorem t_K_comer_3 {σ : zSt} (hl : Lay σ) {s : Nat} (hs : s < 8) (hh : zNo σ (2 + 2 * s)) {i : Int32} : Dt mX11_comer [.ref 0, .int (nI s), .int i] σ (some (.int (-nI 3))) (zuX σ 43 (upd (zX σ 43) 3 (zX σ 43 3 + nI 1))) := by
  have hqs := (hl.shelf hs).2
  refine Dt.of (by decide) (Nat.le_of_ble_eq_true rfl) fun κ B Rt => ?_
  show Z κ 0 0 σ 0 [(0, .ref 0), (1, .int (nI s)), (2, .int i)] []
  refine Z.aload_n B dX11_comer_0 (v := .ref 0) rfl rfl ?_
  refine Z.iload_n B dX11_comer_1 (x := nI s) rfl ?_
  refine Z.callVI (σ := σ) B (M' := mX11_shelfAt) (as := [.int (nI s)]) (st := []) (v := .ref (2 + 2 * s)) dX11_comer_2 wX11_shelfAt iX11_shelfAt sX11_shelfAt kX11_59 (hl.n (k := 0) (by decide)) (hl.k (k := 0) (by decide)) (by decide) rfl rfl (t_X11_shelfAt_in (σ := σ) hl hs) rfl rfl (by decide) (by decide) (Nat.le_of_ble_eq_true rfl) (by decide) (by decide) ?_
  refine Z.astore_n B dX11_comer_5 (by decide) rfl (L' := [(0, .ref 0), (1, .int (nI s)), (2, .int i), (3, .ref (2 + 2 * s))]) rfl ?_
  refine Z.aload_n B dX11_comer_6 (v := .ref (2 + 2 * s)) rfl rfl ?_
  refine Z.ifnull_r B dX11_comer_7 ?_
  refine Z.aload_n B dX11_comer_10 (v := .ref (2 + 2 * s)) rfl rfl ?_
  refine Z.callVI (σ := σ) B (M' := mX6_holdsRow) (as := []) (st := []) (v := .int (nI 0)) dX11_comer_11 wX6_holdsRow iX6_holdsRow sX6_holdsRow kX11_71 (Nat.lt_of_succ_lt hqs.1) hqs.2.1 (by decide) rfl rfl (t_X6_holdsRow_0 (σ := σ) hqs hh.1) rfl rfl (by decide) (by decide) (Nat.le_of_ble_eq_true rfl) (by decide) (by decide) ?_
  refine Z.if_neN B dX11_comer_14 (tgt := 26) rfl (by omega) (fun h14 => by exfalso; first | omega | contradiction | simp_all) (fun h14 => ?_)
  refine Z.aload_n B dX11_comer_17 (v := .ref 0) rfl rfl ?_
  refine Z.aload_n B dX11_comer_18 (v := .ref (2 + 2 * s)) rfl rfl ?_
  refine Z.callSI (σ := σ) B (M' := mX11_whyNoRow) (as := [.ref (2 + 2 * s)]) (st := [.ref 0]) (v := .int (nI 3)) dX11_comer_19 wX11_whyNoRow iX11_whyNoRow kX11_75 (t_X11_whyNoRow_0 (σ := σ) hqs hh.2.2) rfl rfl (by decide) (by decide) (Nat.le_of_ble_eq_true rfl) (by decide) (by decide) ?_
  refine Z.callVI (σ := σ) B (M' := mX11_refuse) (as := [.int (nI 3)]) (st := []) (v := .int (-nI 3)) dX11_comer_22 wX11_refuse iX11_refuse sX11_refuse kX11_63 (hl.n (k := 0) (by decide)) (hl.k (k := 0) (by decide)) (by decide) rfl rfl (t_X11_refuse (σ := σ) hl (b := 3) (by decide)) rfl rfl (by decide) (by decide) (Nat.le_of_ble_eq_true rfl) (by decide) (by decide) ?_
  refine Z.eqσ (τ := (zuX σ 43 (upd (zX σ 43) 3 (zX σ 43 3 + nI 1)))) rfl ?_
  refine Z.iret B Rt dX11_comer_25 (ty := .int) rfl rfl (by decide) (by decide) ?_
  exact ⟨rfl, rfl⟩

theorem t_K_house_1 {σ : zSt} (hl : Lay σ) {s : Int32} (hs : zOut s 8)  : Dt mX11_house [.ref 0, .int s] σ (some (.int (-nI 1))) (zuX σ 43 (upd (zX σ 43) 1 (zX σ 43 1 + nI 1))) := by
  refine Dt.of (by decide) (Nat.le_of_ble_eq_true rfl) fun κ B Rt => ?_
  show Z κ 0 0 σ 0 [(0, .ref 0), (1, .int s)] []
  refine Z.aload_n B dX11_house_0 (v := .ref 0) rfl rfl ?_
  refine Z.iload_n B dX11_house_1 (x := s) rfl ?_
  refine Z.callVI (σ := σ) B (M' := mX11_shelfAt) (as := [.int s]) (st := []) (v := .null) dX11_house_2 wX11_shelfAt iX11_shelfAt sX11_shelfAt kX11_59 (hl.n (k := 0) (by decide)) (hl.k (k := 0) (by decide)) (by decide) rfl rfl (t_X11_shelfAt_out (σ := σ) hl hs) rfl rfl (by decide) (by decide) (Nat.le_of_ble_eq_true rfl) (by decide) (by decide) ?_
  refine Z.astore_n B dX11_house_5 (by decide) rfl (L' := [(0, .ref 0), (1, .int s), (2, .null)]) rfl ?_
  refine Z.aload_n B dX11_house_6 (v := .null) rfl rfl ?_
  refine Z.ifnull_n B dX11_house_7 (tgt := 17) rfl ?_
  refine Z.aload_n B dX11_house_17 (v := .ref 0) rfl rfl ?_
  refine Z.aload_n B dX11_house_18 (v := .null) rfl rfl ?_
  refine Z.callSI (σ := σ) B (M' := mX11_whyNoRow) (as := [.null]) (st := [.ref 0]) (v := .int (nI 1)) dX11_house_19 wX11_whyNoRow iX11_whyNoRow kX11_75 (t_X11_whyNoRow_n (σ := σ)) rfl rfl (by decide) (by decide) (Nat.le_of_ble_eq_true rfl) (by decide) (by decide) ?_
  refine Z.callVI (σ := σ) B (M' := mX11_refuse) (as := [.int (nI 1)]) (st := []) (v := .int (-nI 1)) dX11_house_22 wX11_refuse iX11_refuse sX11_refuse kX11_63 (hl.n (k := 0) (by decide)) (hl.k (k := 0) (by decide)) (by decide) rfl rfl (t_X11_refuse (σ := σ) hl (b := 1) (by decide)) rfl rfl (by decide) (by decide) (Nat.le_of_ble_eq_true rfl) (by decide) (by decide) ?_
  refine Z.eqσ (τ := (zuX σ 43 (upd (zX σ 43) 1 (zX σ 43 1 + nI 1)))) rfl ?_
  refine Z.iret B Rt dX11_house_25 (ty := .int) rfl rfl (by decide) (by decide) ?_
  exact ⟨rfl, rfl⟩

theorem t_K_house_2 {σ : zSt} (hl : Lay σ) {s : Nat} (hs : s < 8) {i8 : Nat} (hh : zWa σ (2 + 2 * s) i8) : Dt mX11_house [.ref 0, .int (nI s)] σ (some (.int (-nI 2))) (zuX σ 43 (upd (zX σ 43) 2 (zX σ 43 2 + nI 1))) := by
  have hqs := (hl.shelf hs).2
  refine Dt.of (by decide) (Nat.le_of_ble_eq_true rfl) fun κ B Rt => ?_
  show Z κ 0 0 σ 0 [(0, .ref 0), (1, .int (nI s))] []
  refine Z.aload_n B dX11_house_0 (v := .ref 0) rfl rfl ?_
  refine Z.iload_n B dX11_house_1 (x := nI s) rfl ?_
  refine Z.callVI (σ := σ) B (M' := mX11_shelfAt) (as := [.int (nI s)]) (st := []) (v := .ref (2 + 2 * s)) dX11_house_2 wX11_shelfAt iX11_shelfAt sX11_shelfAt kX11_59 (hl.n (k := 0) (by decide)) (hl.k (k := 0) (by decide)) (by decide) rfl rfl (t_X11_shelfAt_in (σ := σ) hl hs) rfl rfl (by decide) (by decide) (Nat.le_of_ble_eq_true rfl) (by decide) (by decide) ?_
  refine Z.astore_n B dX11_house_5 (by decide) rfl (L' := [(0, .ref 0), (1, .int (nI s)), (2, .ref (2 + 2 * s))]) rfl ?_
  refine Z.aload_n B dX11_house_6 (v := .ref (2 + 2 * s)) rfl rfl ?_
  refine Z.ifnull_r B dX11_house_7 ?_
  refine Z.aload_n B dX11_house_10 (v := .ref (2 + 2 * s)) rfl rfl ?_
  refine Z.callVI (σ := σ) B (M' := mX6_holdsRow) (as := []) (st := []) (v := .int (nI 0)) dX11_house_11 wX6_holdsRow iX6_holdsRow sX6_holdsRow kX11_71 (Nat.lt_of_succ_lt hqs.1) hqs.2.1 (by decide) rfl rfl (t_X6_holdsRow_0 (σ := σ) hqs hh.1) rfl rfl (by decide) (by decide) (Nat.le_of_ble_eq_true rfl) (by decide) (by decide) ?_
  refine Z.if_neN B dX11_house_14 (tgt := 26) rfl (by omega) (fun h14 => by exfalso; first | omega | contradiction | simp_all) (fun h14 => ?_)
  refine Z.aload_n B dX11_house_17 (v := .ref 0) rfl rfl ?_
  refine Z.aload_n B dX11_house_18 (v := .ref (2 + 2 * s)) rfl rfl ?_
  refine Z.callSI (σ := σ) B (M' := mX11_whyNoRow) (as := [.ref (2 + 2 * s)]) (st := [.ref 0]) (v := .int (nI 2)) dX11_house_19 wX11_whyNoRow iX11_whyNoRow kX11_75 (t_X11_whyNoRow_w (σ := σ) hqs (Nat.lt_trans hh.2.2.2 (by decide)) hh.2.2.1) rfl rfl (by decide) (by decide) (Nat.le_of_ble_eq_true rfl) (by decide) (by decide) ?_
  refine Z.callVI (σ := σ) B (M' := mX11_refuse) (as := [.int (nI 2)]) (st := []) (v := .int (-nI 2)) dX11_house_22 wX11_refuse iX11_refuse sX11_refuse kX11_63 (hl.n (k := 0) (by decide)) (hl.k (k := 0) (by decide)) (by decide) rfl rfl (t_X11_refuse (σ := σ) hl (b := 2) (by decide)) rfl rfl (by decide) (by decide) (Nat.le_of_ble_eq_true rfl) (by decide) (by decide) ?_
  refine Z.eqσ (τ := (zuX σ 43 (upd (zX σ 43) 2 (zX σ 43 2 + nI 1)))) rfl ?_
  refine Z.iret B Rt dX11_house_25 (ty := .int) rfl rfl (by decide) (by decide) ?_
  exact ⟨rfl, rfl⟩

theorem t_K_house_3 {σ : zSt} (hl : Lay σ) {s : Nat} (hs : s < 8) (hh : zNo σ (2 + 2 * s)) : Dt mX11_house [.ref 0, .int (nI s)] σ (some (.int (-nI 3))) (zuX σ 43 (upd (zX σ 43) 3 (zX σ 43 3 + nI 1))) := by
  have hqs := (hl.shelf hs).2
  refine Dt.of (by decide) (Nat.le_of_ble_eq_true rfl) fun κ B Rt => ?_
  show Z κ 0 0 σ 0 [(0, .ref 0), (1, .int (nI s))] []
  refine Z.aload_n B dX11_house_0 (v := .ref 0) rfl rfl ?_
  refine Z.iload_n B dX11_house_1 (x := nI s) rfl ?_
  refine Z.callVI (σ := σ) B (M' := mX11_shelfAt) (as := [.int (nI s)]) (st := []) (v := .ref (2 + 2 * s)) dX11_house_2 wX11_shelfAt iX11_shelfAt sX11_shelfAt kX11_59 (hl.n (k := 0) (by decide)) (hl.k (k := 0) (by decide)) (by decide) rfl rfl (t_X11_shelfAt_in (σ := σ) hl hs) rfl rfl (by decide) (by decide) (Nat.le_of_ble_eq_true rfl) (by decide) (by decide) ?_
  refine Z.astore_n B dX11_house_5 (by decide) rfl (L' := [(0, .ref 0), (1, .int (nI s)), (2, .ref (2 + 2 * s))]) rfl ?_
  refine Z.aload_n B dX11_house_6 (v := .ref (2 + 2 * s)) rfl rfl ?_
  refine Z.ifnull_r B dX11_house_7 ?_
  refine Z.aload_n B dX11_house_10 (v := .ref (2 + 2 * s)) rfl rfl ?_
  refine Z.callVI (σ := σ) B (M' := mX6_holdsRow) (as := []) (st := []) (v := .int (nI 0)) dX11_house_11 wX6_holdsRow iX6_holdsRow sX6_holdsRow kX11_71 (Nat.lt_of_succ_lt hqs.1) hqs.2.1 (by decide) rfl rfl (t_X6_holdsRow_0 (σ := σ) hqs hh.1) rfl rfl (by decide) (by decide) (Nat.le_of_ble_eq_true rfl) (by decide) (by decide) ?_
  refine Z.if_neN B dX11_house_14 (tgt := 26) rfl (by omega) (fun h14 => by exfalso; first | omega | contradiction | simp_all) (fun h14 => ?_)
  refine Z.aload_n B dX11_house_17 (v := .ref 0) rfl rfl ?_
  refine Z.aload_n B dX11_house_18 (v := .ref (2 + 2 * s)) rfl rfl ?_
  refine Z.callSI (σ := σ) B (M' := mX11_whyNoRow) (as := [.ref (2 + 2 * s)]) (st := [.ref 0]) (v := .int (nI 3)) dX11_house_19 wX11_whyNoRow iX11_whyNoRow kX11_75 (t_X11_whyNoRow_0 (σ := σ) hqs hh.2.2) rfl rfl (by decide) (by decide) (Nat.le_of_ble_eq_true rfl) (by decide) (by decide) ?_
  refine Z.callVI (σ := σ) B (M' := mX11_refuse) (as := [.int (nI 3)]) (st := []) (v := .int (-nI 3)) dX11_house_22 wX11_refuse iX11_refuse sX11_refuse kX11_63 (hl.n (k := 0) (by decide)) (hl.k (k := 0) (by decide)) (by decide) rfl rfl (t_X11_refuse (σ := σ) hl (b := 3) (by decide)) rfl rfl (by decide) (by decide) (Nat.le_of_ble_eq_true rfl) (by decide) (by decide) ?_
  refine Z.eqσ (τ := (zuX σ 43 (upd (zX σ 43) 3 (zX σ 43 3 + nI 1)))) rfl ?_
  refine Z.iret B Rt dX11_house_25 (ty := .int) rfl rfl (by decide) (by decide) ?_
  exact ⟨rfl, rfl⟩

theorem t_K_judge_1 {σ : zSt} (hl : Lay σ) {s : Int32} (hs : zOut s 8)  : Dt mX11_judge [.ref 0, .int s] σ (some (.int (-nI 1))) (zuX σ 43 (upd (zX σ 43) 1 (zX σ 43 1 + nI 1))) := by
  refine Dt.of (by decide) (Nat.le_of_ble_eq_true rfl) fun κ B Rt => ?_
  show Z κ 0 0 σ 0 [(0, .ref 0), (1, .int s)] []
  refine Z.aload_n B dX11_judge_0 (v := .ref 0) rfl rfl ?_
  refine Z.iload_n B dX11_judge_1 (x := s) rfl ?_
  refine Z.callVI (σ := σ) B (M' := mX11_shelfAt) (as := [.int s]) (st := []) (v := .null) dX11_judge_2 wX11_shelfAt iX11_shelfAt sX11_shelfAt kX11_59 (hl.n (k := 0) (by decide)) (hl.k (k := 0) (by decide)) (by decide) rfl rfl (t_X11_shelfAt_out (σ := σ) hl hs) rfl rfl (by decide) (by decide) (Nat.le_of_ble_eq_true rfl) (by decide) (by decide) ?_
  refine Z.astore_n B dX11_judge_5 (by decide) rfl (L' := [(0, .ref 0), (1, .int s), (2, .null)]) rfl ?_
  refine Z.aload_n B dX11_judge_6 (v := .null) rfl rfl ?_
  refine Z.ifnull_n B dX11_judge_7 (tgt := 17) rfl ?_
  refine Z.aload_n B dX11_judge_17 (v := .ref 0) rfl rfl ?_
  refine Z.aload_n B dX11_judge_18 (v := .null) rfl rfl ?_
  refine Z.callSI (σ := σ) B (M' := mX11_whyNoRow) (as := [.null]) (st := [.ref 0]) (v := .int (nI 1)) dX11_judge_19 wX11_whyNoRow iX11_whyNoRow kX11_75 (t_X11_whyNoRow_n (σ := σ)) rfl rfl (by decide) (by decide) (Nat.le_of_ble_eq_true rfl) (by decide) (by decide) ?_
  refine Z.callVI (σ := σ) B (M' := mX11_refuse) (as := [.int (nI 1)]) (st := []) (v := .int (-nI 1)) dX11_judge_22 wX11_refuse iX11_refuse sX11_refuse kX11_63 (hl.n (k := 0) (by decide)) (hl.k (k := 0) (by decide)) (by decide) rfl rfl (t_X11_refuse (σ := σ) hl (b := 1) (by decide)) rfl rfl (by decide) (by decide) (Nat.le_of_ble_eq_true rfl) (by decide) (by decide) ?_
  refine Z.eqσ (τ := (zuX σ 43 (upd (zX σ 43) 1 (zX σ 43 1 + nI 1)))) rfl ?_
  refine Z.iret B Rt dX11_judge_25 (ty := .int) rfl rfl (by decide) (by decide) ?_
  exact ⟨rfl, rfl⟩

theorem t_K_judge_2 {σ : zSt} (hl : Lay σ) {s : Nat} (hs : s < 8) {i8 : Nat} (hh : zWa σ (2 + 2 * s) i8) : Dt mX11_judge [.ref 0, .int (nI s)] σ (some (.int (-nI 2))) (zuX σ 43 (upd (zX σ 43) 2 (zX σ 43 2 + nI 1))) := by
  have hqs := (hl.shelf hs).2
  refine Dt.of (by decide) (Nat.le_of_ble_eq_true rfl) fun κ B Rt => ?_
  show Z κ 0 0 σ 0 [(0, .ref 0), (1, .int (nI s))] []
  refine Z.aload_n B dX11_judge_0 (v := .ref 0) rfl rfl ?_
  refine Z.iload_n B dX11_judge_1 (x := nI s) rfl ?_
  refine Z.callVI (σ := σ) B (M' := mX11_shelfAt) (as := [.int (nI s)]) (st := []) (v := .ref (2 + 2 * s)) dX11_judge_2 wX11_shelfAt iX11_shelfAt sX11_shelfAt kX11_59 (hl.n (k := 0) (by decide)) (hl.k (k := 0) (by decide)) (by decide) rfl rfl (t_X11_shelfAt_in (σ := σ) hl hs) rfl rfl (by decide) (by decide) (Nat.le_of_ble_eq_true rfl) (by decide) (by decide) ?_
  refine Z.astore_n B dX11_judge_5 (by decide) rfl (L' := [(0, .ref 0), (1, .int (nI s)), (2, .ref (2 + 2 * s))]) rfl ?_
  refine Z.aload_n B dX11_judge_6 (v := .ref (2 + 2 * s)) rfl rfl ?_
  refine Z.ifnull_r B dX11_judge_7 ?_
  refine Z.aload_n B dX11_judge_10 (v := .ref (2 + 2 * s)) rfl rfl ?_
  refine Z.callVI (σ := σ) B (M' := mX6_holdsRow) (as := []) (st := []) (v := .int (nI 0)) dX11_judge_11 wX6_holdsRow iX6_holdsRow sX6_holdsRow kX11_71 (Nat.lt_of_succ_lt hqs.1) hqs.2.1 (by decide) rfl rfl (t_X6_holdsRow_0 (σ := σ) hqs hh.1) rfl rfl (by decide) (by decide) (Nat.le_of_ble_eq_true rfl) (by decide) (by decide) ?_
  refine Z.if_neN B dX11_judge_14 (tgt := 26) rfl (by omega) (fun h14 => by exfalso; first | omega | contradiction | simp_all) (fun h14 => ?_)
  refine Z.aload_n B dX11_judge_17 (v := .ref 0) rfl rfl ?_
  refine Z.aload_n B dX11_judge_18 (v := .ref (2 + 2 * s)) rfl rfl ?_
  refine Z.callSI (σ := σ) B (M' := mX11_whyNoRow) (as := [.ref (2 + 2 * s)]) (st := [.ref 0]) (v := .int (nI 2)) dX11_judge_19 wX11_whyNoRow iX11_whyNoRow kX11_75 (t_X11_whyNoRow_w (σ := σ) hqs (Nat.lt_trans hh.2.2.2 (by decide)) hh.2.2.1) rfl rfl (by decide) (by decide) (Nat.le_of_ble_eq_true rfl) (by decide) (by decide) ?_
  refine Z.callVI (σ := σ) B (M' := mX11_refuse) (as := [.int (nI 2)]) (st := []) (v := .int (-nI 2)) dX11_judge_22 wX11_refuse iX11_refuse sX11_refuse kX11_63 (hl.n (k := 0) (by decide)) (hl.k (k := 0) (by decide)) (by decide) rfl rfl (t_X11_refuse (σ := σ) hl (b := 2) (by decide)) rfl rfl (by decide) (by decide) (Nat.le_of_ble_eq_true rfl) (by decide) (by decide) ?_
  refine Z.eqσ (τ := (zuX σ 43 (upd (zX σ 43) 2 (zX σ 43 2 + nI 1)))) rfl ?_
  refine Z.iret B Rt dX11_judge_25 (ty := .int) rfl rfl (by decide) (by decide) ?_
  exact ⟨rfl, rfl⟩

theorem t_K_judge_3 {σ : zSt} (hl : Lay σ) {s : Nat} (hs : s < 8) (hh : zNo σ (2 + 2 * s)) : Dt mX11_judge [.ref 0, .int (nI s)] σ (some (.int (-nI 3))) (zuX σ 43 (upd (zX σ 43) 3 (zX σ 43 3 + nI 1))) := by
  have hqs := (hl.shelf hs).2
  refine Dt.of (by decide) (Nat.le_of_ble_eq_true rfl) fun κ B Rt => ?_
  show Z κ 0 0 σ 0 [(0, .ref 0), (1, .int (nI s))] []
  refine Z.aload_n B dX11_judge_0 (v := .ref 0) rfl rfl ?_
  refine Z.iload_n B dX11_judge_1 (x := nI s) rfl ?_
  refine Z.callVI (σ := σ) B (M' := mX11_shelfAt) (as := [.int (nI s)]) (st := []) (v := .ref (2 + 2 * s)) dX11_judge_2 wX11_shelfAt iX11_shelfAt sX11_shelfAt kX11_59 (hl.n (k := 0) (by decide)) (hl.k (k := 0) (by decide)) (by decide) rfl rfl (t_X11_shelfAt_in (σ := σ) hl hs) rfl rfl (by decide) (by decide) (Nat.le_of_ble_eq_true rfl) (by decide) (by decide) ?_
  refine Z.astore_n B dX11_judge_5 (by decide) rfl (L' := [(0, .ref 0), (1, .int (nI s)), (2, .ref (2 + 2 * s))]) rfl ?_
  refine Z.aload_n B dX11_judge_6 (v := .ref (2 + 2 * s)) rfl rfl ?_
  refine Z.ifnull_r B dX11_judge_7 ?_
  refine Z.aload_n B dX11_judge_10 (v := .ref (2 + 2 * s)) rfl rfl ?_
  refine Z.callVI (σ := σ) B (M' := mX6_holdsRow) (as := []) (st := []) (v := .int (nI 0)) dX11_judge_11 wX6_holdsRow iX6_holdsRow sX6_holdsRow kX11_71 (Nat.lt_of_succ_lt hqs.1) hqs.2.1 (by decide) rfl rfl (t_X6_holdsRow_0 (σ := σ) hqs hh.1) rfl rfl (by decide) (by decide) (Nat.le_of_ble_eq_true rfl) (by decide) (by decide) ?_
  refine Z.if_neN B dX11_judge_14 (tgt := 26) rfl (by omega) (fun h14 => by exfalso; first | omega | contradiction | simp_all) (fun h14 => ?_)
  refine Z.aload_n B dX11_judge_17 (v := .ref 0) rfl rfl ?_
  refine Z.aload_n B dX11_judge_18 (v := .ref (2 + 2 * s)) rfl rfl ?_
  refine Z.callSI (σ := σ) B (M' := mX11_whyNoRow) (as := [.ref (2 + 2 * s)]) (st := [.ref 0]) (v := .int (nI 3)) dX11_judge_19 wX11_whyNoRow iX11_whyNoRow kX11_75 (t_X11_whyNoRow_0 (σ := σ) hqs hh.2.2) rfl rfl (by decide) (by decide) (Nat.le_of_ble_eq_true rfl) (by decide) (by decide) ?_
  refine Z.callVI (σ := σ) B (M' := mX11_refuse) (as := [.int (nI 3)]) (st := []) (v := .int (-nI 3)) dX11_judge_22 wX11_refuse iX11_refuse sX11_refuse kX11_63 (hl.n (k := 0) (by decide)) (hl.k (k := 0) (by decide)) (by decide) rfl rfl (t_X11_refuse (σ := σ) hl (b := 3) (by decide)) rfl rfl (by decide) (by decide) (Nat.le_of_ble_eq_true rfl) (by decide) (by decide) ?_
  refine Z.eqσ (τ := (zuX σ 43 (upd (zX σ 43) 3 (zX σ 43 3 + nI 1)))) rfl ?_
  refine Z.iret B Rt dX11_judge_25 (ty := .int) rfl rfl (by decide) (by decide) ?_
  exact ⟨rfl, rfl⟩

theorem t_K_told_1 {σ : zSt} (hl : Lay σ) {s : Int32} (hs : zOut s 8)  : Dt mX11_told [.ref 0, .int s] σ (some (.int ((-nI 1) - nI 1000))) (zuX σ 43 (upd (zX σ 43) 1 (zX σ 43 1 + nI 1))) := by
  refine Dt.of (by decide) (Nat.le_of_ble_eq_true rfl) fun κ B Rt => ?_
  show Z κ 0 0 σ 0 [(0, .ref 0), (1, .int s)] []
  refine Z.aload_n B dX11_told_0 (v := .ref 0) rfl rfl ?_
  refine Z.iload_n B dX11_told_1 (x := s) rfl ?_
  refine Z.callVI (σ := σ) B (M' := mX11_shelfAt) (as := [.int s]) (st := []) (v := .null) dX11_told_2 wX11_shelfAt iX11_shelfAt sX11_shelfAt kX11_59 (hl.n (k := 0) (by decide)) (hl.k (k := 0) (by decide)) (by decide) rfl rfl (t_X11_shelfAt_out (σ := σ) hl hs) rfl rfl (by decide) (by decide) (Nat.le_of_ble_eq_true rfl) (by decide) (by decide) ?_
  refine Z.astore_n B dX11_told_5 (by decide) rfl (L' := [(0, .ref 0), (1, .int s), (2, .null)]) rfl ?_
  refine Z.aload_n B dX11_told_6 (v := .null) rfl rfl ?_
  refine Z.ifnull_n B dX11_told_7 (tgt := 17) rfl ?_
  refine Z.aload_n B dX11_told_17 (v := .ref 0) rfl rfl ?_
  refine Z.aload_n B dX11_told_18 (v := .null) rfl rfl ?_
  refine Z.callSI (σ := σ) B (M' := mX11_whyNoRow) (as := [.null]) (st := [.ref 0]) (v := .int (nI 1)) dX11_told_19 wX11_whyNoRow iX11_whyNoRow kX11_75 (t_X11_whyNoRow_n (σ := σ)) rfl rfl (by decide) (by decide) (Nat.le_of_ble_eq_true rfl) (by decide) (by decide) ?_
  refine Z.callVI (σ := σ) B (M' := mX11_refuseFar) (as := [.int (nI 1)]) (st := []) (v := .int ((-nI 1) - nI 1000)) dX11_told_22 wX11_refuseFar iX11_refuseFar sX11_refuseFar kX11_221 (hl.n (k := 0) (by decide)) (hl.k (k := 0) (by decide)) (by decide) rfl rfl (t_X11_refuseFar (σ := σ) hl (b := 1) (by decide)) rfl rfl (by decide) (by decide) (Nat.le_of_ble_eq_true rfl) (by decide) (by decide) ?_
  refine Z.eqσ (τ := (zuX σ 43 (upd (zX σ 43) 1 (zX σ 43 1 + nI 1)))) rfl ?_
  refine Z.iret B Rt dX11_told_25 (ty := .int) rfl rfl (by decide) (by decide) ?_
  exact ⟨rfl, rfl⟩

theorem t_K_told_2 {σ : zSt} (hl : Lay σ) {s : Nat} (hs : s < 8) {i8 : Nat} (hh : zWa σ (2 + 2 * s) i8) : Dt mX11_told [.ref 0, .int (nI s)] σ (some (.int ((-nI 2) - nI 1000))) (zuX σ 43 (upd (zX σ 43) 2 (zX σ 43 2 + nI 1))) := by
  have hqs := (hl.shelf hs).2
  refine Dt.of (by decide) (Nat.le_of_ble_eq_true rfl) fun κ B Rt => ?_
  show Z κ 0 0 σ 0 [(0, .ref 0), (1, .int (nI s))] []
  refine Z.aload_n B dX11_told_0 (v := .ref 0) rfl rfl ?_
  refine Z.iload_n B dX11_told_1 (x := nI s) rfl ?_
  refine Z.callVI (σ := σ) B (M' := mX11_shelfAt) (as := [.int (nI s)]) (st := []) (v := .ref (2 + 2 * s)) dX11_told_2 wX11_shelfAt iX11_shelfAt sX11_shelfAt kX11_59 (hl.n (k := 0) (by decide)) (hl.k (k := 0) (by decide)) (by decide) rfl rfl (t_X11_shelfAt_in (σ := σ) hl hs) rfl rfl (by decide) (by decide) (Nat.le_of_ble_eq_true rfl) (by decide) (by decide) ?_
  refine Z.astore_n B dX11_told_5 (by decide) rfl (L' := [(0, .ref 0), (1, .int (nI s)), (2, .ref (2 + 2 * s))]) rfl ?_
  refine Z.aload_n B dX11_told_6 (v := .ref (2 + 2 * s)) rfl rfl ?_
  refine Z.ifnull_r B dX11_told_7 ?_
  refine Z.aload_n B dX11_told_10 (v := .ref (2 + 2 * s)) rfl rfl ?_
  refine Z.callVI (σ := σ) B (M' := mX6_holdsRow) (as := []) (st := []) (v := .int (nI 0)) dX11_told_11 wX6_holdsRow iX6_holdsRow sX6_holdsRow kX11_71 (Nat.lt_of_succ_lt hqs.1) hqs.2.1 (by decide) rfl rfl (t_X6_holdsRow_0 (σ := σ) hqs hh.1) rfl rfl (by decide) (by decide) (Nat.le_of_ble_eq_true rfl) (by decide) (by decide) ?_
  refine Z.if_neN B dX11_told_14 (tgt := 26) rfl (by omega) (fun h14 => by exfalso; first | omega | contradiction | simp_all) (fun h14 => ?_)
  refine Z.aload_n B dX11_told_17 (v := .ref 0) rfl rfl ?_
  refine Z.aload_n B dX11_told_18 (v := .ref (2 + 2 * s)) rfl rfl ?_
  refine Z.callSI (σ := σ) B (M' := mX11_whyNoRow) (as := [.ref (2 + 2 * s)]) (st := [.ref 0]) (v := .int (nI 2)) dX11_told_19 wX11_whyNoRow iX11_whyNoRow kX11_75 (t_X11_whyNoRow_w (σ := σ) hqs (Nat.lt_trans hh.2.2.2 (by decide)) hh.2.2.1) rfl rfl (by decide) (by decide) (Nat.le_of_ble_eq_true rfl) (by decide) (by decide) ?_
  refine Z.callVI (σ := σ) B (M' := mX11_refuseFar) (as := [.int (nI 2)]) (st := []) (v := .int ((-nI 2) - nI 1000)) dX11_told_22 wX11_refuseFar iX11_refuseFar sX11_refuseFar kX11_221 (hl.n (k := 0) (by decide)) (hl.k (k := 0) (by decide)) (by decide) rfl rfl (t_X11_refuseFar (σ := σ) hl (b := 2) (by decide)) rfl rfl (by decide) (by decide) (Nat.le_of_ble_eq_true rfl) (by decide) (by decide) ?_
  refine Z.eqσ (τ := (zuX σ 43 (upd (zX σ 43) 2 (zX σ 43 2 + nI 1)))) rfl ?_
  refine Z.iret B Rt dX11_told_25 (ty := .int) rfl rfl (by decide) (by decide) ?_
  exact ⟨rfl, rfl⟩

theorem t_K_told_3 {σ : zSt} (hl : Lay σ) {s : Nat} (hs : s < 8) (hh : zNo σ (2 + 2 * s)) : Dt mX11_told [.ref 0, .int (nI s)] σ (some (.int ((-nI 3) - nI 1000))) (zuX σ 43 (upd (zX σ 43) 3 (zX σ 43 3 + nI 1))) := by
  have hqs := (hl.shelf hs).2
  refine Dt.of (by decide) (Nat.le_of_ble_eq_true rfl) fun κ B Rt => ?_
  show Z κ 0 0 σ 0 [(0, .ref 0), (1, .int (nI s))] []
  refine Z.aload_n B dX11_told_0 (v := .ref 0) rfl rfl ?_
  refine Z.iload_n B dX11_told_1 (x := nI s) rfl ?_
  refine Z.callVI (σ := σ) B (M' := mX11_shelfAt) (as := [.int (nI s)]) (st := []) (v := .ref (2 + 2 * s)) dX11_told_2 wX11_shelfAt iX11_shelfAt sX11_shelfAt kX11_59 (hl.n (k := 0) (by decide)) (hl.k (k := 0) (by decide)) (by decide) rfl rfl (t_X11_shelfAt_in (σ := σ) hl hs) rfl rfl (by decide) (by decide) (Nat.le_of_ble_eq_true rfl) (by decide) (by decide) ?_
  refine Z.astore_n B dX11_told_5 (by decide) rfl (L' := [(0, .ref 0), (1, .int (nI s)), (2, .ref (2 + 2 * s))]) rfl ?_
  refine Z.aload_n B dX11_told_6 (v := .ref (2 + 2 * s)) rfl rfl ?_
  refine Z.ifnull_r B dX11_told_7 ?_
  refine Z.aload_n B dX11_told_10 (v := .ref (2 + 2 * s)) rfl rfl ?_
  refine Z.callVI (σ := σ) B (M' := mX6_holdsRow) (as := []) (st := []) (v := .int (nI 0)) dX11_told_11 wX6_holdsRow iX6_holdsRow sX6_holdsRow kX11_71 (Nat.lt_of_succ_lt hqs.1) hqs.2.1 (by decide) rfl rfl (t_X6_holdsRow_0 (σ := σ) hqs hh.1) rfl rfl (by decide) (by decide) (Nat.le_of_ble_eq_true rfl) (by decide) (by decide) ?_
  refine Z.if_neN B dX11_told_14 (tgt := 26) rfl (by omega) (fun h14 => by exfalso; first | omega | contradiction | simp_all) (fun h14 => ?_)
  refine Z.aload_n B dX11_told_17 (v := .ref 0) rfl rfl ?_
  refine Z.aload_n B dX11_told_18 (v := .ref (2 + 2 * s)) rfl rfl ?_
  refine Z.callSI (σ := σ) B (M' := mX11_whyNoRow) (as := [.ref (2 + 2 * s)]) (st := [.ref 0]) (v := .int (nI 3)) dX11_told_19 wX11_whyNoRow iX11_whyNoRow kX11_75 (t_X11_whyNoRow_0 (σ := σ) hqs hh.2.2) rfl rfl (by decide) (by decide) (Nat.le_of_ble_eq_true rfl) (by decide) (by decide) ?_
  refine Z.callVI (σ := σ) B (M' := mX11_refuseFar) (as := [.int (nI 3)]) (st := []) (v := .int ((-nI 3) - nI 1000)) dX11_told_22 wX11_refuseFar iX11_refuseFar sX11_refuseFar kX11_221 (hl.n (k := 0) (by decide)) (hl.k (k := 0) (by decide)) (by decide) rfl rfl (t_X11_refuseFar (σ := σ) hl (b := 3) (by decide)) rfl rfl (by decide) (by decide) (Nat.le_of_ble_eq_true rfl) (by decide) (by decide) ?_
  refine Z.eqσ (τ := (zuX σ 43 (upd (zX σ 43) 3 (zX σ 43 3 + nI 1)))) rfl ?_
  refine Z.iret B Rt dX11_told_25 (ty := .int) rfl rfl (by decide) (by decide) ?_
  exact ⟨rfl, rfl⟩

theorem t_K_set_5 {σ : zSt} (hl : Lay σ) {s : Nat} (hs : s < 8) {o m : Nat} (hh : zRw σ (2 + 2 * s) o m) {i : Int32} {v : Int64} (hi : zOut i m) : Dt mX11_set [.ref 0, .int (nI s), .int i, .long v] σ (some (.int (-nI 5))) (zuX σ 43 (upd (zX σ 43) 5 (zX σ 43 5 + nI 1))) := by
  have hqs := (hl.shelf hs).2
  refine Dt.of (by decide) (Nat.le_of_ble_eq_true rfl) fun κ B Rt => ?_
  show Z κ 0 0 σ 0 [(0, .ref 0), (1, .int (nI s)), (2, .int i), (3, .long v)] []
  refine Z.aload_n B dX11_set_0 (v := .ref 0) rfl rfl ?_
  refine Z.iload_n B dX11_set_1 (x := nI s) rfl ?_
  refine Z.callVI (σ := σ) B (M' := mX11_shelfAt) (as := [.int (nI s)]) (st := []) (v := .ref (2 + 2 * s)) dX11_set_2 wX11_shelfAt iX11_shelfAt sX11_shelfAt kX11_59 (hl.n (k := 0) (by decide)) (hl.k (k := 0) (by decide)) (by decide) rfl rfl (t_X11_shelfAt_in (σ := σ) hl hs) rfl rfl (by decide) (by decide) (Nat.le_of_ble_eq_true rfl) (by decide) (by decide) ?_
  refine Z.astore B dX11_set_5 (by decide) rfl (L' := [(0, .ref 0), (1, .int (nI s)), (2, .int i), (3, .long v), (5, .ref (2 + 2 * s))]) rfl ?_
  refine Z.aload B dX11_set_7 (v := .ref (2 + 2 * s)) rfl rfl ?_
  refine Z.ifnull_r B dX11_set_9 ?_
  refine Z.aload B dX11_set_12 (v := .ref (2 + 2 * s)) rfl rfl ?_
  refine Z.callVI (σ := σ) B (M' := mX6_holdsRow) (as := []) (st := []) (v := .int (nI 1)) dX11_set_14 wX6_holdsRow iX6_holdsRow sX6_holdsRow kX11_71 (Nat.lt_of_succ_lt hqs.1) hqs.2.1 (by decide) rfl rfl (t_X6_holdsRow_1 (σ := σ) hqs (Nat.lt_of_le_of_lt hh.2.1 (by decide)) hh.1) rfl rfl (by decide) (by decide) (Nat.le_of_ble_eq_true rfl) (by decide) (by decide) ?_
  refine Z.if_neN B dX11_set_17 (tgt := 30) rfl (by omega) (fun h17 => ?_) (fun h17 => by exfalso; first | omega | contradiction | simp_all)
  refine Z.aload B dX11_set_30 (v := .ref (2 + 2 * s)) rfl rfl ?_
  refine Z.iload_n B dX11_set_32 (x := i) rfl ?_
  refine Z.iconst B dX11_set_33 (v := nI 1) rfl ?_
  refine Z.callVI (σ := σ) B (M' := mX6_hasRun) (as := [.int i, .int (nI 1)]) (st := []) (v := .int (nI 0)) dX11_set_34 wX6_hasRun iX6_hasRun sX6_hasRun kX11_79 (Nat.lt_of_succ_lt hqs.1) hqs.2.1 (by decide) rfl rfl (t_X6_hasRun_out (σ := σ) hqs hh.2.2.1 hh.2.2.2.1 (n := 1) (zOut_run hi (by have := hh.2.2.2.1; omega)) (by decide)) rfl rfl (by decide) (by decide) (Nat.le_of_ble_eq_true rfl) (by decide) (by decide) ?_
  refine Z.if_neN B dX11_set_37 (tgt := 46) rfl (by omega) (fun h37 => by exfalso; first | omega | contradiction | simp_all) (fun h37 => ?_)
  refine Z.aload_n B dX11_set_40 (v := .ref 0) rfl rfl ?_
  refine Z.iconst B dX11_set_41 (v := nI 5) rfl ?_
  refine Z.callVI (σ := σ) B (M' := mX11_refuse) (as := [.int (nI 5)]) (st := []) (v := .int (-nI 5)) dX11_set_42 wX11_refuse iX11_refuse sX11_refuse kX11_63 (hl.n (k := 0) (by decide)) (hl.k (k := 0) (by decide)) (by decide) rfl rfl (t_X11_refuse (σ := σ) hl (b := 5) (by decide)) rfl rfl (by decide) (by decide) (Nat.le_of_ble_eq_true rfl) (by decide) (by decide) ?_
  refine Z.eqσ (τ := (zuX σ 43 (upd (zX σ 43) 5 (zX σ 43 5 + nI 1)))) rfl ?_
  refine Z.iret B Rt dX11_set_45 (ty := .int) rfl rfl (by decide) (by decide) ?_
  exact ⟨rfl, rfl⟩

theorem t_K_set_0 {σ : zSt} (hl : Lay σ) {s : Nat} (hs : s < 8) {o m : Nat} (hh : zRw σ (2 + 2 * s) o m) {i : Nat} {v : Int64} (hi : i < m) : Dt mX11_set [.ref 0, .int (nI s), .int (nI i), .long v] σ (some (.int (nI 1))) (zuY σ (2 + 2 * s + 1) (vp_updL (zY σ (2 + 2 * s + 1)) i (zlow o v))) := by
  have hqs := (hl.shelf hs).2
  refine Dt.of (by decide) (Nat.le_of_ble_eq_true rfl) fun κ B Rt => ?_
  show Z κ 0 0 σ 0 [(0, .ref 0), (1, .int (nI s)), (2, .int (nI i)), (3, .long v)] []
  refine Z.aload_n B dX11_set_0 (v := .ref 0) rfl rfl ?_
  refine Z.iload_n B dX11_set_1 (x := nI s) rfl ?_
  refine Z.callVI (σ := σ) B (M' := mX11_shelfAt) (as := [.int (nI s)]) (st := []) (v := .ref (2 + 2 * s)) dX11_set_2 wX11_shelfAt iX11_shelfAt sX11_shelfAt kX11_59 (hl.n (k := 0) (by decide)) (hl.k (k := 0) (by decide)) (by decide) rfl rfl (t_X11_shelfAt_in (σ := σ) hl hs) rfl rfl (by decide) (by decide) (Nat.le_of_ble_eq_true rfl) (by decide) (by decide) ?_
  refine Z.astore B dX11_set_5 (by decide) rfl (L' := [(0, .ref 0), (1, .int (nI s)), (2, .int (nI i)), (3, .long v), (5, .ref (2 + 2 * s))]) rfl ?_
  refine Z.aload B dX11_set_7 (v := .ref (2 + 2 * s)) rfl rfl ?_
  refine Z.ifnull_r B dX11_set_9 ?_
  refine Z.aload B dX11_set_12 (v := .ref (2 + 2 * s)) rfl rfl ?_
  refine Z.callVI (σ := σ) B (M' := mX6_holdsRow) (as := []) (st := []) (v := .int (nI 1)) dX11_set_14 wX6_holdsRow iX6_holdsRow sX6_holdsRow kX11_71 (Nat.lt_of_succ_lt hqs.1) hqs.2.1 (by decide) rfl rfl (t_X6_holdsRow_1 (σ := σ) hqs (Nat.lt_of_le_of_lt hh.2.1 (by decide)) hh.1) rfl rfl (by decide) (by decide) (Nat.le_of_ble_eq_true rfl) (by decide) (by decide) ?_
  refine Z.if_neN B dX11_set_17 (tgt := 30) rfl (by omega) (fun h17 => ?_) (fun h17 => by exfalso; first | omega | contradiction | simp_all)
  refine Z.aload B dX11_set_30 (v := .ref (2 + 2 * s)) rfl rfl ?_
  refine Z.iload_n B dX11_set_32 (x := nI i) rfl ?_
  refine Z.iconst B dX11_set_33 (v := nI 1) rfl ?_
  refine Z.callVI (σ := σ) B (M' := mX6_hasRun) (as := [.int (nI i), .int (nI 1)]) (st := []) (v := .int (nI 1)) dX11_set_34 wX6_hasRun iX6_hasRun sX6_hasRun kX11_79 (Nat.lt_of_succ_lt hqs.1) hqs.2.1 (by decide) rfl rfl (t_X6_hasRun_in (σ := σ) hqs hh.2.2.1 hh.2.2.2.1 (n := 1) (i := i) (by omega)) rfl rfl (by decide) (by decide) (Nat.le_of_ble_eq_true rfl) (by decide) (by decide) ?_
  refine Z.if_neN B dX11_set_37 (tgt := 46) rfl (by omega) (fun h37 => ?_) (fun h37 => by exfalso; first | omega | contradiction | simp_all)
  refine Z.aload B dX11_set_46 (v := .ref (2 + 2 * s)) rfl rfl ?_
  refine Z.iload_n B dX11_set_48 (x := nI i) rfl ?_
  refine Z.lload_n B dX11_set_49 (x := v) rfl ?_
  refine Z.callVN (σ := σ) B (M' := mX6_put) (as := [.int (nI i), .long v]) (st := []) dX11_set_50 wX6_put iX6_put sX6_put kX11_83 (Nat.lt_of_succ_lt hqs.1) hqs.2.1 (by decide) rfl rfl (t_X6_put (σ := σ) hqs hh.2.2.1 hh.2.2.2.1 hh.1 hh.2.1 hi) rfl rfl (by decide) (by decide) (Nat.le_of_ble_eq_true rfl) (by decide) (by decide) ?_
  refine Z.eqσ (τ := (zuY σ (2 + 2 * s + 1) (vp_updL (zY σ (2 + 2 * s + 1)) i (zlow o v)))) rfl ?_
  refine Z.iconst B dX11_set_53 (v := nI 1) rfl ?_
  refine Z.iret B Rt dX11_set_54 (ty := .int) rfl rfl (by decide) (by decide) ?_
  exact ⟨rfl, rfl⟩

theorem t_K_element_1 {σ : zSt} (hl : Lay σ) {s : Int32} (hs : zOut s 8) {i : Int32} : Dt mX11_element [.ref 0, .int s, .int i] σ (some (.long (0 : Int64))) σ := by
  refine Dt.of (by decide) (Nat.le_of_ble_eq_true rfl) fun κ B Rt => ?_
  show Z κ 0 0 σ 0 [(0, .ref 0), (1, .int s), (2, .int i)] []
  refine Z.aload_n B dX11_element_0 (v := .ref 0) rfl rfl ?_
  refine Z.iload_n B dX11_element_1 (x := s) rfl ?_
  refine Z.callVI (σ := σ) B (M' := mX11_shelfAt) (as := [.int s]) (st := []) (v := .null) dX11_element_2 wX11_shelfAt iX11_shelfAt sX11_shelfAt kX11_59 (hl.n (k := 0) (by decide)) (hl.k (k := 0) (by decide)) (by decide) rfl rfl (t_X11_shelfAt_out (σ := σ) hl hs) rfl rfl (by decide) (by decide) (Nat.le_of_ble_eq_true rfl) (by decide) (by decide) ?_
  refine Z.astore_n B dX11_element_5 (by decide) rfl (L' := [(0, .ref 0), (1, .int s), (2, .int i), (3, .null)]) rfl ?_
  refine Z.aload_n B dX11_element_6 (v := .null) rfl rfl ?_
  refine Z.ifnonnull_n B dX11_element_7 ?_
  refine Z.lconst B dX11_element_10 (v := (0 : Int64)) rfl ?_
  refine Z.goto B dX11_element_11 (tgt := 19) rfl ?_
  refine Z.lret B Rt dX11_element_19 rfl (by decide) (by decide) ?_
  exact ⟨rfl, rfl⟩

theorem t_K_element_n {σ : zSt} (hl : Lay σ) {s : Nat} (hs : s < 8) {i : Int32} (hi : i < 0) : Dt mX11_element [.ref 0, .int (nI s), .int i] σ (some (.long (0 : Int64))) σ := by
  have hqs := (hl.shelf hs).2
  refine Dt.of (by decide) (Nat.le_of_ble_eq_true rfl) fun κ B Rt => ?_
  show Z κ 0 0 σ 0 [(0, .ref 0), (1, .int (nI s)), (2, .int i)] []
  refine Z.aload_n B dX11_element_0 (v := .ref 0) rfl rfl ?_
  refine Z.iload_n B dX11_element_1 (x := nI s) rfl ?_
  refine Z.callVI (σ := σ) B (M' := mX11_shelfAt) (as := [.int (nI s)]) (st := []) (v := .ref (2 + 2 * s)) dX11_element_2 wX11_shelfAt iX11_shelfAt sX11_shelfAt kX11_59 (hl.n (k := 0) (by decide)) (hl.k (k := 0) (by decide)) (by decide) rfl rfl (t_X11_shelfAt_in (σ := σ) hl hs) rfl rfl (by decide) (by decide) (Nat.le_of_ble_eq_true rfl) (by decide) (by decide) ?_
  refine Z.astore_n B dX11_element_5 (by decide) rfl (L' := [(0, .ref 0), (1, .int (nI s)), (2, .int i), (3, .ref (2 + 2 * s))]) rfl ?_
  refine Z.aload_n B dX11_element_6 (v := .ref (2 + 2 * s)) rfl rfl ?_
  refine Z.ifnonnull_r B dX11_element_7 (tgt := 14) rfl ?_
  refine Z.aload_n B dX11_element_14 (v := .ref (2 + 2 * s)) rfl rfl ?_
  refine Z.iload_n B dX11_element_15 (x := i) rfl ?_
  refine Z.callVI (σ := σ) B (M' := mX6_longAt) (as := [.int i]) (st := []) (v := .long (0 : Int64)) dX11_element_16 wX6_longAt iX6_longAt sX6_longAt kX11_98 (Nat.lt_of_succ_lt hqs.1) hqs.2.1 (by decide) rfl rfl (t_X6_longAt_neg (σ := σ) hqs hi) rfl rfl (by decide) (by decide) (Nat.le_of_ble_eq_true rfl) (by decide) (by decide) ?_
  refine Z.lret B Rt dX11_element_19 rfl (by decide) (by decide) ?_
  exact ⟨rfl, rfl⟩

theorem t_K_element_f {σ : zSt} (hl : Lay σ) {s : Nat} (hs : s < 8) {m i : Nat} (hm : zX σ (2 + 2 * s) 2 = nI m) (hm160 : m ≤ 160) (hi : m ≤ i) (hi3 : i < 2 ^ 31) : Dt mX11_element [.ref 0, .int (nI s), .int (nI i)] σ (some (.long (0 : Int64))) σ := by
  have hqs := (hl.shelf hs).2
  refine Dt.of (by decide) (Nat.le_of_ble_eq_true rfl) fun κ B Rt => ?_
  show Z κ 0 0 σ 0 [(0, .ref 0), (1, .int (nI s)), (2, .int (nI i))] []
  refine Z.aload_n B dX11_element_0 (v := .ref 0) rfl rfl ?_
  refine Z.iload_n B dX11_element_1 (x := nI s) rfl ?_
  refine Z.callVI (σ := σ) B (M' := mX11_shelfAt) (as := [.int (nI s)]) (st := []) (v := .ref (2 + 2 * s)) dX11_element_2 wX11_shelfAt iX11_shelfAt sX11_shelfAt kX11_59 (hl.n (k := 0) (by decide)) (hl.k (k := 0) (by decide)) (by decide) rfl rfl (t_X11_shelfAt_in (σ := σ) hl hs) rfl rfl (by decide) (by decide) (Nat.le_of_ble_eq_true rfl) (by decide) (by decide) ?_
  refine Z.astore_n B dX11_element_5 (by decide) rfl (L' := [(0, .ref 0), (1, .int (nI s)), (2, .int (nI i)), (3, .ref (2 + 2 * s))]) rfl ?_
  refine Z.aload_n B dX11_element_6 (v := .ref (2 + 2 * s)) rfl rfl ?_
  refine Z.ifnonnull_r B dX11_element_7 (tgt := 14) rfl ?_
  refine Z.aload_n B dX11_element_14 (v := .ref (2 + 2 * s)) rfl rfl ?_
  refine Z.iload_n B dX11_element_15 (x := nI i) rfl ?_
  refine Z.callVI (σ := σ) B (M' := mX6_longAt) (as := [.int (nI i)]) (st := []) (v := .long (0 : Int64)) dX11_element_16 wX6_longAt iX6_longAt sX6_longAt kX11_98 (Nat.lt_of_succ_lt hqs.1) hqs.2.1 (by decide) rfl rfl (t_X6_longAt_far (σ := σ) hqs hm hm160 hi hi3) rfl rfl (by decide) (by decide) (Nat.le_of_ble_eq_true rfl) (by decide) (by decide) ?_
  refine Z.lret B Rt dX11_element_19 rfl (by decide) (by decide) ?_
  exact ⟨rfl, rfl⟩

theorem t_K_element_0 {σ : zSt} (hl : Lay σ) {s : Nat} (hs : s < 8) {m i : Nat} (hm : zX σ (2 + 2 * s) 2 = nI m) (hm160 : m ≤ 160) (hi : i < m) : Dt mX11_element [.ref 0, .int (nI s), .int (nI i)] σ (some (.long (zY σ (2 + 2 * s + 1) i))) σ := by
  have hqs := (hl.shelf hs).2
  refine Dt.of (by decide) (Nat.le_of_ble_eq_true rfl) fun κ B Rt => ?_
  show Z κ 0 0 σ 0 [(0, .ref 0), (1, .int (nI s)), (2, .int (nI i))] []
  refine Z.aload_n B dX11_element_0 (v := .ref 0) rfl rfl ?_
  refine Z.iload_n B dX11_element_1 (x := nI s) rfl ?_
  refine Z.callVI (σ := σ) B (M' := mX11_shelfAt) (as := [.int (nI s)]) (st := []) (v := .ref (2 + 2 * s)) dX11_element_2 wX11_shelfAt iX11_shelfAt sX11_shelfAt kX11_59 (hl.n (k := 0) (by decide)) (hl.k (k := 0) (by decide)) (by decide) rfl rfl (t_X11_shelfAt_in (σ := σ) hl hs) rfl rfl (by decide) (by decide) (Nat.le_of_ble_eq_true rfl) (by decide) (by decide) ?_
  refine Z.astore_n B dX11_element_5 (by decide) rfl (L' := [(0, .ref 0), (1, .int (nI s)), (2, .int (nI i)), (3, .ref (2 + 2 * s))]) rfl ?_
  refine Z.aload_n B dX11_element_6 (v := .ref (2 + 2 * s)) rfl rfl ?_
  refine Z.ifnonnull_r B dX11_element_7 (tgt := 14) rfl ?_
  refine Z.aload_n B dX11_element_14 (v := .ref (2 + 2 * s)) rfl rfl ?_
  refine Z.iload_n B dX11_element_15 (x := nI i) rfl ?_
  refine Z.callVI (σ := σ) B (M' := mX6_longAt) (as := [.int (nI i)]) (st := []) (v := .long (zY σ (2 + 2 * s + 1) i)) dX11_element_16 wX6_longAt iX6_longAt sX6_longAt kX11_98 (Nat.lt_of_succ_lt hqs.1) hqs.2.1 (by decide) rfl rfl (t_X6_longAt_in (σ := σ) hqs hm hm160 hi) rfl rfl (by decide) (by decide) (Nat.le_of_ble_eq_true rfl) (by decide) (by decide) ?_
  refine Z.lret B Rt dX11_element_19 rfl (by decide) (by decide) ?_
  exact ⟨rfl, rfl⟩

theorem t_K_show_1 {σ : zSt} (hl : Lay σ) {s : Int32} (hs : zOut s 8) {i : Int32} : Dt mX11_show [.ref 0, .int s, .int i] σ (some (.int (-nI 1))) (zuX σ 43 (upd (zX σ 43) 1 (zX σ 43 1 + nI 1))) := by
  refine Dt.of (by decide) (Nat.le_of_ble_eq_true rfl) fun κ B Rt => ?_
  show Z κ 0 0 σ 0 [(0, .ref 0), (1, .int s), (2, .int i)] []
  refine Z.aload_n B dX11_show_0 (v := .ref 0) rfl rfl ?_
  refine Z.iload_n B dX11_show_1 (x := s) rfl ?_
  refine Z.callVI (σ := σ) B (M' := mX11_shelfAt) (as := [.int s]) (st := []) (v := .null) dX11_show_2 wX11_shelfAt iX11_shelfAt sX11_shelfAt kX11_59 (hl.n (k := 0) (by decide)) (hl.k (k := 0) (by decide)) (by decide) rfl rfl (t_X11_shelfAt_out (σ := σ) hl hs) rfl rfl (by decide) (by decide) (Nat.le_of_ble_eq_true rfl) (by decide) (by decide) ?_
  refine Z.astore_n B dX11_show_5 (by decide) rfl (L' := [(0, .ref 0), (1, .int s), (2, .int i), (3, .null)]) rfl ?_
  refine Z.aload_n B dX11_show_6 (v := .null) rfl rfl ?_
  refine Z.ifnull_n B dX11_show_7 (tgt := 26) rfl ?_
  refine Z.aload_n B dX11_show_26 (v := .ref 0) rfl rfl ?_
  refine Z.iconst B dX11_show_27 (v := nI 1) rfl ?_
  refine Z.callVI (σ := σ) B (M' := mX11_refuse) (as := [.int (nI 1)]) (st := []) (v := .int (-nI 1)) dX11_show_28 wX11_refuse iX11_refuse sX11_refuse kX11_63 (hl.n (k := 0) (by decide)) (hl.k (k := 0) (by decide)) (by decide) rfl rfl (t_X11_refuse (σ := σ) hl (b := 1) (by decide)) rfl rfl (by decide) (by decide) (Nat.le_of_ble_eq_true rfl) (by decide) (by decide) ?_
  refine Z.eqσ (τ := (zuX σ 43 (upd (zX σ 43) 1 (zX σ 43 1 + nI 1)))) rfl ?_
  refine Z.iret B Rt dX11_show_31 (ty := .int) rfl rfl (by decide) (by decide) ?_
  exact ⟨rfl, rfl⟩

theorem t_K_show_2 {σ : zSt} (hl : Lay σ) {n a y : Nat} (H : zHd σ n a y) {s : Nat} (hs : s < 8) {i : Int32} (h1 : ¬ i = (-1)) (hi : zOut i y) : Dt mX11_show [.ref 0, .int (nI s), .int i] σ (some (.int (-nI 1))) (zuX σ 43 (upd (zX σ 43) 1 (zX σ 43 1 + nI 1))) := by
  have hqs := (hl.shelf hs).2
  refine Dt.of (by decide) (Nat.le_of_ble_eq_true rfl) fun κ B Rt => ?_
  show Z κ 0 0 σ 0 [(0, .ref 0), (1, .int (nI s)), (2, .int i)] []
  refine Z.aload_n B dX11_show_0 (v := .ref 0) rfl rfl ?_
  refine Z.iload_n B dX11_show_1 (x := nI s) rfl ?_
  refine Z.callVI (σ := σ) B (M' := mX11_shelfAt) (as := [.int (nI s)]) (st := []) (v := .ref (2 + 2 * s)) dX11_show_2 wX11_shelfAt iX11_shelfAt sX11_shelfAt kX11_59 (hl.n (k := 0) (by decide)) (hl.k (k := 0) (by decide)) (by decide) rfl rfl (t_X11_shelfAt_in (σ := σ) hl hs) rfl rfl (by decide) (by decide) (Nat.le_of_ble_eq_true rfl) (by decide) (by decide) ?_
  refine Z.astore_n B dX11_show_5 (by decide) rfl (L' := [(0, .ref 0), (1, .int (nI s)), (2, .int i), (3, .ref (2 + 2 * s))]) rfl ?_
  refine Z.aload_n B dX11_show_6 (v := .ref (2 + 2 * s)) rfl rfl ?_
  refine Z.ifnull_r B dX11_show_7 ?_
  refine Z.iload_n B dX11_show_10 (x := i) rfl ?_
  refine Z.iconst B dX11_show_11 (v := (-1)) rfl ?_
  refine Z.icmp_eq B dX11_show_12 (tgt := 32) rfl (fun h12 => by exfalso; first | omega | contradiction | simp_all) (fun h12 => ?_)
  refine Z.aload_n B dX11_show_15 (v := .ref 0) rfl rfl ?_
  refine Z.getR (σ := σ) B fX11_28_11 dX11_show_16 (hl.n (k := 0) (by decide)) (hl.k (k := 0) (by decide)) (by decide) (j := 20) (hl.r (k := 0) (f := 2) (by decide) (by decide)) ?_
  refine Z.iload_n B dX11_show_19 (x := i) rfl ?_
  refine Z.callVI (σ := σ) B (M' := mX1_wayAt) (as := [.int i]) (st := []) (v := .null) dX11_show_20 wX1_wayAt iX1_wayAt sX1_wayAt kX11_102 (hl.n (k := 20) (by decide)) (hl.k (k := 20) (by decide)) (by decide) rfl rfl (t_X1_wayAt_out (σ := σ) H hi) rfl rfl (by decide) (by decide) (Nat.le_of_ble_eq_true rfl) (by decide) (by decide) ?_
  refine Z.ifnonnull_n B dX11_show_23 ?_
  refine Z.aload_n B dX11_show_26 (v := .ref 0) rfl rfl ?_
  refine Z.iconst B dX11_show_27 (v := nI 1) rfl ?_
  refine Z.callVI (σ := σ) B (M' := mX11_refuse) (as := [.int (nI 1)]) (st := []) (v := .int (-nI 1)) dX11_show_28 wX11_refuse iX11_refuse sX11_refuse kX11_63 (hl.n (k := 0) (by decide)) (hl.k (k := 0) (by decide)) (by decide) rfl rfl (t_X11_refuse (σ := σ) hl (b := 1) (by decide)) rfl rfl (by decide) (by decide) (Nat.le_of_ble_eq_true rfl) (by decide) (by decide) ?_
  refine Z.eqσ (τ := (zuX σ 43 (upd (zX σ 43) 1 (zX σ 43 1 + nI 1)))) rfl ?_
  refine Z.iret B Rt dX11_show_31 (ty := .int) rfl rfl (by decide) (by decide) ?_
  exact ⟨rfl, rfl⟩

theorem t_K_show_3 {σ : zSt} (hl : Lay σ) {s : Nat} (hs : s < 8)  : Dt mX11_show [.ref 0, .int (nI s), .int (-1)] σ (some (.int (nI 0))) (zuX σ (2 + 2 * s) (upd (upd (upd (zX σ (2 + 2 * s)) 3 (-1)) 1 (-1)) 2 (nI 0))) := by
  have hqs := (hl.shelf hs).2
  refine Dt.of (by decide) (Nat.le_of_ble_eq_true rfl) fun κ B Rt => ?_
  show Z κ 0 0 σ 0 [(0, .ref 0), (1, .int (nI s)), (2, .int (-1))] []
  refine Z.aload_n B dX11_show_0 (v := .ref 0) rfl rfl ?_
  refine Z.iload_n B dX11_show_1 (x := nI s) rfl ?_
  refine Z.callVI (σ := σ) B (M' := mX11_shelfAt) (as := [.int (nI s)]) (st := []) (v := .ref (2 + 2 * s)) dX11_show_2 wX11_shelfAt iX11_shelfAt sX11_shelfAt kX11_59 (hl.n (k := 0) (by decide)) (hl.k (k := 0) (by decide)) (by decide) rfl rfl (t_X11_shelfAt_in (σ := σ) hl hs) rfl rfl (by decide) (by decide) (Nat.le_of_ble_eq_true rfl) (by decide) (by decide) ?_
  refine Z.astore_n B dX11_show_5 (by decide) rfl (L' := [(0, .ref 0), (1, .int (nI s)), (2, .int (-1)), (3, .ref (2 + 2 * s))]) rfl ?_
  refine Z.aload_n B dX11_show_6 (v := .ref (2 + 2 * s)) rfl rfl ?_
  refine Z.ifnull_r B dX11_show_7 ?_
  refine Z.iload_n B dX11_show_10 (x := (-1)) rfl ?_
  refine Z.iconst B dX11_show_11 (v := (-1)) rfl ?_
  refine Z.icmp_eq B dX11_show_12 (tgt := 32) rfl (fun h12 => ?_) (fun h12 => by exfalso; first | omega | contradiction | simp_all)
  refine Z.aload_n B dX11_show_32 (v := .ref (2 + 2 * s)) rfl rfl ?_
  refine Z.iload_n B dX11_show_33 (x := (-1)) rfl ?_
  refine Z.callVN (σ := σ) B (M' := mX6_holdWay) (as := [.int (-1)]) (st := []) dX11_show_34 wX6_holdWay iX6_holdWay sX6_holdWay kX11_106 (Nat.lt_of_succ_lt hqs.1) hqs.2.1 (by decide) rfl rfl (t_X6_holdWay (σ := σ) hqs) rfl rfl (by decide) (by decide) (Nat.le_of_ble_eq_true rfl) (by decide) (by decide) ?_
  refine Z.eqσ (τ := (zuX σ (2 + 2 * s) (upd (upd (upd (zX σ (2 + 2 * s)) 3 (-1)) 1 (-1)) 2 (nI 0)))) rfl ?_
  refine Z.iload_n B dX11_show_37 (x := (-1)) rfl ?_
  refine Z.iconst B dX11_show_38 (v := (-1)) rfl ?_
  refine Z.icmp_ne B dX11_show_39 (tgt := 46) rfl (fun h39 => by exfalso; first | omega | contradiction | simp_all) (fun h39 => ?_)
  refine Z.iconst B dX11_show_42 (v := nI 0) rfl ?_
  refine Z.goto B dX11_show_43 (tgt := 47) rfl ?_
  refine Z.iret B Rt dX11_show_47 (ty := .int) rfl rfl (by decide) (by decide) ?_
  exact ⟨rfl, rfl⟩

theorem t_K_show_0 {σ : zSt} (hl : Lay σ) {n a y : Nat} (H : zHd σ n a y) {s : Nat} (hs : s < 8) {i q : Nat} (hi : i < y) (hq : zR σ 24 i = some q) : Dt mX11_show [.ref 0, .int (nI s), .int (nI i)] σ (some (.int (nI 1))) (zuX σ (2 + 2 * s) (upd (upd (upd (zX σ (2 + 2 * s)) 3 (nI i)) 1 (-1)) 2 (nI 0))) := by
  have hqs := (hl.shelf hs).2
  refine Dt.of (by decide) (Nat.le_of_ble_eq_true rfl) fun κ B Rt => ?_
  show Z κ 0 0 σ 0 [(0, .ref 0), (1, .int (nI s)), (2, .int (nI i))] []
  have hy8 := H.2.2.2.2.2.2
  refine Z.aload_n B dX11_show_0 (v := .ref 0) rfl rfl ?_
  refine Z.iload_n B dX11_show_1 (x := nI s) rfl ?_
  refine Z.callVI (σ := σ) B (M' := mX11_shelfAt) (as := [.int (nI s)]) (st := []) (v := .ref (2 + 2 * s)) dX11_show_2 wX11_shelfAt iX11_shelfAt sX11_shelfAt kX11_59 (hl.n (k := 0) (by decide)) (hl.k (k := 0) (by decide)) (by decide) rfl rfl (t_X11_shelfAt_in (σ := σ) hl hs) rfl rfl (by decide) (by decide) (Nat.le_of_ble_eq_true rfl) (by decide) (by decide) ?_
  refine Z.astore_n B dX11_show_5 (by decide) rfl (L' := [(0, .ref 0), (1, .int (nI s)), (2, .int (nI i)), (3, .ref (2 + 2 * s))]) rfl ?_
  refine Z.aload_n B dX11_show_6 (v := .ref (2 + 2 * s)) rfl rfl ?_
  refine Z.ifnull_r B dX11_show_7 ?_
  refine Z.iload_n B dX11_show_10 (x := nI i) rfl ?_
  refine Z.iconst B dX11_show_11 (v := (-1)) rfl ?_
  refine Z.icmp_eq B dX11_show_12 (tgt := 32) rfl (fun h12 => absurd h12 (zm1 (by omega))) (fun h12 => ?_)
  refine Z.aload_n B dX11_show_15 (v := .ref 0) rfl rfl ?_
  refine Z.getR (σ := σ) B fX11_28_11 dX11_show_16 (hl.n (k := 0) (by decide)) (hl.k (k := 0) (by decide)) (by decide) (j := 20) (hl.r (k := 0) (f := 2) (by decide) (by decide)) ?_
  refine Z.iload_n B dX11_show_19 (x := nI i) rfl ?_
  refine Z.callVI (σ := σ) B (M' := mX1_wayAt) (as := [.int (nI i)]) (st := []) (v := .ref q) dX11_show_20 wX1_wayAt iX1_wayAt sX1_wayAt kX11_102 (hl.n (k := 20) (by decide)) (hl.k (k := 20) (by decide)) (by decide) rfl rfl (t_X1_wayAt_in (σ := σ) H hi hq) rfl rfl (by decide) (by decide) (Nat.le_of_ble_eq_true rfl) (by decide) (by decide) ?_
  refine Z.ifnonnull_r B dX11_show_23 (tgt := 32) rfl ?_
  refine Z.aload_n B dX11_show_32 (v := .ref (2 + 2 * s)) rfl rfl ?_
  refine Z.iload_n B dX11_show_33 (x := nI i) rfl ?_
  refine Z.callVN (σ := σ) B (M' := mX6_holdWay) (as := [.int (nI i)]) (st := []) dX11_show_34 wX6_holdWay iX6_holdWay sX6_holdWay kX11_106 (Nat.lt_of_succ_lt hqs.1) hqs.2.1 (by decide) rfl rfl (t_X6_holdWay (σ := σ) hqs) rfl rfl (by decide) (by decide) (Nat.le_of_ble_eq_true rfl) (by decide) (by decide) ?_
  refine Z.eqσ (τ := (zuX σ (2 + 2 * s) (upd (upd (upd (zX σ (2 + 2 * s)) 3 (nI i)) 1 (-1)) 2 (nI 0)))) rfl ?_
  refine Z.iload_n B dX11_show_37 (x := nI i) rfl ?_
  refine Z.iconst B dX11_show_38 (v := (-1)) rfl ?_
  refine Z.icmp_ne B dX11_show_39 (tgt := 46) rfl (fun h39 => ?_) (fun h39 => absurd h39 (zm1 (by omega)))
  refine Z.iconst B dX11_show_46 (v := nI 1) rfl ?_
  refine Z.iret B Rt dX11_show_47 (ty := .int) rfl rfl (by decide) (by decide) ?_
  exact ⟨rfl, rfl⟩

theorem t_K_holds_1 {σ : zSt} (hl : Lay σ) {s : Int32} (hs : zOut s 8)  : Dt mX11_holds [.ref 0, .int s] σ (some (.int (-1))) σ := by
  refine Dt.of (by decide) (Nat.le_of_ble_eq_true rfl) fun κ B Rt => ?_
  show Z κ 0 0 σ 0 [(0, .ref 0), (1, .int s)] []
  refine Z.aload_n B dX11_holds_0 (v := .ref 0) rfl rfl ?_
  refine Z.iload_n B dX11_holds_1 (x := s) rfl ?_
  refine Z.callVI (σ := σ) B (M' := mX11_shelfAt) (as := [.int s]) (st := []) (v := .null) dX11_holds_2 wX11_shelfAt iX11_shelfAt sX11_shelfAt kX11_59 (hl.n (k := 0) (by decide)) (hl.k (k := 0) (by decide)) (by decide) rfl rfl (t_X11_shelfAt_out (σ := σ) hl hs) rfl rfl (by decide) (by decide) (Nat.le_of_ble_eq_true rfl) (by decide) (by decide) ?_
  refine Z.astore_n B dX11_holds_5 (by decide) rfl (L' := [(0, .ref 0), (1, .int s), (2, .null)]) rfl ?_
  refine Z.aload_n B dX11_holds_6 (v := .null) rfl rfl ?_
  refine Z.ifnonnull_n B dX11_holds_7 ?_
  refine Z.iconst B dX11_holds_10 (v := (-1)) rfl ?_
  refine Z.iret B Rt dX11_holds_11 (ty := .int) rfl rfl (by decide) (by decide) ?_
  exact ⟨rfl, rfl⟩

theorem t_K_holds_r {σ : zSt} (hl : Lay σ) {s : Nat} (hs : s < 8) {o m : Nat} (hh : zRw σ (2 + 2 * s) o m) : Dt mX11_holds [.ref 0, .int (nI s)] σ (some (.int (nI (100 + o)))) σ := by
  have hqs := (hl.shelf hs).2
  refine Dt.of (by decide) (Nat.le_of_ble_eq_true rfl) fun κ B Rt => ?_
  show Z κ 0 0 σ 0 [(0, .ref 0), (1, .int (nI s))] []
  refine Z.aload_n B dX11_holds_0 (v := .ref 0) rfl rfl ?_
  refine Z.iload_n B dX11_holds_1 (x := nI s) rfl ?_
  refine Z.callVI (σ := σ) B (M' := mX11_shelfAt) (as := [.int (nI s)]) (st := []) (v := .ref (2 + 2 * s)) dX11_holds_2 wX11_shelfAt iX11_shelfAt sX11_shelfAt kX11_59 (hl.n (k := 0) (by decide)) (hl.k (k := 0) (by decide)) (by decide) rfl rfl (t_X11_shelfAt_in (σ := σ) hl hs) rfl rfl (by decide) (by decide) (Nat.le_of_ble_eq_true rfl) (by decide) (by decide) ?_
  refine Z.astore_n B dX11_holds_5 (by decide) rfl (L' := [(0, .ref 0), (1, .int (nI s)), (2, .ref (2 + 2 * s))]) rfl ?_
  refine Z.aload_n B dX11_holds_6 (v := .ref (2 + 2 * s)) rfl rfl ?_
  refine Z.ifnonnull_r B dX11_holds_7 (tgt := 12) rfl ?_
  refine Z.aload_n B dX11_holds_12 (v := .ref (2 + 2 * s)) rfl rfl ?_
  refine Z.callVI (σ := σ) B (M' := mX6_holdsRow) (as := []) (st := []) (v := .int (nI 1)) dX11_holds_13 wX6_holdsRow iX6_holdsRow sX6_holdsRow kX11_71 (Nat.lt_of_succ_lt hqs.1) hqs.2.1 (by decide) rfl rfl (t_X6_holdsRow_1 (σ := σ) hqs (Nat.lt_of_le_of_lt hh.2.1 (by decide)) hh.1) rfl rfl (by decide) (by decide) (Nat.le_of_ble_eq_true rfl) (by decide) (by decide) ?_
  refine Z.if_eqN B dX11_holds_16 (tgt := 29) rfl (by omega) (fun h16 => by exfalso; first | omega | contradiction | simp_all) (fun h16 => ?_)
  refine Z.bipush B dX11_holds_19 (v := nI 100) rfl ?_
  refine Z.aload_n B dX11_holds_21 (v := .ref (2 + 2 * s)) rfl rfl ?_
  refine Z.callVI (σ := σ) B (M' := mX6_sortHeld) (as := []) (st := [.int (nI 100)]) (v := .int (zX σ (2 + 2 * s) 1)) dX11_holds_22 wX6_sortHeld iX6_sortHeld sX6_sortHeld kX11_110 (Nat.lt_of_succ_lt hqs.1) hqs.2.1 (by decide) rfl rfl (t_X6_sortHeld (σ := σ) hqs) rfl rfl (by decide) (by decide) (Nat.le_of_ble_eq_true rfl) (by decide) (by decide) ?_
  refine Z.iaddv B dX11_holds_25 (v := nI (100 + o)) (by rw [hh.1, nI_add]) ?_
  refine Z.goto B dX11_holds_26 (tgt := 33) rfl ?_
  refine Z.iret B Rt dX11_holds_33 (ty := .int) rfl rfl (by decide) (by decide) ?_
  exact ⟨rfl, rfl⟩

theorem t_K_holds_w {σ : zSt} (hl : Lay σ) {s : Nat} (hs : s < 8) (h1 : zX σ (2 + 2 * s) 1 = (-1)) : Dt mX11_holds [.ref 0, .int (nI s)] σ (some (.int (zX σ (2 + 2 * s) 3))) σ := by
  have hqs := (hl.shelf hs).2
  refine Dt.of (by decide) (Nat.le_of_ble_eq_true rfl) fun κ B Rt => ?_
  show Z κ 0 0 σ 0 [(0, .ref 0), (1, .int (nI s))] []
  refine Z.aload_n B dX11_holds_0 (v := .ref 0) rfl rfl ?_
  refine Z.iload_n B dX11_holds_1 (x := nI s) rfl ?_
  refine Z.callVI (σ := σ) B (M' := mX11_shelfAt) (as := [.int (nI s)]) (st := []) (v := .ref (2 + 2 * s)) dX11_holds_2 wX11_shelfAt iX11_shelfAt sX11_shelfAt kX11_59 (hl.n (k := 0) (by decide)) (hl.k (k := 0) (by decide)) (by decide) rfl rfl (t_X11_shelfAt_in (σ := σ) hl hs) rfl rfl (by decide) (by decide) (Nat.le_of_ble_eq_true rfl) (by decide) (by decide) ?_
  refine Z.astore_n B dX11_holds_5 (by decide) rfl (L' := [(0, .ref 0), (1, .int (nI s)), (2, .ref (2 + 2 * s))]) rfl ?_
  refine Z.aload_n B dX11_holds_6 (v := .ref (2 + 2 * s)) rfl rfl ?_
  refine Z.ifnonnull_r B dX11_holds_7 (tgt := 12) rfl ?_
  refine Z.aload_n B dX11_holds_12 (v := .ref (2 + 2 * s)) rfl rfl ?_
  refine Z.callVI (σ := σ) B (M' := mX6_holdsRow) (as := []) (st := []) (v := .int (nI 0)) dX11_holds_13 wX6_holdsRow iX6_holdsRow sX6_holdsRow kX11_71 (Nat.lt_of_succ_lt hqs.1) hqs.2.1 (by decide) rfl rfl (t_X6_holdsRow_0 (σ := σ) hqs h1) rfl rfl (by decide) (by decide) (Nat.le_of_ble_eq_true rfl) (by decide) (by decide) ?_
  refine Z.if_eqN B dX11_holds_16 (tgt := 29) rfl (by omega) (fun h16 => ?_) (fun h16 => by exfalso; first | omega | contradiction | simp_all)
  refine Z.aload_n B dX11_holds_29 (v := .ref (2 + 2 * s)) rfl rfl ?_
  refine Z.callVI (σ := σ) B (M' := mX6_wayHeld) (as := []) (st := []) (v := .int (zX σ (2 + 2 * s) 3)) dX11_holds_30 wX6_wayHeld iX6_wayHeld sX6_wayHeld kX11_114 (Nat.lt_of_succ_lt hqs.1) hqs.2.1 (by decide) rfl rfl (t_X6_wayHeld (σ := σ) hqs) rfl rfl (by decide) (by decide) (Nat.le_of_ble_eq_true rfl) (by decide) (by decide) ?_
  refine Z.iret B Rt dX11_holds_33 (ty := .int) rfl rfl (by decide) (by decide) ?_
  exact ⟨rfl, rfl⟩

theorem t_K_comerOf_1 {σ : zSt} (hl : Lay σ) {n a y : Nat} (H : zHd σ n a y) {c : Int32} (hc : zOut c n) {w : Int32} : Dt mX11_comerOf [.ref 0, .int c, .int w] σ (some (.int (-nI 5))) (zuX σ 43 (upd (zX σ 43) 5 (zX σ 43 5 + nI 1))) := by
  obtain ⟨-, hn, hn8, ha, ha4, hy, hy8⟩ := id H
  refine Dt.of (by decide) (Nat.le_of_ble_eq_true rfl) fun κ B Rt => ?_
  show Z κ 0 0 σ 0 [(0, .ref 0), (1, .int c), (2, .int w)] []
  refine Z.aload_n B dX11_comerOf_0 (v := .ref 0) rfl rfl ?_
  refine Z.getR (σ := σ) B fX11_28_11 dX11_comerOf_1 (hl.n (k := 0) (by decide)) (hl.k (k := 0) (by decide)) (by decide) (j := 20) (hl.r (k := 0) (f := 2) (by decide) (by decide)) ?_
  refine Z.iload_n B dX11_comerOf_4 (x := c) rfl ?_
  refine Z.callVI (σ := σ) B (M' := mX1_hasComer) (as := [.int c]) (st := []) (v := .int (nI 0)) dX11_comerOf_5 wX1_hasComer iX1_hasComer sX1_hasComer kX11_152 (hl.n (k := 20) (by decide)) (hl.k (k := 20) (by decide)) (by decide) rfl rfl (t_X1_hasComer_out (σ := σ) H hc) rfl rfl (by decide) (by decide) (Nat.le_of_ble_eq_true rfl) (by decide) (by decide) ?_
  refine Z.if_eqN B dX11_comerOf_8 (tgt := 21) rfl (by omega) (fun h8 => ?_) (fun h8 => by exfalso; first | omega | contradiction | simp_all)
  refine Z.aload_n B dX11_comerOf_21 (v := .ref 0) rfl rfl ?_
  refine Z.iconst B dX11_comerOf_22 (v := nI 5) rfl ?_
  refine Z.callVI (σ := σ) B (M' := mX11_refuse) (as := [.int (nI 5)]) (st := []) (v := .int (-nI 5)) dX11_comerOf_23 wX11_refuse iX11_refuse sX11_refuse kX11_63 (hl.n (k := 0) (by decide)) (hl.k (k := 0) (by decide)) (by decide) rfl rfl (t_X11_refuse (σ := σ) hl (b := 5) (by decide)) rfl rfl (by decide) (by decide) (Nat.le_of_ble_eq_true rfl) (by decide) (by decide) ?_
  refine Z.eqσ (τ := (zuX σ 43 (upd (zX σ 43) 5 (zX σ 43 5 + nI 1)))) rfl ?_
  refine Z.iret B Rt dX11_comerOf_26 (ty := .int) rfl rfl (by decide) (by decide) ?_
  exact ⟨rfl, rfl⟩

theorem t_K_comerOf_2 {σ : zSt} (hl : Lay σ) {n a y : Nat} (H : zHd σ n a y) {c : Nat} (hc : c < n) {w : Int32} (hw : zOut w 7) : Dt mX11_comerOf [.ref 0, .int (nI c), .int w] σ (some (.int (-nI 5))) (zuX σ 43 (upd (zX σ 43) 5 (zX σ 43 5 + nI 1))) := by
  obtain ⟨-, hn, hn8, ha, ha4, hy, hy8⟩ := id H
  refine Dt.of (by decide) (Nat.le_of_ble_eq_true rfl) fun κ B Rt => ?_
  show Z κ 0 0 σ 0 [(0, .ref 0), (1, .int (nI c)), (2, .int w)] []
  refine Z.aload_n B dX11_comerOf_0 (v := .ref 0) rfl rfl ?_
  refine Z.getR (σ := σ) B fX11_28_11 dX11_comerOf_1 (hl.n (k := 0) (by decide)) (hl.k (k := 0) (by decide)) (by decide) (j := 20) (hl.r (k := 0) (f := 2) (by decide) (by decide)) ?_
  refine Z.iload_n B dX11_comerOf_4 (x := nI c) rfl ?_
  refine Z.callVI (σ := σ) B (M' := mX1_hasComer) (as := [.int (nI c)]) (st := []) (v := .int (nI 1)) dX11_comerOf_5 wX1_hasComer iX1_hasComer sX1_hasComer kX11_152 (hl.n (k := 20) (by decide)) (hl.k (k := 20) (by decide)) (by decide) rfl rfl (t_X1_hasComer_in (σ := σ) H hc) rfl rfl (by decide) (by decide) (Nat.le_of_ble_eq_true rfl) (by decide) (by decide) ?_
  refine Z.if_eqN B dX11_comerOf_8 (tgt := 21) rfl (by omega) (fun h8 => by exfalso; first | omega | contradiction | simp_all) (fun h8 => ?_)
  refine Z.iload_n B dX11_comerOf_11 (x := w) rfl ?_
  refine Z.if_lt B dX11_comerOf_12 (tgt := 21) rfl (fun h12 => ?_) (fun h12 => ?_)
  · skip
    refine Z.aload_n B dX11_comerOf_21 (v := .ref 0) rfl rfl ?_
    refine Z.iconst B dX11_comerOf_22 (v := nI 5) rfl ?_
    refine Z.callVI (σ := σ) B (M' := mX11_refuse) (as := [.int (nI 5)]) (st := []) (v := .int (-nI 5)) dX11_comerOf_23 wX11_refuse iX11_refuse sX11_refuse kX11_63 (hl.n (k := 0) (by decide)) (hl.k (k := 0) (by decide)) (by decide) rfl rfl (t_X11_refuse (σ := σ) hl (b := 5) (by decide)) rfl rfl (by decide) (by decide) (Nat.le_of_ble_eq_true rfl) (by decide) (by decide) ?_
    refine Z.eqσ (τ := (zuX σ 43 (upd (zX σ 43) 5 (zX σ 43 5 + nI 1)))) rfl ?_
    refine Z.iret B Rt dX11_comerOf_26 (ty := .int) rfl rfl (by decide) (by decide) ?_
    exact ⟨rfl, rfl⟩
  · skip
    refine Z.iload_n B dX11_comerOf_15 (x := w) rfl ?_
    refine Z.bipush B dX11_comerOf_16 (v := nI 6) rfl ?_
    refine Z.icmp_le B dX11_comerOf_18 (tgt := 27) rfl (fun h18 => (zo_le hw h12 h18 (by decide)).elim) (fun h18 => ?_)
    refine Z.aload_n B dX11_comerOf_21 (v := .ref 0) rfl rfl ?_
    refine Z.iconst B dX11_comerOf_22 (v := nI 5) rfl ?_
    refine Z.callVI (σ := σ) B (M' := mX11_refuse) (as := [.int (nI 5)]) (st := []) (v := .int (-nI 5)) dX11_comerOf_23 wX11_refuse iX11_refuse sX11_refuse kX11_63 (hl.n (k := 0) (by decide)) (hl.k (k := 0) (by decide)) (by decide) rfl rfl (t_X11_refuse (σ := σ) hl (b := 5) (by decide)) rfl rfl (by decide) (by decide) (Nat.le_of_ble_eq_true rfl) (by decide) (by decide) ?_
    refine Z.eqσ (τ := (zuX σ 43 (upd (zX σ 43) 5 (zX σ 43 5 + nI 1)))) rfl ?_
    refine Z.iret B Rt dX11_comerOf_26 (ty := .int) rfl rfl (by decide) (by decide) ?_
    exact ⟨rfl, rfl⟩

theorem t_K_comerOf_0 {σ : zSt} (hl : Lay σ) {n a y : Nat} (H : zHd σ n a y) {c : Nat} (hc : c < n) {w : Nat} (hw : w < 7) : Dt mX11_comerOf [.ref 0, .int (nI c), .int (nI w)] σ (some (.int (cn (zX σ 21) c w))) σ := by
  obtain ⟨-, hn, hn8, ha, ha4, hy, hy8⟩ := id H
  refine Dt.of (by decide) (Nat.le_of_ble_eq_true rfl) fun κ B Rt => ?_
  show Z κ 0 0 σ 0 [(0, .ref 0), (1, .int (nI c)), (2, .int (nI w))] []
  refine Z.aload_n B dX11_comerOf_0 (v := .ref 0) rfl rfl ?_
  refine Z.getR (σ := σ) B fX11_28_11 dX11_comerOf_1 (hl.n (k := 0) (by decide)) (hl.k (k := 0) (by decide)) (by decide) (j := 20) (hl.r (k := 0) (f := 2) (by decide) (by decide)) ?_
  refine Z.iload_n B dX11_comerOf_4 (x := nI c) rfl ?_
  refine Z.callVI (σ := σ) B (M' := mX1_hasComer) (as := [.int (nI c)]) (st := []) (v := .int (nI 1)) dX11_comerOf_5 wX1_hasComer iX1_hasComer sX1_hasComer kX11_152 (hl.n (k := 20) (by decide)) (hl.k (k := 20) (by decide)) (by decide) rfl rfl (t_X1_hasComer_in (σ := σ) H hc) rfl rfl (by decide) (by decide) (Nat.le_of_ble_eq_true rfl) (by decide) (by decide) ?_
  refine Z.if_eqN B dX11_comerOf_8 (tgt := 21) rfl (by omega) (fun h8 => by exfalso; first | omega | contradiction | simp_all) (fun h8 => ?_)
  refine Z.iload_n B dX11_comerOf_11 (x := nI w) rfl ?_
  refine Z.if_ltN B dX11_comerOf_12 (tgt := 21) rfl (by omega) ?_
  refine Z.iload_n B dX11_comerOf_15 (x := nI w) rfl ?_
  refine Z.bipush B dX11_comerOf_16 (v := nI 6) rfl ?_
  refine Z.icmp_leN B dX11_comerOf_18 (tgt := 27) rfl (by omega) (by omega) (fun h18 => ?_) (fun h18 => by exfalso; first | omega | contradiction | simp_all)
  refine Z.aload_n B dX11_comerOf_27 (v := .ref 0) rfl rfl ?_
  refine Z.getR (σ := σ) B fX11_28_11 dX11_comerOf_28 (hl.n (k := 0) (by decide)) (hl.k (k := 0) (by decide)) (by decide) (j := 20) (hl.r (k := 0) (f := 2) (by decide) (by decide)) ?_
  refine Z.iload_n B dX11_comerOf_31 (x := nI c) rfl ?_
  refine Z.iload_n B dX11_comerOf_32 (x := nI w) rfl ?_
  refine Z.callVI (σ := σ) B (M' := mX1_comerNumber) (as := [.int (nI c), .int (nI w)]) (st := []) (v := .int (cn (zX σ 21) c w)) dX11_comerOf_33 wX1_comerNumber iX1_comerNumber sX1_comerNumber kX11_155 (hl.n (k := 20) (by decide)) (hl.k (k := 20) (by decide)) (by decide) rfl rfl (t_X1_comerNumber (σ := σ) H hc (by omega)) rfl rfl (by decide) (by decide) (Nat.le_of_ble_eq_true rfl) (by decide) (by decide) ?_
  refine Z.iret B Rt dX11_comerOf_36 (ty := .int) rfl rfl (by decide) (by decide) ?_
  exact ⟨rfl, rfl⟩

theorem t_K_askerOf_1 {σ : zSt} (hl : Lay σ) {n a y : Nat} (H : zHd σ n a y) {b : Int32} (hb : zOut b a) {w : Int32} : Dt mX11_askerOf [.ref 0, .int b, .int w] σ (some (.int (-nI 5))) (zuX σ 43 (upd (zX σ 43) 5 (zX σ 43 5 + nI 1))) := by
  obtain ⟨-, hn, hn8, ha, ha4, hy, hy8⟩ := id H
  refine Dt.of (by decide) (Nat.le_of_ble_eq_true rfl) fun κ B Rt => ?_
  show Z κ 0 0 σ 0 [(0, .ref 0), (1, .int b), (2, .int w)] []
  refine Z.aload_n B dX11_askerOf_0 (v := .ref 0) rfl rfl ?_
  refine Z.getR (σ := σ) B fX11_28_11 dX11_askerOf_1 (hl.n (k := 0) (by decide)) (hl.k (k := 0) (by decide)) (by decide) (j := 20) (hl.r (k := 0) (f := 2) (by decide) (by decide)) ?_
  refine Z.iload_n B dX11_askerOf_4 (x := b) rfl ?_
  refine Z.callVI (σ := σ) B (M' := mX1_hasAsker) (as := [.int b]) (st := []) (v := .int (nI 0)) dX11_askerOf_5 wX1_hasAsker iX1_hasAsker sX1_hasAsker kX11_158 (hl.n (k := 20) (by decide)) (hl.k (k := 20) (by decide)) (by decide) rfl rfl (t_X1_hasAsker_out (σ := σ) H hb) rfl rfl (by decide) (by decide) (Nat.le_of_ble_eq_true rfl) (by decide) (by decide) ?_
  refine Z.if_eqN B dX11_askerOf_8 (tgt := 20) rfl (by omega) (fun h8 => ?_) (fun h8 => by exfalso; first | omega | contradiction | simp_all)
  refine Z.aload_n B dX11_askerOf_20 (v := .ref 0) rfl rfl ?_
  refine Z.iconst B dX11_askerOf_21 (v := nI 5) rfl ?_
  refine Z.callVI (σ := σ) B (M' := mX11_refuse) (as := [.int (nI 5)]) (st := []) (v := .int (-nI 5)) dX11_askerOf_22 wX11_refuse iX11_refuse sX11_refuse kX11_63 (hl.n (k := 0) (by decide)) (hl.k (k := 0) (by decide)) (by decide) rfl rfl (t_X11_refuse (σ := σ) hl (b := 5) (by decide)) rfl rfl (by decide) (by decide) (Nat.le_of_ble_eq_true rfl) (by decide) (by decide) ?_
  refine Z.eqσ (τ := (zuX σ 43 (upd (zX σ 43) 5 (zX σ 43 5 + nI 1)))) rfl ?_
  refine Z.iret B Rt dX11_askerOf_25 (ty := .int) rfl rfl (by decide) (by decide) ?_
  exact ⟨rfl, rfl⟩

theorem t_K_askerOf_2 {σ : zSt} (hl : Lay σ) {n a y : Nat} (H : zHd σ n a y) {b : Nat} (hb : b < a) {w : Int32} (hw : zOut w 4) : Dt mX11_askerOf [.ref 0, .int (nI b), .int w] σ (some (.int (-nI 5))) (zuX σ 43 (upd (zX σ 43) 5 (zX σ 43 5 + nI 1))) := by
  obtain ⟨-, hn, hn8, ha, ha4, hy, hy8⟩ := id H
  refine Dt.of (by decide) (Nat.le_of_ble_eq_true rfl) fun κ B Rt => ?_
  show Z κ 0 0 σ 0 [(0, .ref 0), (1, .int (nI b)), (2, .int w)] []
  refine Z.aload_n B dX11_askerOf_0 (v := .ref 0) rfl rfl ?_
  refine Z.getR (σ := σ) B fX11_28_11 dX11_askerOf_1 (hl.n (k := 0) (by decide)) (hl.k (k := 0) (by decide)) (by decide) (j := 20) (hl.r (k := 0) (f := 2) (by decide) (by decide)) ?_
  refine Z.iload_n B dX11_askerOf_4 (x := nI b) rfl ?_
  refine Z.callVI (σ := σ) B (M' := mX1_hasAsker) (as := [.int (nI b)]) (st := []) (v := .int (nI 1)) dX11_askerOf_5 wX1_hasAsker iX1_hasAsker sX1_hasAsker kX11_158 (hl.n (k := 20) (by decide)) (hl.k (k := 20) (by decide)) (by decide) rfl rfl (t_X1_hasAsker_in (σ := σ) H hb) rfl rfl (by decide) (by decide) (Nat.le_of_ble_eq_true rfl) (by decide) (by decide) ?_
  refine Z.if_eqN B dX11_askerOf_8 (tgt := 20) rfl (by omega) (fun h8 => by exfalso; first | omega | contradiction | simp_all) (fun h8 => ?_)
  refine Z.iload_n B dX11_askerOf_11 (x := w) rfl ?_
  refine Z.if_lt B dX11_askerOf_12 (tgt := 20) rfl (fun h12 => ?_) (fun h12 => ?_)
  · skip
    refine Z.aload_n B dX11_askerOf_20 (v := .ref 0) rfl rfl ?_
    refine Z.iconst B dX11_askerOf_21 (v := nI 5) rfl ?_
    refine Z.callVI (σ := σ) B (M' := mX11_refuse) (as := [.int (nI 5)]) (st := []) (v := .int (-nI 5)) dX11_askerOf_22 wX11_refuse iX11_refuse sX11_refuse kX11_63 (hl.n (k := 0) (by decide)) (hl.k (k := 0) (by decide)) (by decide) rfl rfl (t_X11_refuse (σ := σ) hl (b := 5) (by decide)) rfl rfl (by decide) (by decide) (Nat.le_of_ble_eq_true rfl) (by decide) (by decide) ?_
    refine Z.eqσ (τ := (zuX σ 43 (upd (zX σ 43) 5 (zX σ 43 5 + nI 1)))) rfl ?_
    refine Z.iret B Rt dX11_askerOf_25 (ty := .int) rfl rfl (by decide) (by decide) ?_
    exact ⟨rfl, rfl⟩
  · skip
    refine Z.iload_n B dX11_askerOf_15 (x := w) rfl ?_
    refine Z.iconst B dX11_askerOf_16 (v := nI 3) rfl ?_
    refine Z.icmp_le B dX11_askerOf_17 (tgt := 26) rfl (fun h17 => (zo_le hw h12 h17 (by decide)).elim) (fun h17 => ?_)
    refine Z.aload_n B dX11_askerOf_20 (v := .ref 0) rfl rfl ?_
    refine Z.iconst B dX11_askerOf_21 (v := nI 5) rfl ?_
    refine Z.callVI (σ := σ) B (M' := mX11_refuse) (as := [.int (nI 5)]) (st := []) (v := .int (-nI 5)) dX11_askerOf_22 wX11_refuse iX11_refuse sX11_refuse kX11_63 (hl.n (k := 0) (by decide)) (hl.k (k := 0) (by decide)) (by decide) rfl rfl (t_X11_refuse (σ := σ) hl (b := 5) (by decide)) rfl rfl (by decide) (by decide) (Nat.le_of_ble_eq_true rfl) (by decide) (by decide) ?_
    refine Z.eqσ (τ := (zuX σ 43 (upd (zX σ 43) 5 (zX σ 43 5 + nI 1)))) rfl ?_
    refine Z.iret B Rt dX11_askerOf_25 (ty := .int) rfl rfl (by decide) (by decide) ?_
    exact ⟨rfl, rfl⟩

theorem t_K_askerOf_3 {σ : zSt} (hl : Lay σ) {n a y : Nat} (H : zHd σ n a y) {od : Nat → Nat} (ho : zOd σ a od) {b p : Nat} (hp : p < a) (hpb : od p = b) (hmin : ∀ j, j < p → od j ≠ b) : Dt mX11_askerOf [.ref 0, .int (nI b), .int (nI 3)] σ (some (.int (nI p))) σ := by
  obtain ⟨-, hn, hn8, ha, ha4, hy, hy8⟩ := id H
  refine Dt.of (by decide) (Nat.le_of_ble_eq_true rfl) fun κ B Rt => ?_
  show Z κ 0 0 σ 0 [(0, .ref 0), (1, .int (nI b)), (2, .int (nI 3))] []
  have hb : b < a := hpb ▸ (ho p hp).2
  refine Z.aload_n B dX11_askerOf_0 (v := .ref 0) rfl rfl ?_
  refine Z.getR (σ := σ) B fX11_28_11 dX11_askerOf_1 (hl.n (k := 0) (by decide)) (hl.k (k := 0) (by decide)) (by decide) (j := 20) (hl.r (k := 0) (f := 2) (by decide) (by decide)) ?_
  refine Z.iload_n B dX11_askerOf_4 (x := nI b) rfl ?_
  refine Z.callVI (σ := σ) B (M' := mX1_hasAsker) (as := [.int (nI b)]) (st := []) (v := .int (nI 1)) dX11_askerOf_5 wX1_hasAsker iX1_hasAsker sX1_hasAsker kX11_158 (hl.n (k := 20) (by decide)) (hl.k (k := 20) (by decide)) (by decide) rfl rfl (t_X1_hasAsker_in (σ := σ) H hb) rfl rfl (by decide) (by decide) (Nat.le_of_ble_eq_true rfl) (by decide) (by decide) ?_
  refine Z.if_eqN B dX11_askerOf_8 (tgt := 20) rfl (by omega) (fun h8 => by exfalso; first | omega | contradiction | simp_all) (fun h8 => ?_)
  refine Z.iload_n B dX11_askerOf_11 (x := nI 3) rfl ?_
  refine Z.if_ltN B dX11_askerOf_12 (tgt := 20) rfl (by omega) ?_
  refine Z.iload_n B dX11_askerOf_15 (x := nI 3) rfl ?_
  refine Z.iconst B dX11_askerOf_16 (v := nI 3) rfl ?_
  refine Z.icmp_leN B dX11_askerOf_17 (tgt := 26) rfl (by omega) (by omega) (fun h17 => ?_) (fun h17 => by exfalso; first | omega | contradiction | simp_all)
  refine Z.iload_n B dX11_askerOf_26 (x := nI 3) rfl ?_
  refine Z.iconst B dX11_askerOf_27 (v := nI 3) rfl ?_
  refine Z.icmp_neN B dX11_askerOf_28 (tgt := 42) rfl (by omega) (by omega) (fun h28 => by exfalso; first | omega | contradiction | simp_all) (fun h28 => ?_)
  refine Z.aload_n B dX11_askerOf_31 (v := .ref 0) rfl rfl ?_
  refine Z.getR (σ := σ) B fX11_28_11 dX11_askerOf_32 (hl.n (k := 0) (by decide)) (hl.k (k := 0) (by decide)) (by decide) (j := 20) (hl.r (k := 0) (f := 2) (by decide) (by decide)) ?_
  refine Z.iload_n B dX11_askerOf_35 (x := nI b) rfl ?_
  refine Z.callVI (σ := σ) B (M' := mX1_placeOf) (as := [.int (nI b)]) (st := []) (v := .int (nI p)) dX11_askerOf_36 wX1_placeOf iX1_placeOf sX1_placeOf kX11_161 (hl.n (k := 20) (by decide)) (hl.k (k := 20) (by decide)) (by decide) rfl rfl (t_X1_placeOf (σ := σ) H ho hp hpb hmin) rfl rfl (by decide) (by decide) (Nat.le_of_ble_eq_true rfl) (by decide) (by decide) ?_
  refine Z.goto B dX11_askerOf_39 (tgt := 51) rfl ?_
  refine Z.iret B Rt dX11_askerOf_51 (ty := .int) rfl rfl (by decide) (by decide) ?_
  exact ⟨rfl, rfl⟩

theorem t_K_askerOf_0 {σ : zSt} (hl : Lay σ) {n a y : Nat} (H : zHd σ n a y) {b : Nat} (hb : b < a) {w : Nat} (hw : w < 3) : Dt mX11_askerOf [.ref 0, .int (nI b), .int (nI w)] σ (some (.int (zX σ 22 (b * 3 + w)))) σ := by
  obtain ⟨-, hn, hn8, ha, ha4, hy, hy8⟩ := id H
  refine Dt.of (by decide) (Nat.le_of_ble_eq_true rfl) fun κ B Rt => ?_
  show Z κ 0 0 σ 0 [(0, .ref 0), (1, .int (nI b)), (2, .int (nI w))] []
  refine Z.aload_n B dX11_askerOf_0 (v := .ref 0) rfl rfl ?_
  refine Z.getR (σ := σ) B fX11_28_11 dX11_askerOf_1 (hl.n (k := 0) (by decide)) (hl.k (k := 0) (by decide)) (by decide) (j := 20) (hl.r (k := 0) (f := 2) (by decide) (by decide)) ?_
  refine Z.iload_n B dX11_askerOf_4 (x := nI b) rfl ?_
  refine Z.callVI (σ := σ) B (M' := mX1_hasAsker) (as := [.int (nI b)]) (st := []) (v := .int (nI 1)) dX11_askerOf_5 wX1_hasAsker iX1_hasAsker sX1_hasAsker kX11_158 (hl.n (k := 20) (by decide)) (hl.k (k := 20) (by decide)) (by decide) rfl rfl (t_X1_hasAsker_in (σ := σ) H hb) rfl rfl (by decide) (by decide) (Nat.le_of_ble_eq_true rfl) (by decide) (by decide) ?_
  refine Z.if_eqN B dX11_askerOf_8 (tgt := 20) rfl (by omega) (fun h8 => by exfalso; first | omega | contradiction | simp_all) (fun h8 => ?_)
  refine Z.iload_n B dX11_askerOf_11 (x := nI w) rfl ?_
  refine Z.if_ltN B dX11_askerOf_12 (tgt := 20) rfl (by omega) ?_
  refine Z.iload_n B dX11_askerOf_15 (x := nI w) rfl ?_
  refine Z.iconst B dX11_askerOf_16 (v := nI 3) rfl ?_
  refine Z.icmp_leN B dX11_askerOf_17 (tgt := 26) rfl (by omega) (by omega) (fun h17 => ?_) (fun h17 => by exfalso; first | omega | contradiction | simp_all)
  refine Z.iload_n B dX11_askerOf_26 (x := nI w) rfl ?_
  refine Z.iconst B dX11_askerOf_27 (v := nI 3) rfl ?_
  refine Z.icmp_neN B dX11_askerOf_28 (tgt := 42) rfl (by omega) (by omega) (fun h28 => ?_) (fun h28 => by exfalso; first | omega | contradiction | simp_all)
  refine Z.aload_n B dX11_askerOf_42 (v := .ref 0) rfl rfl ?_
  refine Z.getR (σ := σ) B fX11_28_11 dX11_askerOf_43 (hl.n (k := 0) (by decide)) (hl.k (k := 0) (by decide)) (by decide) (j := 20) (hl.r (k := 0) (f := 2) (by decide) (by decide)) ?_
  refine Z.iload_n B dX11_askerOf_46 (x := nI b) rfl ?_
  refine Z.iload_n B dX11_askerOf_47 (x := nI w) rfl ?_
  refine Z.callVI (σ := σ) B (M' := mX1_askerNumber) (as := [.int (nI b), .int (nI w)]) (st := []) (v := .int (zX σ 22 (b * 3 + w))) dX11_askerOf_48 wX1_askerNumber iX1_askerNumber sX1_askerNumber kX11_164 (hl.n (k := 20) (by decide)) (hl.k (k := 20) (by decide)) (by decide) rfl rfl (t_X1_askerNumber (σ := σ) H hb hw) rfl rfl (by decide) (by decide) (Nat.le_of_ble_eq_true rfl) (by decide) (by decide) ?_
  refine Z.iret B Rt dX11_askerOf_51 (ty := .int) rfl rfl (by decide) (by decide) ?_
  exact ⟨rfl, rfl⟩

theorem t_K_wayOf_1 {σ : zSt} (hl : Lay σ) {n a y : Nat} (H : zHd σ n a y) {i : Int32} (hi : zOut i y) {w : Int32} : Dt mX11_wayOf [.ref 0, .int i, .int w] σ (some (.int (-nI 5))) (zuX σ 43 (upd (zX σ 43) 5 (zX σ 43 5 + nI 1))) := by
  obtain ⟨-, hn, hn8, ha, ha4, hy, hy8⟩ := id H
  refine Dt.of (by decide) (Nat.le_of_ble_eq_true rfl) fun κ B Rt => ?_
  show Z κ 0 0 σ 0 [(0, .ref 0), (1, .int i), (2, .int w)] []
  refine Z.aload_n B dX11_wayOf_0 (v := .ref 0) rfl rfl ?_
  refine Z.getR (σ := σ) B fX11_28_11 dX11_wayOf_1 (hl.n (k := 0) (by decide)) (hl.k (k := 0) (by decide)) (by decide) (j := 20) (hl.r (k := 0) (f := 2) (by decide) (by decide)) ?_
  refine Z.iload_n B dX11_wayOf_4 (x := i) rfl ?_
  refine Z.callVI (σ := σ) B (M' := mX1_wayAt) (as := [.int i]) (st := []) (v := .null) dX11_wayOf_5 wX1_wayAt iX1_wayAt sX1_wayAt kX11_102 (hl.n (k := 20) (by decide)) (hl.k (k := 20) (by decide)) (by decide) rfl rfl (t_X1_wayAt_out (σ := σ) H hi) rfl rfl (by decide) (by decide) (Nat.le_of_ble_eq_true rfl) (by decide) (by decide) ?_
  refine Z.astore_n B dX11_wayOf_8 (by decide) rfl (L' := [(0, .ref 0), (1, .int i), (2, .int w), (3, .null)]) rfl ?_
  refine Z.aload_n B dX11_wayOf_9 (v := .null) rfl rfl ?_
  refine Z.ifnull_n B dX11_wayOf_10 (tgt := 22) rfl ?_
  refine Z.aload_n B dX11_wayOf_22 (v := .ref 0) rfl rfl ?_
  refine Z.iconst B dX11_wayOf_23 (v := nI 5) rfl ?_
  refine Z.callVI (σ := σ) B (M' := mX11_refuse) (as := [.int (nI 5)]) (st := []) (v := .int (-nI 5)) dX11_wayOf_24 wX11_refuse iX11_refuse sX11_refuse kX11_63 (hl.n (k := 0) (by decide)) (hl.k (k := 0) (by decide)) (by decide) rfl rfl (t_X11_refuse (σ := σ) hl (b := 5) (by decide)) rfl rfl (by decide) (by decide) (Nat.le_of_ble_eq_true rfl) (by decide) (by decide) ?_
  refine Z.eqσ (τ := (zuX σ 43 (upd (zX σ 43) 5 (zX σ 43 5 + nI 1)))) rfl ?_
  refine Z.iret B Rt dX11_wayOf_27 (ty := .int) rfl rfl (by decide) (by decide) ?_
  exact ⟨rfl, rfl⟩

theorem t_K_wayOf_2 {σ : zSt} (hl : Lay σ) {n a y : Nat} (H : zHd σ n a y) {i q kd pa num : Nat} (hi : i < y) (hq : zR σ 24 i = some q) (hw : zWo σ q kd pa num) {w : Int32} (hv : zOut w 2) : Dt mX11_wayOf [.ref 0, .int (nI i), .int w] σ (some (.int (-nI 5))) (zuX σ 43 (upd (zX σ 43) 5 (zX σ 43 5 + nI 1))) := by
  obtain ⟨-, hn, hn8, ha, ha4, hy, hy8⟩ := id H
  refine Dt.of (by decide) (Nat.le_of_ble_eq_true rfl) fun κ B Rt => ?_
  show Z κ 0 0 σ 0 [(0, .ref 0), (1, .int (nI i)), (2, .int w)] []
  refine Z.aload_n B dX11_wayOf_0 (v := .ref 0) rfl rfl ?_
  refine Z.getR (σ := σ) B fX11_28_11 dX11_wayOf_1 (hl.n (k := 0) (by decide)) (hl.k (k := 0) (by decide)) (by decide) (j := 20) (hl.r (k := 0) (f := 2) (by decide) (by decide)) ?_
  refine Z.iload_n B dX11_wayOf_4 (x := nI i) rfl ?_
  refine Z.callVI (σ := σ) B (M' := mX1_wayAt) (as := [.int (nI i)]) (st := []) (v := .ref q) dX11_wayOf_5 wX1_wayAt iX1_wayAt sX1_wayAt kX11_102 (hl.n (k := 20) (by decide)) (hl.k (k := 20) (by decide)) (by decide) rfl rfl (t_X1_wayAt_in (σ := σ) H hi hq) rfl rfl (by decide) (by decide) (Nat.le_of_ble_eq_true rfl) (by decide) (by decide) ?_
  refine Z.astore_n B dX11_wayOf_8 (by decide) rfl (L' := [(0, .ref 0), (1, .int (nI i)), (2, .int w), (3, .ref q)]) rfl ?_
  refine Z.aload_n B dX11_wayOf_9 (v := .ref q) rfl rfl ?_
  refine Z.ifnull_r B dX11_wayOf_10 ?_
  refine Z.iload_n B dX11_wayOf_13 (x := w) rfl ?_
  refine Z.if_lt B dX11_wayOf_14 (tgt := 22) rfl (fun h14 => ?_) (fun h14 => ?_)
  · skip
    refine Z.aload_n B dX11_wayOf_22 (v := .ref 0) rfl rfl ?_
    refine Z.iconst B dX11_wayOf_23 (v := nI 5) rfl ?_
    refine Z.callVI (σ := σ) B (M' := mX11_refuse) (as := [.int (nI 5)]) (st := []) (v := .int (-nI 5)) dX11_wayOf_24 wX11_refuse iX11_refuse sX11_refuse kX11_63 (hl.n (k := 0) (by decide)) (hl.k (k := 0) (by decide)) (by decide) rfl rfl (t_X11_refuse (σ := σ) hl (b := 5) (by decide)) rfl rfl (by decide) (by decide) (Nat.le_of_ble_eq_true rfl) (by decide) (by decide) ?_
    refine Z.eqσ (τ := (zuX σ 43 (upd (zX σ 43) 5 (zX σ 43 5 + nI 1)))) rfl ?_
    refine Z.iret B Rt dX11_wayOf_27 (ty := .int) rfl rfl (by decide) (by decide) ?_
    exact ⟨rfl, rfl⟩
  · skip
    refine Z.iload_n B dX11_wayOf_17 (x := w) rfl ?_
    refine Z.iconst B dX11_wayOf_18 (v := nI 2) rfl ?_
    refine Z.icmp_lt B dX11_wayOf_19 (tgt := 28) rfl (fun h19 => (zo_lt hv h14 h19).elim) (fun h19 => ?_)
    refine Z.aload_n B dX11_wayOf_22 (v := .ref 0) rfl rfl ?_
    refine Z.iconst B dX11_wayOf_23 (v := nI 5) rfl ?_
    refine Z.callVI (σ := σ) B (M' := mX11_refuse) (as := [.int (nI 5)]) (st := []) (v := .int (-nI 5)) dX11_wayOf_24 wX11_refuse iX11_refuse sX11_refuse kX11_63 (hl.n (k := 0) (by decide)) (hl.k (k := 0) (by decide)) (by decide) rfl rfl (t_X11_refuse (σ := σ) hl (b := 5) (by decide)) rfl rfl (by decide) (by decide) (Nat.le_of_ble_eq_true rfl) (by decide) (by decide) ?_
    refine Z.eqσ (τ := (zuX σ 43 (upd (zX σ 43) 5 (zX σ 43 5 + nI 1)))) rfl ?_
    refine Z.iret B Rt dX11_wayOf_27 (ty := .int) rfl rfl (by decide) (by decide) ?_
    exact ⟨rfl, rfl⟩

theorem t_K_wayOf_0_0_0 {σ : zSt} (hl : Lay σ) {n a y : Nat} (H : zHd σ n a y) {i q pa num : Nat} (hi : i < y) (hq : zR σ 24 i = some q) (hw : zWo σ q 0 pa num) : Dt mX11_wayOf [.ref 0, .int (nI i), .int (nI 0)] σ (some (.int (nI 0))) σ := by
  refine Dt.of (by decide) (Nat.le_of_ble_eq_true rfl) fun κ B Rt => ?_
  show Z κ 0 0 σ 0 [(0, .ref 0), (1, .int (nI i)), (2, .int (nI 0))] []
  refine Z.aload_n B dX11_wayOf_0 (v := .ref 0) rfl rfl ?_
  refine Z.getR (σ := σ) B fX11_28_11 dX11_wayOf_1 (hl.n (k := 0) (by decide)) (hl.k (k := 0) (by decide)) (by decide) (j := 20) (hl.r (k := 0) (f := 2) (by decide) (by decide)) ?_
  refine Z.iload_n B dX11_wayOf_4 (x := nI i) rfl ?_
  refine Z.callVI (σ := σ) B (M' := mX1_wayAt) (as := [.int (nI i)]) (st := []) (v := .ref q) dX11_wayOf_5 wX1_wayAt iX1_wayAt sX1_wayAt kX11_102 (hl.n (k := 20) (by decide)) (hl.k (k := 20) (by decide)) (by decide) rfl rfl (t_X1_wayAt_in (σ := σ) H hi hq) rfl rfl (by decide) (by decide) (Nat.le_of_ble_eq_true rfl) (by decide) (by decide) ?_
  refine Z.astore_n B dX11_wayOf_8 (by decide) rfl (L' := [(0, .ref 0), (1, .int (nI i)), (2, .int (nI 0)), (3, .ref q)]) rfl ?_
  refine Z.aload_n B dX11_wayOf_9 (v := .ref q) rfl rfl ?_
  refine Z.ifnull_r B dX11_wayOf_10 ?_
  refine Z.iload_n B dX11_wayOf_13 (x := nI 0) rfl ?_
  refine Z.if_ltN B dX11_wayOf_14 (tgt := 22) rfl (by omega) ?_
  refine Z.iload_n B dX11_wayOf_17 (x := nI 0) rfl ?_
  refine Z.iconst B dX11_wayOf_18 (v := nI 2) rfl ?_
  refine Z.icmp_ltN B dX11_wayOf_19 (tgt := 28) rfl (by omega) (by omega) (fun h19 => ?_) (fun h19 => by exfalso; first | omega | contradiction | simp_all)
  refine Z.iload_n B dX11_wayOf_28 (x := nI 0) rfl ?_
  refine Z.if_neN B dX11_wayOf_29 (tgt := 39) rfl (by omega) (fun h29 => by exfalso; first | omega | contradiction | simp_all) (fun h29 => ?_)
  refine Z.aload_n B dX11_wayOf_32 (v := .ref q) rfl rfl ?_
  refine Z.getI (σ := σ) B fX11_167_9 dX11_wayOf_33 hw.1 hw.2.1 (by decide) (v := nI 0) hw.2.2.2.1 ?_
  refine Z.goto B dX11_wayOf_36 (tgt := 43) rfl ?_
  refine Z.iret B Rt dX11_wayOf_43 (ty := .int) rfl rfl (by decide) (by decide) ?_
  exact ⟨rfl, rfl⟩

theorem t_K_wayOf_0_0_1 {σ : zSt} (hl : Lay σ) {n a y : Nat} (H : zHd σ n a y) {i q pa num : Nat} (hi : i < y) (hq : zR σ 24 i = some q) (hw : zWo σ q 0 pa num) : Dt mX11_wayOf [.ref 0, .int (nI i), .int (nI 1)] σ (some (.int (nI pa))) σ := by
  refine Dt.of (by decide) (Nat.le_of_ble_eq_true rfl) fun κ B Rt => ?_
  show Z κ 0 0 σ 0 [(0, .ref 0), (1, .int (nI i)), (2, .int (nI 1))] []
  refine Z.aload_n B dX11_wayOf_0 (v := .ref 0) rfl rfl ?_
  refine Z.getR (σ := σ) B fX11_28_11 dX11_wayOf_1 (hl.n (k := 0) (by decide)) (hl.k (k := 0) (by decide)) (by decide) (j := 20) (hl.r (k := 0) (f := 2) (by decide) (by decide)) ?_
  refine Z.iload_n B dX11_wayOf_4 (x := nI i) rfl ?_
  refine Z.callVI (σ := σ) B (M' := mX1_wayAt) (as := [.int (nI i)]) (st := []) (v := .ref q) dX11_wayOf_5 wX1_wayAt iX1_wayAt sX1_wayAt kX11_102 (hl.n (k := 20) (by decide)) (hl.k (k := 20) (by decide)) (by decide) rfl rfl (t_X1_wayAt_in (σ := σ) H hi hq) rfl rfl (by decide) (by decide) (Nat.le_of_ble_eq_true rfl) (by decide) (by decide) ?_
  refine Z.astore_n B dX11_wayOf_8 (by decide) rfl (L' := [(0, .ref 0), (1, .int (nI i)), (2, .int (nI 1)), (3, .ref q)]) rfl ?_
  refine Z.aload_n B dX11_wayOf_9 (v := .ref q) rfl rfl ?_
  refine Z.ifnull_r B dX11_wayOf_10 ?_
  refine Z.iload_n B dX11_wayOf_13 (x := nI 1) rfl ?_
  refine Z.if_ltN B dX11_wayOf_14 (tgt := 22) rfl (by omega) ?_
  refine Z.iload_n B dX11_wayOf_17 (x := nI 1) rfl ?_
  refine Z.iconst B dX11_wayOf_18 (v := nI 2) rfl ?_
  refine Z.icmp_ltN B dX11_wayOf_19 (tgt := 28) rfl (by omega) (by omega) (fun h19 => ?_) (fun h19 => by exfalso; first | omega | contradiction | simp_all)
  refine Z.iload_n B dX11_wayOf_28 (x := nI 1) rfl ?_
  refine Z.if_neN B dX11_wayOf_29 (tgt := 39) rfl (by omega) (fun h29 => ?_) (fun h29 => by exfalso; first | omega | contradiction | simp_all)
  refine Z.aload_n B dX11_wayOf_39 (v := .ref q) rfl rfl ?_
  refine Z.getI (σ := σ) B fX11_172_9 dX11_wayOf_40 hw.1 hw.2.1 (by decide) (v := nI pa) hw.2.2.2.2.2.1 ?_
  refine Z.iret B Rt dX11_wayOf_43 (ty := .int) rfl rfl (by decide) (by decide) ?_
  exact ⟨rfl, rfl⟩

theorem t_K_wayOf_0_1_0 {σ : zSt} (hl : Lay σ) {n a y : Nat} (H : zHd σ n a y) {i q pa num : Nat} (hi : i < y) (hq : zR σ 24 i = some q) (hw : zWo σ q 1 pa num) : Dt mX11_wayOf [.ref 0, .int (nI i), .int (nI 0)] σ (some (.int (nI 1))) σ := by
  refine Dt.of (by decide) (Nat.le_of_ble_eq_true rfl) fun κ B Rt => ?_
  show Z κ 0 0 σ 0 [(0, .ref 0), (1, .int (nI i)), (2, .int (nI 0))] []
  refine Z.aload_n B dX11_wayOf_0 (v := .ref 0) rfl rfl ?_
  refine Z.getR (σ := σ) B fX11_28_11 dX11_wayOf_1 (hl.n (k := 0) (by decide)) (hl.k (k := 0) (by decide)) (by decide) (j := 20) (hl.r (k := 0) (f := 2) (by decide) (by decide)) ?_
  refine Z.iload_n B dX11_wayOf_4 (x := nI i) rfl ?_
  refine Z.callVI (σ := σ) B (M' := mX1_wayAt) (as := [.int (nI i)]) (st := []) (v := .ref q) dX11_wayOf_5 wX1_wayAt iX1_wayAt sX1_wayAt kX11_102 (hl.n (k := 20) (by decide)) (hl.k (k := 20) (by decide)) (by decide) rfl rfl (t_X1_wayAt_in (σ := σ) H hi hq) rfl rfl (by decide) (by decide) (Nat.le_of_ble_eq_true rfl) (by decide) (by decide) ?_
  refine Z.astore_n B dX11_wayOf_8 (by decide) rfl (L' := [(0, .ref 0), (1, .int (nI i)), (2, .int (nI 0)), (3, .ref q)]) rfl ?_
  refine Z.aload_n B dX11_wayOf_9 (v := .ref q) rfl rfl ?_
  refine Z.ifnull_r B dX11_wayOf_10 ?_
  refine Z.iload_n B dX11_wayOf_13 (x := nI 0) rfl ?_
  refine Z.if_ltN B dX11_wayOf_14 (tgt := 22) rfl (by omega) ?_
  refine Z.iload_n B dX11_wayOf_17 (x := nI 0) rfl ?_
  refine Z.iconst B dX11_wayOf_18 (v := nI 2) rfl ?_
  refine Z.icmp_ltN B dX11_wayOf_19 (tgt := 28) rfl (by omega) (by omega) (fun h19 => ?_) (fun h19 => by exfalso; first | omega | contradiction | simp_all)
  refine Z.iload_n B dX11_wayOf_28 (x := nI 0) rfl ?_
  refine Z.if_neN B dX11_wayOf_29 (tgt := 39) rfl (by omega) (fun h29 => by exfalso; first | omega | contradiction | simp_all) (fun h29 => ?_)
  refine Z.aload_n B dX11_wayOf_32 (v := .ref q) rfl rfl ?_
  refine Z.getI (σ := σ) B fX11_167_7 dX11_wayOf_33 hw.1 hw.2.1 (by decide) (v := nI 1) hw.2.2.2.1 ?_
  refine Z.goto B dX11_wayOf_36 (tgt := 43) rfl ?_
  refine Z.iret B Rt dX11_wayOf_43 (ty := .int) rfl rfl (by decide) (by decide) ?_
  exact ⟨rfl, rfl⟩

theorem t_K_wayOf_0_1_1 {σ : zSt} (hl : Lay σ) {n a y : Nat} (H : zHd σ n a y) {i q pa num : Nat} (hi : i < y) (hq : zR σ 24 i = some q) (hw : zWo σ q 1 pa num) : Dt mX11_wayOf [.ref 0, .int (nI i), .int (nI 1)] σ (some (.int (nI pa))) σ := by
  refine Dt.of (by decide) (Nat.le_of_ble_eq_true rfl) fun κ B Rt => ?_
  show Z κ 0 0 σ 0 [(0, .ref 0), (1, .int (nI i)), (2, .int (nI 1))] []
  refine Z.aload_n B dX11_wayOf_0 (v := .ref 0) rfl rfl ?_
  refine Z.getR (σ := σ) B fX11_28_11 dX11_wayOf_1 (hl.n (k := 0) (by decide)) (hl.k (k := 0) (by decide)) (by decide) (j := 20) (hl.r (k := 0) (f := 2) (by decide) (by decide)) ?_
  refine Z.iload_n B dX11_wayOf_4 (x := nI i) rfl ?_
  refine Z.callVI (σ := σ) B (M' := mX1_wayAt) (as := [.int (nI i)]) (st := []) (v := .ref q) dX11_wayOf_5 wX1_wayAt iX1_wayAt sX1_wayAt kX11_102 (hl.n (k := 20) (by decide)) (hl.k (k := 20) (by decide)) (by decide) rfl rfl (t_X1_wayAt_in (σ := σ) H hi hq) rfl rfl (by decide) (by decide) (Nat.le_of_ble_eq_true rfl) (by decide) (by decide) ?_
  refine Z.astore_n B dX11_wayOf_8 (by decide) rfl (L' := [(0, .ref 0), (1, .int (nI i)), (2, .int (nI 1)), (3, .ref q)]) rfl ?_
  refine Z.aload_n B dX11_wayOf_9 (v := .ref q) rfl rfl ?_
  refine Z.ifnull_r B dX11_wayOf_10 ?_
  refine Z.iload_n B dX11_wayOf_13 (x := nI 1) rfl ?_
  refine Z.if_ltN B dX11_wayOf_14 (tgt := 22) rfl (by omega) ?_
  refine Z.iload_n B dX11_wayOf_17 (x := nI 1) rfl ?_
  refine Z.iconst B dX11_wayOf_18 (v := nI 2) rfl ?_
  refine Z.icmp_ltN B dX11_wayOf_19 (tgt := 28) rfl (by omega) (by omega) (fun h19 => ?_) (fun h19 => by exfalso; first | omega | contradiction | simp_all)
  refine Z.iload_n B dX11_wayOf_28 (x := nI 1) rfl ?_
  refine Z.if_neN B dX11_wayOf_29 (tgt := 39) rfl (by omega) (fun h29 => ?_) (fun h29 => by exfalso; first | omega | contradiction | simp_all)
  refine Z.aload_n B dX11_wayOf_39 (v := .ref q) rfl rfl ?_
  refine Z.getI (σ := σ) B fX11_172_7 dX11_wayOf_40 hw.1 hw.2.1 (by decide) (v := nI pa) hw.2.2.2.2.2.1 ?_
  refine Z.iret B Rt dX11_wayOf_43 (ty := .int) rfl rfl (by decide) (by decide) ?_
  exact ⟨rfl, rfl⟩

theorem t_K_wayOf_0_2_0 {σ : zSt} (hl : Lay σ) {n a y : Nat} (H : zHd σ n a y) {i q pa num : Nat} (hi : i < y) (hq : zR σ 24 i = some q) (hw : zWo σ q 2 pa num) : Dt mX11_wayOf [.ref 0, .int (nI i), .int (nI 0)] σ (some (.int (nI 2))) σ := by
  refine Dt.of (by decide) (Nat.le_of_ble_eq_true rfl) fun κ B Rt => ?_
  show Z κ 0 0 σ 0 [(0, .ref 0), (1, .int (nI i)), (2, .int (nI 0))] []
  refine Z.aload_n B dX11_wayOf_0 (v := .ref 0) rfl rfl ?_
  refine Z.getR (σ := σ) B fX11_28_11 dX11_wayOf_1 (hl.n (k := 0) (by decide)) (hl.k (k := 0) (by decide)) (by decide) (j := 20) (hl.r (k := 0) (f := 2) (by decide) (by decide)) ?_
  refine Z.iload_n B dX11_wayOf_4 (x := nI i) rfl ?_
  refine Z.callVI (σ := σ) B (M' := mX1_wayAt) (as := [.int (nI i)]) (st := []) (v := .ref q) dX11_wayOf_5 wX1_wayAt iX1_wayAt sX1_wayAt kX11_102 (hl.n (k := 20) (by decide)) (hl.k (k := 20) (by decide)) (by decide) rfl rfl (t_X1_wayAt_in (σ := σ) H hi hq) rfl rfl (by decide) (by decide) (Nat.le_of_ble_eq_true rfl) (by decide) (by decide) ?_
  refine Z.astore_n B dX11_wayOf_8 (by decide) rfl (L' := [(0, .ref 0), (1, .int (nI i)), (2, .int (nI 0)), (3, .ref q)]) rfl ?_
  refine Z.aload_n B dX11_wayOf_9 (v := .ref q) rfl rfl ?_
  refine Z.ifnull_r B dX11_wayOf_10 ?_
  refine Z.iload_n B dX11_wayOf_13 (x := nI 0) rfl ?_
  refine Z.if_ltN B dX11_wayOf_14 (tgt := 22) rfl (by omega) ?_
  refine Z.iload_n B dX11_wayOf_17 (x := nI 0) rfl ?_
  refine Z.iconst B dX11_wayOf_18 (v := nI 2) rfl ?_
  refine Z.icmp_ltN B dX11_wayOf_19 (tgt := 28) rfl (by omega) (by omega) (fun h19 => ?_) (fun h19 => by exfalso; first | omega | contradiction | simp_all)
  refine Z.iload_n B dX11_wayOf_28 (x := nI 0) rfl ?_
  refine Z.if_neN B dX11_wayOf_29 (tgt := 39) rfl (by omega) (fun h29 => by exfalso; first | omega | contradiction | simp_all) (fun h29 => ?_)
  refine Z.aload_n B dX11_wayOf_32 (v := .ref q) rfl rfl ?_
  refine Z.getI (σ := σ) B fX11_167_4 dX11_wayOf_33 hw.1 hw.2.1 (by decide) (v := nI 2) hw.2.2.2.1 ?_
  refine Z.goto B dX11_wayOf_36 (tgt := 43) rfl ?_
  refine Z.iret B Rt dX11_wayOf_43 (ty := .int) rfl rfl (by decide) (by decide) ?_
  exact ⟨rfl, rfl⟩

theorem t_K_wayOf_0_2_1 {σ : zSt} (hl : Lay σ) {n a y : Nat} (H : zHd σ n a y) {i q pa num : Nat} (hi : i < y) (hq : zR σ 24 i = some q) (hw : zWo σ q 2 pa num) : Dt mX11_wayOf [.ref 0, .int (nI i), .int (nI 1)] σ (some (.int (nI pa))) σ := by
  refine Dt.of (by decide) (Nat.le_of_ble_eq_true rfl) fun κ B Rt => ?_
  show Z κ 0 0 σ 0 [(0, .ref 0), (1, .int (nI i)), (2, .int (nI 1))] []
  refine Z.aload_n B dX11_wayOf_0 (v := .ref 0) rfl rfl ?_
  refine Z.getR (σ := σ) B fX11_28_11 dX11_wayOf_1 (hl.n (k := 0) (by decide)) (hl.k (k := 0) (by decide)) (by decide) (j := 20) (hl.r (k := 0) (f := 2) (by decide) (by decide)) ?_
  refine Z.iload_n B dX11_wayOf_4 (x := nI i) rfl ?_
  refine Z.callVI (σ := σ) B (M' := mX1_wayAt) (as := [.int (nI i)]) (st := []) (v := .ref q) dX11_wayOf_5 wX1_wayAt iX1_wayAt sX1_wayAt kX11_102 (hl.n (k := 20) (by decide)) (hl.k (k := 20) (by decide)) (by decide) rfl rfl (t_X1_wayAt_in (σ := σ) H hi hq) rfl rfl (by decide) (by decide) (Nat.le_of_ble_eq_true rfl) (by decide) (by decide) ?_
  refine Z.astore_n B dX11_wayOf_8 (by decide) rfl (L' := [(0, .ref 0), (1, .int (nI i)), (2, .int (nI 1)), (3, .ref q)]) rfl ?_
  refine Z.aload_n B dX11_wayOf_9 (v := .ref q) rfl rfl ?_
  refine Z.ifnull_r B dX11_wayOf_10 ?_
  refine Z.iload_n B dX11_wayOf_13 (x := nI 1) rfl ?_
  refine Z.if_ltN B dX11_wayOf_14 (tgt := 22) rfl (by omega) ?_
  refine Z.iload_n B dX11_wayOf_17 (x := nI 1) rfl ?_
  refine Z.iconst B dX11_wayOf_18 (v := nI 2) rfl ?_
  refine Z.icmp_ltN B dX11_wayOf_19 (tgt := 28) rfl (by omega) (by omega) (fun h19 => ?_) (fun h19 => by exfalso; first | omega | contradiction | simp_all)
  refine Z.iload_n B dX11_wayOf_28 (x := nI 1) rfl ?_
  refine Z.if_neN B dX11_wayOf_29 (tgt := 39) rfl (by omega) (fun h29 => ?_) (fun h29 => by exfalso; first | omega | contradiction | simp_all)
  refine Z.aload_n B dX11_wayOf_39 (v := .ref q) rfl rfl ?_
  refine Z.getI (σ := σ) B fX11_172_4 dX11_wayOf_40 hw.1 hw.2.1 (by decide) (v := nI pa) hw.2.2.2.2.2.1 ?_
  refine Z.iret B Rt dX11_wayOf_43 (ty := .int) rfl rfl (by decide) (by decide) ?_
  exact ⟨rfl, rfl⟩

theorem t_K_wayOf_0_3_0 {σ : zSt} (hl : Lay σ) {n a y : Nat} (H : zHd σ n a y) {i q pa num : Nat} (hi : i < y) (hq : zR σ 24 i = some q) (hw : zWo σ q 3 pa num) : Dt mX11_wayOf [.ref 0, .int (nI i), .int (nI 0)] σ (some (.int (nI 3))) σ := by
  refine Dt.of (by decide) (Nat.le_of_ble_eq_true rfl) fun κ B Rt => ?_
  show Z κ 0 0 σ 0 [(0, .ref 0), (1, .int (nI i)), (2, .int (nI 0))] []
  refine Z.aload_n B dX11_wayOf_0 (v := .ref 0) rfl rfl ?_
  refine Z.getR (σ := σ) B fX11_28_11 dX11_wayOf_1 (hl.n (k := 0) (by decide)) (hl.k (k := 0) (by decide)) (by decide) (j := 20) (hl.r (k := 0) (f := 2) (by decide) (by decide)) ?_
  refine Z.iload_n B dX11_wayOf_4 (x := nI i) rfl ?_
  refine Z.callVI (σ := σ) B (M' := mX1_wayAt) (as := [.int (nI i)]) (st := []) (v := .ref q) dX11_wayOf_5 wX1_wayAt iX1_wayAt sX1_wayAt kX11_102 (hl.n (k := 20) (by decide)) (hl.k (k := 20) (by decide)) (by decide) rfl rfl (t_X1_wayAt_in (σ := σ) H hi hq) rfl rfl (by decide) (by decide) (Nat.le_of_ble_eq_true rfl) (by decide) (by decide) ?_
  refine Z.astore_n B dX11_wayOf_8 (by decide) rfl (L' := [(0, .ref 0), (1, .int (nI i)), (2, .int (nI 0)), (3, .ref q)]) rfl ?_
  refine Z.aload_n B dX11_wayOf_9 (v := .ref q) rfl rfl ?_
  refine Z.ifnull_r B dX11_wayOf_10 ?_
  refine Z.iload_n B dX11_wayOf_13 (x := nI 0) rfl ?_
  refine Z.if_ltN B dX11_wayOf_14 (tgt := 22) rfl (by omega) ?_
  refine Z.iload_n B dX11_wayOf_17 (x := nI 0) rfl ?_
  refine Z.iconst B dX11_wayOf_18 (v := nI 2) rfl ?_
  refine Z.icmp_ltN B dX11_wayOf_19 (tgt := 28) rfl (by omega) (by omega) (fun h19 => ?_) (fun h19 => by exfalso; first | omega | contradiction | simp_all)
  refine Z.iload_n B dX11_wayOf_28 (x := nI 0) rfl ?_
  refine Z.if_neN B dX11_wayOf_29 (tgt := 39) rfl (by omega) (fun h29 => by exfalso; first | omega | contradiction | simp_all) (fun h29 => ?_)
  refine Z.aload_n B dX11_wayOf_32 (v := .ref q) rfl rfl ?_
  refine Z.getI (σ := σ) B fX11_167_10 dX11_wayOf_33 hw.1 hw.2.1 (by decide) (v := nI 3) hw.2.2.2.1 ?_
  refine Z.goto B dX11_wayOf_36 (tgt := 43) rfl ?_
  refine Z.iret B Rt dX11_wayOf_43 (ty := .int) rfl rfl (by decide) (by decide) ?_
  exact ⟨rfl, rfl⟩

theorem t_K_wayOf_0_3_1 {σ : zSt} (hl : Lay σ) {n a y : Nat} (H : zHd σ n a y) {i q pa num : Nat} (hi : i < y) (hq : zR σ 24 i = some q) (hw : zWo σ q 3 pa num) : Dt mX11_wayOf [.ref 0, .int (nI i), .int (nI 1)] σ (some (.int (nI pa))) σ := by
  refine Dt.of (by decide) (Nat.le_of_ble_eq_true rfl) fun κ B Rt => ?_
  show Z κ 0 0 σ 0 [(0, .ref 0), (1, .int (nI i)), (2, .int (nI 1))] []
  refine Z.aload_n B dX11_wayOf_0 (v := .ref 0) rfl rfl ?_
  refine Z.getR (σ := σ) B fX11_28_11 dX11_wayOf_1 (hl.n (k := 0) (by decide)) (hl.k (k := 0) (by decide)) (by decide) (j := 20) (hl.r (k := 0) (f := 2) (by decide) (by decide)) ?_
  refine Z.iload_n B dX11_wayOf_4 (x := nI i) rfl ?_
  refine Z.callVI (σ := σ) B (M' := mX1_wayAt) (as := [.int (nI i)]) (st := []) (v := .ref q) dX11_wayOf_5 wX1_wayAt iX1_wayAt sX1_wayAt kX11_102 (hl.n (k := 20) (by decide)) (hl.k (k := 20) (by decide)) (by decide) rfl rfl (t_X1_wayAt_in (σ := σ) H hi hq) rfl rfl (by decide) (by decide) (Nat.le_of_ble_eq_true rfl) (by decide) (by decide) ?_
  refine Z.astore_n B dX11_wayOf_8 (by decide) rfl (L' := [(0, .ref 0), (1, .int (nI i)), (2, .int (nI 1)), (3, .ref q)]) rfl ?_
  refine Z.aload_n B dX11_wayOf_9 (v := .ref q) rfl rfl ?_
  refine Z.ifnull_r B dX11_wayOf_10 ?_
  refine Z.iload_n B dX11_wayOf_13 (x := nI 1) rfl ?_
  refine Z.if_ltN B dX11_wayOf_14 (tgt := 22) rfl (by omega) ?_
  refine Z.iload_n B dX11_wayOf_17 (x := nI 1) rfl ?_
  refine Z.iconst B dX11_wayOf_18 (v := nI 2) rfl ?_
  refine Z.icmp_ltN B dX11_wayOf_19 (tgt := 28) rfl (by omega) (by omega) (fun h19 => ?_) (fun h19 => by exfalso; first | omega | contradiction | simp_all)
  refine Z.iload_n B dX11_wayOf_28 (x := nI 1) rfl ?_
  refine Z.if_neN B dX11_wayOf_29 (tgt := 39) rfl (by omega) (fun h29 => ?_) (fun h29 => by exfalso; first | omega | contradiction | simp_all)
  refine Z.aload_n B dX11_wayOf_39 (v := .ref q) rfl rfl ?_
  refine Z.getI (σ := σ) B fX11_172_10 dX11_wayOf_40 hw.1 hw.2.1 (by decide) (v := nI pa) hw.2.2.2.2.2.1 ?_
  refine Z.iret B Rt dX11_wayOf_43 (ty := .int) rfl rfl (by decide) (by decide) ?_
  exact ⟨rfl, rfl⟩

theorem t_K_wayOf_0_4_0 {σ : zSt} (hl : Lay σ) {n a y : Nat} (H : zHd σ n a y) {i q pa num : Nat} (hi : i < y) (hq : zR σ 24 i = some q) (hw : zWo σ q 4 pa num) : Dt mX11_wayOf [.ref 0, .int (nI i), .int (nI 0)] σ (some (.int (nI 4))) σ := by
  refine Dt.of (by decide) (Nat.le_of_ble_eq_true rfl) fun κ B Rt => ?_
  show Z κ 0 0 σ 0 [(0, .ref 0), (1, .int (nI i)), (2, .int (nI 0))] []
  refine Z.aload_n B dX11_wayOf_0 (v := .ref 0) rfl rfl ?_
  refine Z.getR (σ := σ) B fX11_28_11 dX11_wayOf_1 (hl.n (k := 0) (by decide)) (hl.k (k := 0) (by decide)) (by decide) (j := 20) (hl.r (k := 0) (f := 2) (by decide) (by decide)) ?_
  refine Z.iload_n B dX11_wayOf_4 (x := nI i) rfl ?_
  refine Z.callVI (σ := σ) B (M' := mX1_wayAt) (as := [.int (nI i)]) (st := []) (v := .ref q) dX11_wayOf_5 wX1_wayAt iX1_wayAt sX1_wayAt kX11_102 (hl.n (k := 20) (by decide)) (hl.k (k := 20) (by decide)) (by decide) rfl rfl (t_X1_wayAt_in (σ := σ) H hi hq) rfl rfl (by decide) (by decide) (Nat.le_of_ble_eq_true rfl) (by decide) (by decide) ?_
  refine Z.astore_n B dX11_wayOf_8 (by decide) rfl (L' := [(0, .ref 0), (1, .int (nI i)), (2, .int (nI 0)), (3, .ref q)]) rfl ?_
  refine Z.aload_n B dX11_wayOf_9 (v := .ref q) rfl rfl ?_
  refine Z.ifnull_r B dX11_wayOf_10 ?_
  refine Z.iload_n B dX11_wayOf_13 (x := nI 0) rfl ?_
  refine Z.if_ltN B dX11_wayOf_14 (tgt := 22) rfl (by omega) ?_
  refine Z.iload_n B dX11_wayOf_17 (x := nI 0) rfl ?_
  refine Z.iconst B dX11_wayOf_18 (v := nI 2) rfl ?_
  refine Z.icmp_ltN B dX11_wayOf_19 (tgt := 28) rfl (by omega) (by omega) (fun h19 => ?_) (fun h19 => by exfalso; first | omega | contradiction | simp_all)
  refine Z.iload_n B dX11_wayOf_28 (x := nI 0) rfl ?_
  refine Z.if_neN B dX11_wayOf_29 (tgt := 39) rfl (by omega) (fun h29 => by exfalso; first | omega | contradiction | simp_all) (fun h29 => ?_)
  refine Z.aload_n B dX11_wayOf_32 (v := .ref q) rfl rfl ?_
  refine Z.getI (σ := σ) B fX11_167_3 dX11_wayOf_33 hw.1 hw.2.1 (by decide) (v := nI 4) hw.2.2.2.1 ?_
  refine Z.goto B dX11_wayOf_36 (tgt := 43) rfl ?_
  refine Z.iret B Rt dX11_wayOf_43 (ty := .int) rfl rfl (by decide) (by decide) ?_
  exact ⟨rfl, rfl⟩

theorem t_K_wayOf_0_4_1 {σ : zSt} (hl : Lay σ) {n a y : Nat} (H : zHd σ n a y) {i q pa num : Nat} (hi : i < y) (hq : zR σ 24 i = some q) (hw : zWo σ q 4 pa num) : Dt mX11_wayOf [.ref 0, .int (nI i), .int (nI 1)] σ (some (.int (nI pa))) σ := by
  refine Dt.of (by decide) (Nat.le_of_ble_eq_true rfl) fun κ B Rt => ?_
  show Z κ 0 0 σ 0 [(0, .ref 0), (1, .int (nI i)), (2, .int (nI 1))] []
  refine Z.aload_n B dX11_wayOf_0 (v := .ref 0) rfl rfl ?_
  refine Z.getR (σ := σ) B fX11_28_11 dX11_wayOf_1 (hl.n (k := 0) (by decide)) (hl.k (k := 0) (by decide)) (by decide) (j := 20) (hl.r (k := 0) (f := 2) (by decide) (by decide)) ?_
  refine Z.iload_n B dX11_wayOf_4 (x := nI i) rfl ?_
  refine Z.callVI (σ := σ) B (M' := mX1_wayAt) (as := [.int (nI i)]) (st := []) (v := .ref q) dX11_wayOf_5 wX1_wayAt iX1_wayAt sX1_wayAt kX11_102 (hl.n (k := 20) (by decide)) (hl.k (k := 20) (by decide)) (by decide) rfl rfl (t_X1_wayAt_in (σ := σ) H hi hq) rfl rfl (by decide) (by decide) (Nat.le_of_ble_eq_true rfl) (by decide) (by decide) ?_
  refine Z.astore_n B dX11_wayOf_8 (by decide) rfl (L' := [(0, .ref 0), (1, .int (nI i)), (2, .int (nI 1)), (3, .ref q)]) rfl ?_
  refine Z.aload_n B dX11_wayOf_9 (v := .ref q) rfl rfl ?_
  refine Z.ifnull_r B dX11_wayOf_10 ?_
  refine Z.iload_n B dX11_wayOf_13 (x := nI 1) rfl ?_
  refine Z.if_ltN B dX11_wayOf_14 (tgt := 22) rfl (by omega) ?_
  refine Z.iload_n B dX11_wayOf_17 (x := nI 1) rfl ?_
  refine Z.iconst B dX11_wayOf_18 (v := nI 2) rfl ?_
  refine Z.icmp_ltN B dX11_wayOf_19 (tgt := 28) rfl (by omega) (by omega) (fun h19 => ?_) (fun h19 => by exfalso; first | omega | contradiction | simp_all)
  refine Z.iload_n B dX11_wayOf_28 (x := nI 1) rfl ?_
  refine Z.if_neN B dX11_wayOf_29 (tgt := 39) rfl (by omega) (fun h29 => ?_) (fun h29 => by exfalso; first | omega | contradiction | simp_all)
  refine Z.aload_n B dX11_wayOf_39 (v := .ref q) rfl rfl ?_
  refine Z.getI (σ := σ) B fX11_172_3 dX11_wayOf_40 hw.1 hw.2.1 (by decide) (v := nI pa) hw.2.2.2.2.2.1 ?_
  refine Z.iret B Rt dX11_wayOf_43 (ty := .int) rfl rfl (by decide) (by decide) ?_
  exact ⟨rfl, rfl⟩

theorem t_K_wayOf_0_5_0 {σ : zSt} (hl : Lay σ) {n a y : Nat} (H : zHd σ n a y) {i q pa num : Nat} (hi : i < y) (hq : zR σ 24 i = some q) (hw : zWo σ q 5 pa num) : Dt mX11_wayOf [.ref 0, .int (nI i), .int (nI 0)] σ (some (.int (nI 5))) σ := by
  refine Dt.of (by decide) (Nat.le_of_ble_eq_true rfl) fun κ B Rt => ?_
  show Z κ 0 0 σ 0 [(0, .ref 0), (1, .int (nI i)), (2, .int (nI 0))] []
  refine Z.aload_n B dX11_wayOf_0 (v := .ref 0) rfl rfl ?_
  refine Z.getR (σ := σ) B fX11_28_11 dX11_wayOf_1 (hl.n (k := 0) (by decide)) (hl.k (k := 0) (by decide)) (by decide) (j := 20) (hl.r (k := 0) (f := 2) (by decide) (by decide)) ?_
  refine Z.iload_n B dX11_wayOf_4 (x := nI i) rfl ?_
  refine Z.callVI (σ := σ) B (M' := mX1_wayAt) (as := [.int (nI i)]) (st := []) (v := .ref q) dX11_wayOf_5 wX1_wayAt iX1_wayAt sX1_wayAt kX11_102 (hl.n (k := 20) (by decide)) (hl.k (k := 20) (by decide)) (by decide) rfl rfl (t_X1_wayAt_in (σ := σ) H hi hq) rfl rfl (by decide) (by decide) (Nat.le_of_ble_eq_true rfl) (by decide) (by decide) ?_
  refine Z.astore_n B dX11_wayOf_8 (by decide) rfl (L' := [(0, .ref 0), (1, .int (nI i)), (2, .int (nI 0)), (3, .ref q)]) rfl ?_
  refine Z.aload_n B dX11_wayOf_9 (v := .ref q) rfl rfl ?_
  refine Z.ifnull_r B dX11_wayOf_10 ?_
  refine Z.iload_n B dX11_wayOf_13 (x := nI 0) rfl ?_
  refine Z.if_ltN B dX11_wayOf_14 (tgt := 22) rfl (by omega) ?_
  refine Z.iload_n B dX11_wayOf_17 (x := nI 0) rfl ?_
  refine Z.iconst B dX11_wayOf_18 (v := nI 2) rfl ?_
  refine Z.icmp_ltN B dX11_wayOf_19 (tgt := 28) rfl (by omega) (by omega) (fun h19 => ?_) (fun h19 => by exfalso; first | omega | contradiction | simp_all)
  refine Z.iload_n B dX11_wayOf_28 (x := nI 0) rfl ?_
  refine Z.if_neN B dX11_wayOf_29 (tgt := 39) rfl (by omega) (fun h29 => by exfalso; first | omega | contradiction | simp_all) (fun h29 => ?_)
  refine Z.aload_n B dX11_wayOf_32 (v := .ref q) rfl rfl ?_
  refine Z.getI (σ := σ) B fX11_167_5 dX11_wayOf_33 hw.1 hw.2.1 (by decide) (v := nI 5) hw.2.2.2.1 ?_
  refine Z.goto B dX11_wayOf_36 (tgt := 43) rfl ?_
  refine Z.iret B Rt dX11_wayOf_43 (ty := .int) rfl rfl (by decide) (by decide) ?_
  exact ⟨rfl, rfl⟩

theorem t_K_wayOf_0_5_1 {σ : zSt} (hl : Lay σ) {n a y : Nat} (H : zHd σ n a y) {i q pa num : Nat} (hi : i < y) (hq : zR σ 24 i = some q) (hw : zWo σ q 5 pa num) : Dt mX11_wayOf [.ref 0, .int (nI i), .int (nI 1)] σ (some (.int (nI pa))) σ := by
  refine Dt.of (by decide) (Nat.le_of_ble_eq_true rfl) fun κ B Rt => ?_
  show Z κ 0 0 σ 0 [(0, .ref 0), (1, .int (nI i)), (2, .int (nI 1))] []
  refine Z.aload_n B dX11_wayOf_0 (v := .ref 0) rfl rfl ?_
  refine Z.getR (σ := σ) B fX11_28_11 dX11_wayOf_1 (hl.n (k := 0) (by decide)) (hl.k (k := 0) (by decide)) (by decide) (j := 20) (hl.r (k := 0) (f := 2) (by decide) (by decide)) ?_
  refine Z.iload_n B dX11_wayOf_4 (x := nI i) rfl ?_
  refine Z.callVI (σ := σ) B (M' := mX1_wayAt) (as := [.int (nI i)]) (st := []) (v := .ref q) dX11_wayOf_5 wX1_wayAt iX1_wayAt sX1_wayAt kX11_102 (hl.n (k := 20) (by decide)) (hl.k (k := 20) (by decide)) (by decide) rfl rfl (t_X1_wayAt_in (σ := σ) H hi hq) rfl rfl (by decide) (by decide) (Nat.le_of_ble_eq_true rfl) (by decide) (by decide) ?_
  refine Z.astore_n B dX11_wayOf_8 (by decide) rfl (L' := [(0, .ref 0), (1, .int (nI i)), (2, .int (nI 1)), (3, .ref q)]) rfl ?_
  refine Z.aload_n B dX11_wayOf_9 (v := .ref q) rfl rfl ?_
  refine Z.ifnull_r B dX11_wayOf_10 ?_
  refine Z.iload_n B dX11_wayOf_13 (x := nI 1) rfl ?_
  refine Z.if_ltN B dX11_wayOf_14 (tgt := 22) rfl (by omega) ?_
  refine Z.iload_n B dX11_wayOf_17 (x := nI 1) rfl ?_
  refine Z.iconst B dX11_wayOf_18 (v := nI 2) rfl ?_
  refine Z.icmp_ltN B dX11_wayOf_19 (tgt := 28) rfl (by omega) (by omega) (fun h19 => ?_) (fun h19 => by exfalso; first | omega | contradiction | simp_all)
  refine Z.iload_n B dX11_wayOf_28 (x := nI 1) rfl ?_
  refine Z.if_neN B dX11_wayOf_29 (tgt := 39) rfl (by omega) (fun h29 => ?_) (fun h29 => by exfalso; first | omega | contradiction | simp_all)
  refine Z.aload_n B dX11_wayOf_39 (v := .ref q) rfl rfl ?_
  refine Z.getI (σ := σ) B fX11_172_5 dX11_wayOf_40 hw.1 hw.2.1 (by decide) (v := nI pa) hw.2.2.2.2.2.1 ?_
  refine Z.iret B Rt dX11_wayOf_43 (ty := .int) rfl rfl (by decide) (by decide) ?_
  exact ⟨rfl, rfl⟩

theorem t_K_wayOf_0_6_0 {σ : zSt} (hl : Lay σ) {n a y : Nat} (H : zHd σ n a y) {i q pa num : Nat} (hi : i < y) (hq : zR σ 24 i = some q) (hw : zWo σ q 6 pa num) : Dt mX11_wayOf [.ref 0, .int (nI i), .int (nI 0)] σ (some (.int (nI 6))) σ := by
  refine Dt.of (by decide) (Nat.le_of_ble_eq_true rfl) fun κ B Rt => ?_
  show Z κ 0 0 σ 0 [(0, .ref 0), (1, .int (nI i)), (2, .int (nI 0))] []
  refine Z.aload_n B dX11_wayOf_0 (v := .ref 0) rfl rfl ?_
  refine Z.getR (σ := σ) B fX11_28_11 dX11_wayOf_1 (hl.n (k := 0) (by decide)) (hl.k (k := 0) (by decide)) (by decide) (j := 20) (hl.r (k := 0) (f := 2) (by decide) (by decide)) ?_
  refine Z.iload_n B dX11_wayOf_4 (x := nI i) rfl ?_
  refine Z.callVI (σ := σ) B (M' := mX1_wayAt) (as := [.int (nI i)]) (st := []) (v := .ref q) dX11_wayOf_5 wX1_wayAt iX1_wayAt sX1_wayAt kX11_102 (hl.n (k := 20) (by decide)) (hl.k (k := 20) (by decide)) (by decide) rfl rfl (t_X1_wayAt_in (σ := σ) H hi hq) rfl rfl (by decide) (by decide) (Nat.le_of_ble_eq_true rfl) (by decide) (by decide) ?_
  refine Z.astore_n B dX11_wayOf_8 (by decide) rfl (L' := [(0, .ref 0), (1, .int (nI i)), (2, .int (nI 0)), (3, .ref q)]) rfl ?_
  refine Z.aload_n B dX11_wayOf_9 (v := .ref q) rfl rfl ?_
  refine Z.ifnull_r B dX11_wayOf_10 ?_
  refine Z.iload_n B dX11_wayOf_13 (x := nI 0) rfl ?_
  refine Z.if_ltN B dX11_wayOf_14 (tgt := 22) rfl (by omega) ?_
  refine Z.iload_n B dX11_wayOf_17 (x := nI 0) rfl ?_
  refine Z.iconst B dX11_wayOf_18 (v := nI 2) rfl ?_
  refine Z.icmp_ltN B dX11_wayOf_19 (tgt := 28) rfl (by omega) (by omega) (fun h19 => ?_) (fun h19 => by exfalso; first | omega | contradiction | simp_all)
  refine Z.iload_n B dX11_wayOf_28 (x := nI 0) rfl ?_
  refine Z.if_neN B dX11_wayOf_29 (tgt := 39) rfl (by omega) (fun h29 => by exfalso; first | omega | contradiction | simp_all) (fun h29 => ?_)
  refine Z.aload_n B dX11_wayOf_32 (v := .ref q) rfl rfl ?_
  refine Z.getI (σ := σ) B fX11_167_0 dX11_wayOf_33 hw.1 hw.2.1 (by decide) (v := nI 6) hw.2.2.2.1 ?_
  refine Z.goto B dX11_wayOf_36 (tgt := 43) rfl ?_
  refine Z.iret B Rt dX11_wayOf_43 (ty := .int) rfl rfl (by decide) (by decide) ?_
  exact ⟨rfl, rfl⟩

theorem t_K_wayOf_0_6_1 {σ : zSt} (hl : Lay σ) {n a y : Nat} (H : zHd σ n a y) {i q pa num : Nat} (hi : i < y) (hq : zR σ 24 i = some q) (hw : zWo σ q 6 pa num) : Dt mX11_wayOf [.ref 0, .int (nI i), .int (nI 1)] σ (some (.int (nI pa))) σ := by
  refine Dt.of (by decide) (Nat.le_of_ble_eq_true rfl) fun κ B Rt => ?_
  show Z κ 0 0 σ 0 [(0, .ref 0), (1, .int (nI i)), (2, .int (nI 1))] []
  refine Z.aload_n B dX11_wayOf_0 (v := .ref 0) rfl rfl ?_
  refine Z.getR (σ := σ) B fX11_28_11 dX11_wayOf_1 (hl.n (k := 0) (by decide)) (hl.k (k := 0) (by decide)) (by decide) (j := 20) (hl.r (k := 0) (f := 2) (by decide) (by decide)) ?_
  refine Z.iload_n B dX11_wayOf_4 (x := nI i) rfl ?_
  refine Z.callVI (σ := σ) B (M' := mX1_wayAt) (as := [.int (nI i)]) (st := []) (v := .ref q) dX11_wayOf_5 wX1_wayAt iX1_wayAt sX1_wayAt kX11_102 (hl.n (k := 20) (by decide)) (hl.k (k := 20) (by decide)) (by decide) rfl rfl (t_X1_wayAt_in (σ := σ) H hi hq) rfl rfl (by decide) (by decide) (Nat.le_of_ble_eq_true rfl) (by decide) (by decide) ?_
  refine Z.astore_n B dX11_wayOf_8 (by decide) rfl (L' := [(0, .ref 0), (1, .int (nI i)), (2, .int (nI 1)), (3, .ref q)]) rfl ?_
  refine Z.aload_n B dX11_wayOf_9 (v := .ref q) rfl rfl ?_
  refine Z.ifnull_r B dX11_wayOf_10 ?_
  refine Z.iload_n B dX11_wayOf_13 (x := nI 1) rfl ?_
  refine Z.if_ltN B dX11_wayOf_14 (tgt := 22) rfl (by omega) ?_
  refine Z.iload_n B dX11_wayOf_17 (x := nI 1) rfl ?_
  refine Z.iconst B dX11_wayOf_18 (v := nI 2) rfl ?_
  refine Z.icmp_ltN B dX11_wayOf_19 (tgt := 28) rfl (by omega) (by omega) (fun h19 => ?_) (fun h19 => by exfalso; first | omega | contradiction | simp_all)
  refine Z.iload_n B dX11_wayOf_28 (x := nI 1) rfl ?_
  refine Z.if_neN B dX11_wayOf_29 (tgt := 39) rfl (by omega) (fun h29 => ?_) (fun h29 => by exfalso; first | omega | contradiction | simp_all)
  refine Z.aload_n B dX11_wayOf_39 (v := .ref q) rfl rfl ?_
  refine Z.getI (σ := σ) B fX11_172_0 dX11_wayOf_40 hw.1 hw.2.1 (by decide) (v := nI pa) hw.2.2.2.2.2.1 ?_
  refine Z.iret B Rt dX11_wayOf_43 (ty := .int) rfl rfl (by decide) (by decide) ?_
  exact ⟨rfl, rfl⟩

theorem t_K_change_1 {σ : zSt} (hl : Lay σ) {n a y : Nat} (H : zHd σ n a y) {c : Int32} (hc : zOut c n) {w v : Int32} : Dt mX11_change [.ref 0, .int c, .int w, .int v] σ (some (.int (-nI 1))) (zuX σ 43 (upd (zX σ 43) 1 (zX σ 43 1 + nI 1))) := by
  obtain ⟨-, hn, hn8, ha, ha4, hy, hy8⟩ := id H
  refine Dt.of (by decide) (Nat.le_of_ble_eq_true rfl) fun κ B Rt => ?_
  show Z κ 0 0 σ 0 [(0, .ref 0), (1, .int c), (2, .int w), (3, .int v)] []
  refine Z.aload_n B dX11_change_0 (v := .ref 0) rfl rfl ?_
  refine Z.getR (σ := σ) B fX11_28_11 dX11_change_1 (hl.n (k := 0) (by decide)) (hl.k (k := 0) (by decide)) (by decide) (j := 20) (hl.r (k := 0) (f := 2) (by decide) (by decide)) ?_
  refine Z.iload_n B dX11_change_4 (x := c) rfl ?_
  refine Z.callVI (σ := σ) B (M' := mX1_hasComer) (as := [.int c]) (st := []) (v := .int (nI 0)) dX11_change_5 wX1_hasComer iX1_hasComer sX1_hasComer kX11_152 (hl.n (k := 20) (by decide)) (hl.k (k := 20) (by decide)) (by decide) rfl rfl (t_X1_hasComer_out (σ := σ) H hc) rfl rfl (by decide) (by decide) (Nat.le_of_ble_eq_true rfl) (by decide) (by decide) ?_
  refine Z.if_neN B dX11_change_8 (tgt := 17) rfl (by omega) (fun h8 => by exfalso; first | omega | contradiction | simp_all) (fun h8 => ?_)
  refine Z.aload_n B dX11_change_11 (v := .ref 0) rfl rfl ?_
  refine Z.iconst B dX11_change_12 (v := nI 1) rfl ?_
  refine Z.callVI (σ := σ) B (M' := mX11_refuse) (as := [.int (nI 1)]) (st := []) (v := .int (-nI 1)) dX11_change_13 wX11_refuse iX11_refuse sX11_refuse kX11_63 (hl.n (k := 0) (by decide)) (hl.k (k := 0) (by decide)) (by decide) rfl rfl (t_X11_refuse (σ := σ) hl (b := 1) (by decide)) rfl rfl (by decide) (by decide) (Nat.le_of_ble_eq_true rfl) (by decide) (by decide) ?_
  refine Z.eqσ (τ := (zuX σ 43 (upd (zX σ 43) 1 (zX σ 43 1 + nI 1)))) rfl ?_
  refine Z.iret B Rt dX11_change_16 (ty := .int) rfl rfl (by decide) (by decide) ?_
  exact ⟨rfl, rfl⟩

theorem t_K_change_5 {σ : zSt} (hl : Lay σ) {n a y : Nat} (H : zHd σ n a y) {c : Nat} (hc : c < n) {w v : Int32} (hw : zOut w 6) : Dt mX11_change [.ref 0, .int (nI c), .int w, .int v] σ (some (.int (-nI 5))) (zuX σ 43 (upd (zX σ 43) 5 (zX σ 43 5 + nI 1))) := by
  obtain ⟨-, hn, hn8, ha, ha4, hy, hy8⟩ := id H
  refine Dt.of (by decide) (Nat.le_of_ble_eq_true rfl) fun κ B Rt => ?_
  show Z κ 0 0 σ 0 [(0, .ref 0), (1, .int (nI c)), (2, .int w), (3, .int v)] []
  refine Z.aload_n B dX11_change_0 (v := .ref 0) rfl rfl ?_
  refine Z.getR (σ := σ) B fX11_28_11 dX11_change_1 (hl.n (k := 0) (by decide)) (hl.k (k := 0) (by decide)) (by decide) (j := 20) (hl.r (k := 0) (f := 2) (by decide) (by decide)) ?_
  refine Z.iload_n B dX11_change_4 (x := nI c) rfl ?_
  refine Z.callVI (σ := σ) B (M' := mX1_hasComer) (as := [.int (nI c)]) (st := []) (v := .int (nI 1)) dX11_change_5 wX1_hasComer iX1_hasComer sX1_hasComer kX11_152 (hl.n (k := 20) (by decide)) (hl.k (k := 20) (by decide)) (by decide) rfl rfl (t_X1_hasComer_in (σ := σ) H hc) rfl rfl (by decide) (by decide) (Nat.le_of_ble_eq_true rfl) (by decide) (by decide) ?_
  refine Z.if_neN B dX11_change_8 (tgt := 17) rfl (by omega) (fun h8 => ?_) (fun h8 => by exfalso; first | omega | contradiction | simp_all)
  refine Z.iload_n B dX11_change_17 (x := w) rfl ?_
  refine Z.if_lt B dX11_change_18 (tgt := 27) rfl (fun h18 => ?_) (fun h18 => ?_)
  · skip
    refine Z.aload_n B dX11_change_27 (v := .ref 0) rfl rfl ?_
    refine Z.iconst B dX11_change_28 (v := nI 5) rfl ?_
    refine Z.callVI (σ := σ) B (M' := mX11_refuse) (as := [.int (nI 5)]) (st := []) (v := .int (-nI 5)) dX11_change_29 wX11_refuse iX11_refuse sX11_refuse kX11_63 (hl.n (k := 0) (by decide)) (hl.k (k := 0) (by decide)) (by decide) rfl rfl (t_X11_refuse (σ := σ) hl (b := 5) (by decide)) rfl rfl (by decide) (by decide) (Nat.le_of_ble_eq_true rfl) (by decide) (by decide) ?_
    refine Z.eqσ (τ := (zuX σ 43 (upd (zX σ 43) 5 (zX σ 43 5 + nI 1)))) rfl ?_
    refine Z.iret B Rt dX11_change_32 (ty := .int) rfl rfl (by decide) (by decide) ?_
    exact ⟨rfl, rfl⟩
  · skip
    refine Z.iload_n B dX11_change_21 (x := w) rfl ?_
    refine Z.bipush B dX11_change_22 (v := nI 6) rfl ?_
    refine Z.icmp_lt B dX11_change_24 (tgt := 33) rfl (fun h24 => (zo_lt hw h18 h24).elim) (fun h24 => ?_)
    refine Z.aload_n B dX11_change_27 (v := .ref 0) rfl rfl ?_
    refine Z.iconst B dX11_change_28 (v := nI 5) rfl ?_
    refine Z.callVI (σ := σ) B (M' := mX11_refuse) (as := [.int (nI 5)]) (st := []) (v := .int (-nI 5)) dX11_change_29 wX11_refuse iX11_refuse sX11_refuse kX11_63 (hl.n (k := 0) (by decide)) (hl.k (k := 0) (by decide)) (by decide) rfl rfl (t_X11_refuse (σ := σ) hl (b := 5) (by decide)) rfl rfl (by decide) (by decide) (Nat.le_of_ble_eq_true rfl) (by decide) (by decide) ?_
    refine Z.eqσ (τ := (zuX σ 43 (upd (zX σ 43) 5 (zX σ 43 5 + nI 1)))) rfl ?_
    refine Z.iret B Rt dX11_change_32 (ty := .int) rfl rfl (by decide) (by decide) ?_
    exact ⟨rfl, rfl⟩

theorem t_K_change_6 {σ : zSt} (hl : Lay σ) {n a y : Nat} (H : zHd σ n a y) {c : Nat} (hc : c < n) {w : Nat} {v : Int32} (hw : w < 6) (hv : zOut v (mo w + 1)) : Dt mX11_change [.ref 0, .int (nI c), .int (nI w), .int v] σ (some (.int (-nI 6))) (zuX σ 43 (upd (zX σ 43) 6 (zX σ 43 6 + nI 1))) := by
  obtain ⟨-, hn, hn8, ha, ha4, hy, hy8⟩ := id H
  refine Dt.of (by decide) (Nat.le_of_ble_eq_true rfl) fun κ B Rt => ?_
  show Z κ 0 0 σ 0 [(0, .ref 0), (1, .int (nI c)), (2, .int (nI w)), (3, .int v)] []
  refine Z.aload_n B dX11_change_0 (v := .ref 0) rfl rfl ?_
  refine Z.getR (σ := σ) B fX11_28_11 dX11_change_1 (hl.n (k := 0) (by decide)) (hl.k (k := 0) (by decide)) (by decide) (j := 20) (hl.r (k := 0) (f := 2) (by decide) (by decide)) ?_
  refine Z.iload_n B dX11_change_4 (x := nI c) rfl ?_
  refine Z.callVI (σ := σ) B (M' := mX1_hasComer) (as := [.int (nI c)]) (st := []) (v := .int (nI 1)) dX11_change_5 wX1_hasComer iX1_hasComer sX1_hasComer kX11_152 (hl.n (k := 20) (by decide)) (hl.k (k := 20) (by decide)) (by decide) rfl rfl (t_X1_hasComer_in (σ := σ) H hc) rfl rfl (by decide) (by decide) (Nat.le_of_ble_eq_true rfl) (by decide) (by decide) ?_
  refine Z.if_neN B dX11_change_8 (tgt := 17) rfl (by omega) (fun h8 => ?_) (fun h8 => by exfalso; first | omega | contradiction | simp_all)
  refine Z.iload_n B dX11_change_17 (x := nI w) rfl ?_
  refine Z.if_ltN B dX11_change_18 (tgt := 27) rfl (by omega) ?_
  refine Z.iload_n B dX11_change_21 (x := nI w) rfl ?_
  refine Z.bipush B dX11_change_22 (v := nI 6) rfl ?_
  refine Z.icmp_ltN B dX11_change_24 (tgt := 33) rfl (by omega) (by omega) (fun h24 => ?_) (fun h24 => by exfalso; first | omega | contradiction | simp_all)
  refine Z.iload_n B dX11_change_33 (x := v) rfl ?_
  refine Z.gets B (x := 0) zKon0 (zT_at 441 (by decide +kernel) rfl) dX11_change_34 ?_
  refine Z.iload_n B dX11_change_37 (x := nI w) rfl ?_
  refine Z.cld B (j := w) zKt0 dX11_change_38 (by decide) (by omega) (v := nI (mo w)) (mo_A (by omega)) ?_
  have hmo : mo w ≤ 9 := mo_le
  refine Z.callSI (σ := σ) B (M' := mX11_isUpTo) (as := [.int v, .int (nI (mo w))]) (st := []) (v := .int (nI 0)) dX11_change_39 wX11_isUpTo iX11_isUpTo kX11_127 (t_X11_isUpTo_out (σ := σ) hv (by omega)) rfl rfl (by decide) (by decide) (Nat.le_of_ble_eq_true rfl) (by decide) (by decide) ?_
  refine Z.if_neN B dX11_change_42 (tgt := 52) rfl (by omega) (fun h42 => by exfalso; first | omega | contradiction | simp_all) (fun h42 => ?_)
  refine Z.aload_n B dX11_change_45 (v := .ref 0) rfl rfl ?_
  refine Z.bipush B dX11_change_46 (v := nI 6) rfl ?_
  refine Z.callVI (σ := σ) B (M' := mX11_refuse) (as := [.int (nI 6)]) (st := []) (v := .int (-nI 6)) dX11_change_48 wX11_refuse iX11_refuse sX11_refuse kX11_63 (hl.n (k := 0) (by decide)) (hl.k (k := 0) (by decide)) (by decide) rfl rfl (t_X11_refuse (σ := σ) hl (b := 6) (by decide)) rfl rfl (by decide) (by decide) (Nat.le_of_ble_eq_true rfl) (by decide) (by decide) ?_
  refine Z.eqσ (τ := (zuX σ 43 (upd (zX σ 43) 6 (zX σ 43 6 + nI 1)))) rfl ?_
  refine Z.iret B Rt dX11_change_51 (ty := .int) rfl rfl (by decide) (by decide) ?_
  exact ⟨rfl, rfl⟩

theorem t_K_change_0 {σ : zSt} (hl : Lay σ) {n a y : Nat} (H : zHd σ n a y) {c : Nat} (hc : c < n) {w v : Nat} (hw : w < 6) (hv : v ≤ mo w) : Dt mX11_change [.ref 0, .int (nI c), .int (nI w), .int (nI v)] σ (some (.int (cn (zX σ 21) c w))) (zuX σ 21 (upd (zX σ 21) (c * 6 + w) (nI v))) := by
  obtain ⟨-, hn, hn8, ha, ha4, hy, hy8⟩ := id H
  refine Dt.of (by decide) (Nat.le_of_ble_eq_true rfl) fun κ B Rt => ?_
  show Z κ 0 0 σ 0 [(0, .ref 0), (1, .int (nI c)), (2, .int (nI w)), (3, .int (nI v))] []
  refine Z.aload_n B dX11_change_0 (v := .ref 0) rfl rfl ?_
  refine Z.getR (σ := σ) B fX11_28_11 dX11_change_1 (hl.n (k := 0) (by decide)) (hl.k (k := 0) (by decide)) (by decide) (j := 20) (hl.r (k := 0) (f := 2) (by decide) (by decide)) ?_
  refine Z.iload_n B dX11_change_4 (x := nI c) rfl ?_
  refine Z.callVI (σ := σ) B (M' := mX1_hasComer) (as := [.int (nI c)]) (st := []) (v := .int (nI 1)) dX11_change_5 wX1_hasComer iX1_hasComer sX1_hasComer kX11_152 (hl.n (k := 20) (by decide)) (hl.k (k := 20) (by decide)) (by decide) rfl rfl (t_X1_hasComer_in (σ := σ) H hc) rfl rfl (by decide) (by decide) (Nat.le_of_ble_eq_true rfl) (by decide) (by decide) ?_
  refine Z.if_neN B dX11_change_8 (tgt := 17) rfl (by omega) (fun h8 => ?_) (fun h8 => by exfalso; first | omega | contradiction | simp_all)
  refine Z.iload_n B dX11_change_17 (x := nI w) rfl ?_
  refine Z.if_ltN B dX11_change_18 (tgt := 27) rfl (by omega) ?_
  refine Z.iload_n B dX11_change_21 (x := nI w) rfl ?_
  refine Z.bipush B dX11_change_22 (v := nI 6) rfl ?_
  refine Z.icmp_ltN B dX11_change_24 (tgt := 33) rfl (by omega) (by omega) (fun h24 => ?_) (fun h24 => by exfalso; first | omega | contradiction | simp_all)
  refine Z.iload_n B dX11_change_33 (x := nI v) rfl ?_
  refine Z.gets B (x := 0) zKon0 (zT_at 441 (by decide +kernel) rfl) dX11_change_34 ?_
  refine Z.iload_n B dX11_change_37 (x := nI w) rfl ?_
  refine Z.cld B (j := w) zKt0 dX11_change_38 (by decide) (by omega) (v := nI (mo w)) (mo_A (by omega)) ?_
  have hmo : mo w ≤ 9 := mo_le
  refine Z.callSI (σ := σ) B (M' := mX11_isUpTo) (as := [.int (nI v), .int (nI (mo w))]) (st := []) (v := .int (nI 1)) dX11_change_39 wX11_isUpTo iX11_isUpTo kX11_127 (t_X11_isUpTo_in (σ := σ) hv (by omega)) rfl rfl (by decide) (by decide) (Nat.le_of_ble_eq_true rfl) (by decide) (by decide) ?_
  refine Z.if_neN B dX11_change_42 (tgt := 52) rfl (by omega) (fun h42 => ?_) (fun h42 => by exfalso; first | omega | contradiction | simp_all)
  refine Z.aload_n B dX11_change_52 (v := .ref 0) rfl rfl ?_
  refine Z.getR (σ := σ) B fX11_28_11 dX11_change_53 (hl.n (k := 0) (by decide)) (hl.k (k := 0) (by decide)) (by decide) (j := 20) (hl.r (k := 0) (f := 2) (by decide) (by decide)) ?_
  refine Z.iload_n B dX11_change_56 (x := nI c) rfl ?_
  refine Z.iload_n B dX11_change_57 (x := nI w) rfl ?_
  refine Z.callVI (σ := σ) B (M' := mX1_comerNumber) (as := [.int (nI c), .int (nI w)]) (st := []) (v := .int (cn (zX σ 21) c w)) dX11_change_58 wX1_comerNumber iX1_comerNumber sX1_comerNumber kX11_155 (hl.n (k := 20) (by decide)) (hl.k (k := 20) (by decide)) (by decide) rfl rfl (t_X1_comerNumber (σ := σ) H hc (by omega)) rfl rfl (by decide) (by decide) (Nat.le_of_ble_eq_true rfl) (by decide) (by decide) ?_
  refine Z.istore B dX11_change_61 (by decide) (L' := [(0, .ref 0), (1, .int (nI c)), (2, .int (nI w)), (3, .int (nI v)), (4, .int (cn (zX σ 21) c w))]) rfl ?_
  refine Z.aload_n B dX11_change_63 (v := .ref 0) rfl rfl ?_
  refine Z.getR (σ := σ) B fX11_28_11 dX11_change_64 (hl.n (k := 0) (by decide)) (hl.k (k := 0) (by decide)) (by decide) (j := 20) (hl.r (k := 0) (f := 2) (by decide) (by decide)) ?_
  refine Z.iload_n B dX11_change_67 (x := nI c) rfl ?_
  refine Z.iload_n B dX11_change_68 (x := nI w) rfl ?_
  refine Z.iload_n B dX11_change_69 (x := nI v) rfl ?_
  refine Z.callVN (σ := σ) B (M' := mX1_putComerNumber) (as := [.int (nI c), .int (nI w), .int (nI v)]) (st := []) dX11_change_70 wX1_putComerNumber iX1_putComerNumber sX1_putComerNumber kX11_175 (hl.n (k := 20) (by decide)) (hl.k (k := 20) (by decide)) (by decide) rfl rfl (t_X1_putComerNumber (σ := σ) H hc hw) rfl rfl (by decide) (by decide) (Nat.le_of_ble_eq_true rfl) (by decide) (by decide) ?_
  refine Z.eqσ (τ := (zuX σ 21 (upd (zX σ 21) (c * 6 + w) (nI v)))) rfl ?_
  refine Z.iload B dX11_change_73 (x := cn (zX σ 21) c w) rfl ?_
  refine Z.iret B Rt dX11_change_75 (ty := .int) rfl rfl (by decide) (by decide) ?_
  exact ⟨rfl, rfl⟩

theorem t_K_drawn_1 {σ : zSt} (hl : Lay σ) {n a y : Nat} (H : zHd σ n a y) {b : Int32} (hb : zOut b a) {v : Int32} : Dt mX11_drawn [.ref 0, .int b, .int v] σ (some (.int (-nI 1))) (zuX σ 43 (upd (zX σ 43) 1 (zX σ 43 1 + nI 1))) := by
  obtain ⟨-, hn, hn8, ha, ha4, hy, hy8⟩ := id H
  refine Dt.of (by decide) (Nat.le_of_ble_eq_true rfl) fun κ B Rt => ?_
  show Z κ 0 0 σ 0 [(0, .ref 0), (1, .int b), (2, .int v)] []
  refine Z.aload_n B dX11_drawn_0 (v := .ref 0) rfl rfl ?_
  refine Z.getR (σ := σ) B fX11_28_11 dX11_drawn_1 (hl.n (k := 0) (by decide)) (hl.k (k := 0) (by decide)) (by decide) (j := 20) (hl.r (k := 0) (f := 2) (by decide) (by decide)) ?_
  refine Z.iload_n B dX11_drawn_4 (x := b) rfl ?_
  refine Z.callVI (σ := σ) B (M' := mX1_hasAsker) (as := [.int b]) (st := []) (v := .int (nI 0)) dX11_drawn_5 wX1_hasAsker iX1_hasAsker sX1_hasAsker kX11_158 (hl.n (k := 20) (by decide)) (hl.k (k := 20) (by decide)) (by decide) rfl rfl (t_X1_hasAsker_out (σ := σ) H hb) rfl rfl (by decide) (by decide) (Nat.le_of_ble_eq_true rfl) (by decide) (by decide) ?_
  refine Z.if_neN B dX11_drawn_8 (tgt := 17) rfl (by omega) (fun h8 => by exfalso; first | omega | contradiction | simp_all) (fun h8 => ?_)
  refine Z.aload_n B dX11_drawn_11 (v := .ref 0) rfl rfl ?_
  refine Z.iconst B dX11_drawn_12 (v := nI 1) rfl ?_
  refine Z.callVI (σ := σ) B (M' := mX11_refuse) (as := [.int (nI 1)]) (st := []) (v := .int (-nI 1)) dX11_drawn_13 wX11_refuse iX11_refuse sX11_refuse kX11_63 (hl.n (k := 0) (by decide)) (hl.k (k := 0) (by decide)) (by decide) rfl rfl (t_X11_refuse (σ := σ) hl (b := 1) (by decide)) rfl rfl (by decide) (by decide) (Nat.le_of_ble_eq_true rfl) (by decide) (by decide) ?_
  refine Z.eqσ (τ := (zuX σ 43 (upd (zX σ 43) 1 (zX σ 43 1 + nI 1)))) rfl ?_
  refine Z.iret B Rt dX11_drawn_16 (ty := .int) rfl rfl (by decide) (by decide) ?_
  exact ⟨rfl, rfl⟩

theorem t_K_drawn_6 {σ : zSt} (hl : Lay σ) {n a y : Nat} (H : zHd σ n a y) {b : Nat} (hb : b < a) {v : Int32} (hv : zOut v 11) : Dt mX11_drawn [.ref 0, .int (nI b), .int v] σ (some (.int (-nI 6))) (zuX σ 43 (upd (zX σ 43) 6 (zX σ 43 6 + nI 1))) := by
  obtain ⟨-, hn, hn8, ha, ha4, hy, hy8⟩ := id H
  refine Dt.of (by decide) (Nat.le_of_ble_eq_true rfl) fun κ B Rt => ?_
  show Z κ 0 0 σ 0 [(0, .ref 0), (1, .int (nI b)), (2, .int v)] []
  refine Z.aload_n B dX11_drawn_0 (v := .ref 0) rfl rfl ?_
  refine Z.getR (σ := σ) B fX11_28_11 dX11_drawn_1 (hl.n (k := 0) (by decide)) (hl.k (k := 0) (by decide)) (by decide) (j := 20) (hl.r (k := 0) (f := 2) (by decide) (by decide)) ?_
  refine Z.iload_n B dX11_drawn_4 (x := nI b) rfl ?_
  refine Z.callVI (σ := σ) B (M' := mX1_hasAsker) (as := [.int (nI b)]) (st := []) (v := .int (nI 1)) dX11_drawn_5 wX1_hasAsker iX1_hasAsker sX1_hasAsker kX11_158 (hl.n (k := 20) (by decide)) (hl.k (k := 20) (by decide)) (by decide) rfl rfl (t_X1_hasAsker_in (σ := σ) H hb) rfl rfl (by decide) (by decide) (Nat.le_of_ble_eq_true rfl) (by decide) (by decide) ?_
  refine Z.if_neN B dX11_drawn_8 (tgt := 17) rfl (by omega) (fun h8 => ?_) (fun h8 => by exfalso; first | omega | contradiction | simp_all)
  refine Z.iload_n B dX11_drawn_17 (x := v) rfl ?_
  refine Z.gets B (x := 1) zKon1 (zT_at 459 (by decide +kernel) rfl) dX11_drawn_18 ?_
  refine Z.iconst B dX11_drawn_21 (v := nI 2) rfl ?_
  refine Z.cld B (j := 2) zKt1 dX11_drawn_22 (by decide) (by decide) (v := nI 10) rfl ?_
  refine Z.callSI (σ := σ) B (M' := mX11_isUpTo) (as := [.int v, .int (nI 10)]) (st := []) (v := .int (nI 0)) dX11_drawn_23 wX11_isUpTo iX11_isUpTo kX11_127 (t_X11_isUpTo_out (σ := σ) (n := 10) hv (by decide)) rfl rfl (by decide) (by decide) (Nat.le_of_ble_eq_true rfl) (by decide) (by decide) ?_
  refine Z.if_neN B dX11_drawn_26 (tgt := 36) rfl (by omega) (fun h26 => by exfalso; first | omega | contradiction | simp_all) (fun h26 => ?_)
  refine Z.aload_n B dX11_drawn_29 (v := .ref 0) rfl rfl ?_
  refine Z.bipush B dX11_drawn_30 (v := nI 6) rfl ?_
  refine Z.callVI (σ := σ) B (M' := mX11_refuse) (as := [.int (nI 6)]) (st := []) (v := .int (-nI 6)) dX11_drawn_32 wX11_refuse iX11_refuse sX11_refuse kX11_63 (hl.n (k := 0) (by decide)) (hl.k (k := 0) (by decide)) (by decide) rfl rfl (t_X11_refuse (σ := σ) hl (b := 6) (by decide)) rfl rfl (by decide) (by decide) (Nat.le_of_ble_eq_true rfl) (by decide) (by decide) ?_
  refine Z.eqσ (τ := (zuX σ 43 (upd (zX σ 43) 6 (zX σ 43 6 + nI 1)))) rfl ?_
  refine Z.iret B Rt dX11_drawn_35 (ty := .int) rfl rfl (by decide) (by decide) ?_
  exact ⟨rfl, rfl⟩

theorem t_K_drawn_0 {σ : zSt} (hl : Lay σ) {n a y : Nat} (H : zHd σ n a y) {b : Nat} (hb : b < a) {v : Nat} (hv : v ≤ 10) : Dt mX11_drawn [.ref 0, .int (nI b), .int (nI v)] σ (some (.int (zX σ 22 (b * 3 + 2)))) (zuX σ 22 (upd (zX σ 22) (b * 3 + 2) (nI v))) := by
  obtain ⟨-, hn, hn8, ha, ha4, hy, hy8⟩ := id H
  refine Dt.of (by decide) (Nat.le_of_ble_eq_true rfl) fun κ B Rt => ?_
  show Z κ 0 0 σ 0 [(0, .ref 0), (1, .int (nI b)), (2, .int (nI v))] []
  refine Z.aload_n B dX11_drawn_0 (v := .ref 0) rfl rfl ?_
  refine Z.getR (σ := σ) B fX11_28_11 dX11_drawn_1 (hl.n (k := 0) (by decide)) (hl.k (k := 0) (by decide)) (by decide) (j := 20) (hl.r (k := 0) (f := 2) (by decide) (by decide)) ?_
  refine Z.iload_n B dX11_drawn_4 (x := nI b) rfl ?_
  refine Z.callVI (σ := σ) B (M' := mX1_hasAsker) (as := [.int (nI b)]) (st := []) (v := .int (nI 1)) dX11_drawn_5 wX1_hasAsker iX1_hasAsker sX1_hasAsker kX11_158 (hl.n (k := 20) (by decide)) (hl.k (k := 20) (by decide)) (by decide) rfl rfl (t_X1_hasAsker_in (σ := σ) H hb) rfl rfl (by decide) (by decide) (Nat.le_of_ble_eq_true rfl) (by decide) (by decide) ?_
  refine Z.if_neN B dX11_drawn_8 (tgt := 17) rfl (by omega) (fun h8 => ?_) (fun h8 => by exfalso; first | omega | contradiction | simp_all)
  refine Z.iload_n B dX11_drawn_17 (x := nI v) rfl ?_
  refine Z.gets B (x := 1) zKon1 (zT_at 459 (by decide +kernel) rfl) dX11_drawn_18 ?_
  refine Z.iconst B dX11_drawn_21 (v := nI 2) rfl ?_
  refine Z.cld B (j := 2) zKt1 dX11_drawn_22 (by decide) (by decide) (v := nI 10) rfl ?_
  refine Z.callSI (σ := σ) B (M' := mX11_isUpTo) (as := [.int (nI v), .int (nI 10)]) (st := []) (v := .int (nI 1)) dX11_drawn_23 wX11_isUpTo iX11_isUpTo kX11_127 (t_X11_isUpTo_in (σ := σ) hv (by decide)) rfl rfl (by decide) (by decide) (Nat.le_of_ble_eq_true rfl) (by decide) (by decide) ?_
  refine Z.if_neN B dX11_drawn_26 (tgt := 36) rfl (by omega) (fun h26 => ?_) (fun h26 => by exfalso; first | omega | contradiction | simp_all)
  refine Z.aload_n B dX11_drawn_36 (v := .ref 0) rfl rfl ?_
  refine Z.getR (σ := σ) B fX11_28_11 dX11_drawn_37 (hl.n (k := 0) (by decide)) (hl.k (k := 0) (by decide)) (by decide) (j := 20) (hl.r (k := 0) (f := 2) (by decide) (by decide)) ?_
  refine Z.iload_n B dX11_drawn_40 (x := nI b) rfl ?_
  refine Z.iconst B dX11_drawn_41 (v := nI 2) rfl ?_
  refine Z.callVI (σ := σ) B (M' := mX1_askerNumber) (as := [.int (nI b), .int (nI 2)]) (st := []) (v := .int (zX σ 22 (b * 3 + 2))) dX11_drawn_42 wX1_askerNumber iX1_askerNumber sX1_askerNumber kX11_164 (hl.n (k := 20) (by decide)) (hl.k (k := 20) (by decide)) (by decide) rfl rfl (t_X1_askerNumber (σ := σ) H hb (by decide)) rfl rfl (by decide) (by decide) (Nat.le_of_ble_eq_true rfl) (by decide) (by decide) ?_
  refine Z.istore_n B dX11_drawn_45 (by decide) (L' := [(0, .ref 0), (1, .int (nI b)), (2, .int (nI v)), (3, .int (zX σ 22 (b * 3 + 2)))]) rfl ?_
  refine Z.aload_n B dX11_drawn_46 (v := .ref 0) rfl rfl ?_
  refine Z.getR (σ := σ) B fX11_28_11 dX11_drawn_47 (hl.n (k := 0) (by decide)) (hl.k (k := 0) (by decide)) (by decide) (j := 20) (hl.r (k := 0) (f := 2) (by decide) (by decide)) ?_
  refine Z.iload_n B dX11_drawn_50 (x := nI b) rfl ?_
  refine Z.iload_n B dX11_drawn_51 (x := nI v) rfl ?_
  refine Z.callVN (σ := σ) B (M' := mX1_putDrawn) (as := [.int (nI b), .int (nI v)]) (st := []) dX11_drawn_52 wX1_putDrawn iX1_putDrawn sX1_putDrawn kX11_179 (hl.n (k := 20) (by decide)) (hl.k (k := 20) (by decide)) (by decide) rfl rfl (t_X1_putDrawn (σ := σ) H hb) rfl rfl (by decide) (by decide) (Nat.le_of_ble_eq_true rfl) (by decide) (by decide) ?_
  refine Z.eqσ (τ := (zuX σ 22 (upd (zX σ 22) (b * 3 + 2) (nI v)))) rfl ?_
  refine Z.iload_n B dX11_drawn_55 (x := zX σ 22 (b * 3 + 2)) rfl ?_
  refine Z.iret B Rt dX11_drawn_56 (ty := .int) rfl rfl (by decide) (by decide) ?_
  exact ⟨rfl, rfl⟩

theorem t_K_chief_1 {σ : zSt} (hl : Lay σ) {n a y : Nat} (H : zHd σ n a y) {b : Int32} (hb : zOut b a)  : Dt mX11_chief [.ref 0, .int b] σ (some (.int (-nI 1))) (zuX σ 43 (upd (zX σ 43) 1 (zX σ 43 1 + nI 1))) := by
  obtain ⟨-, hn, hn8, ha, ha4, hy, hy8⟩ := id H
  refine Dt.of (by decide) (Nat.le_of_ble_eq_true rfl) fun κ B Rt => ?_
  show Z κ 0 0 σ 0 [(0, .ref 0), (1, .int b)] []
  refine Z.aload_n B dX11_chief_0 (v := .ref 0) rfl rfl ?_
  refine Z.getR (σ := σ) B fX11_28_11 dX11_chief_1 (hl.n (k := 0) (by decide)) (hl.k (k := 0) (by decide)) (by decide) (j := 20) (hl.r (k := 0) (f := 2) (by decide) (by decide)) ?_
  refine Z.iload_n B dX11_chief_4 (x := b) rfl ?_
  refine Z.callVI (σ := σ) B (M' := mX1_hasAsker) (as := [.int b]) (st := []) (v := .int (nI 0)) dX11_chief_5 wX1_hasAsker iX1_hasAsker sX1_hasAsker kX11_158 (hl.n (k := 20) (by decide)) (hl.k (k := 20) (by decide)) (by decide) rfl rfl (t_X1_hasAsker_out (σ := σ) H hb) rfl rfl (by decide) (by decide) (Nat.le_of_ble_eq_true rfl) (by decide) (by decide) ?_
  refine Z.if_eqN B dX11_chief_8 (tgt := 22) rfl (by omega) (fun h8 => ?_) (fun h8 => by exfalso; first | omega | contradiction | simp_all)
  refine Z.aload_n B dX11_chief_22 (v := .ref 0) rfl rfl ?_
  refine Z.iconst B dX11_chief_23 (v := nI 1) rfl ?_
  refine Z.callVI (σ := σ) B (M' := mX11_refuse) (as := [.int (nI 1)]) (st := []) (v := .int (-nI 1)) dX11_chief_24 wX11_refuse iX11_refuse sX11_refuse kX11_63 (hl.n (k := 0) (by decide)) (hl.k (k := 0) (by decide)) (by decide) rfl rfl (t_X11_refuse (σ := σ) hl (b := 1) (by decide)) rfl rfl (by decide) (by decide) (Nat.le_of_ble_eq_true rfl) (by decide) (by decide) ?_
  refine Z.eqσ (τ := (zuX σ 43 (upd (zX σ 43) 1 (zX σ 43 1 + nI 1)))) rfl ?_
  refine Z.iret B Rt dX11_chief_27 (ty := .int) rfl rfl (by decide) (by decide) ?_
  exact ⟨rfl, rfl⟩

theorem t_K_chief_0 {σ : zSt} (hl : Lay σ) {n a y : Nat} (H : zHd σ n a y) {od : Nat → Nat} (ho : zOd σ a od) {b p : Nat} (hp : p < a) (hpb : od p = b) (hmin : ∀ j, j < p → od j ≠ b)  : Dt mX11_chief [.ref 0, .int (nI b)] σ (some (.int (nI p))) (zuX σ 23 (pf p b (zX σ 23))) := by
  obtain ⟨-, hn, hn8, ha, ha4, hy, hy8⟩ := id H
  refine Dt.of (by decide) (Nat.le_of_ble_eq_true rfl) fun κ B Rt => ?_
  show Z κ 0 0 σ 0 [(0, .ref 0), (1, .int (nI b))] []
  have hb : b < a := hpb ▸ (ho p hp).2
  refine Z.aload_n B dX11_chief_0 (v := .ref 0) rfl rfl ?_
  refine Z.getR (σ := σ) B fX11_28_11 dX11_chief_1 (hl.n (k := 0) (by decide)) (hl.k (k := 0) (by decide)) (by decide) (j := 20) (hl.r (k := 0) (f := 2) (by decide) (by decide)) ?_
  refine Z.iload_n B dX11_chief_4 (x := nI b) rfl ?_
  refine Z.callVI (σ := σ) B (M' := mX1_hasAsker) (as := [.int (nI b)]) (st := []) (v := .int (nI 1)) dX11_chief_5 wX1_hasAsker iX1_hasAsker sX1_hasAsker kX11_158 (hl.n (k := 20) (by decide)) (hl.k (k := 20) (by decide)) (by decide) rfl rfl (t_X1_hasAsker_in (σ := σ) H hb) rfl rfl (by decide) (by decide) (Nat.le_of_ble_eq_true rfl) (by decide) (by decide) ?_
  refine Z.if_eqN B dX11_chief_8 (tgt := 22) rfl (by omega) (fun h8 => by exfalso; first | omega | contradiction | simp_all) (fun h8 => ?_)
  refine Z.aload_n B dX11_chief_11 (v := .ref 0) rfl rfl ?_
  refine Z.getR (σ := σ) B fX11_28_11 dX11_chief_12 (hl.n (k := 0) (by decide)) (hl.k (k := 0) (by decide)) (by decide) (j := 20) (hl.r (k := 0) (f := 2) (by decide) (by decide)) ?_
  refine Z.iload_n B dX11_chief_15 (x := nI b) rfl ?_
  refine Z.callVI (σ := σ) B (M' := mX1_putFirst) (as := [.int (nI b)]) (st := []) (v := .int (nI p)) dX11_chief_16 wX1_putFirst iX1_putFirst sX1_putFirst kX11_182 (hl.n (k := 20) (by decide)) (hl.k (k := 20) (by decide)) (by decide) rfl rfl (t_X1_putFirst (σ := σ) hl hn hn8 ha ha4 hy hy8 ho hp hpb hmin) rfl rfl (by decide) (by decide) (Nat.le_of_ble_eq_true rfl) (by decide) (by decide) ?_
  refine Z.eqσ (τ := (zuX σ 23 (pf p b (zX σ 23)))) rfl ?_
  refine Z.goto B dX11_chief_19 (tgt := 27) rfl ?_
  refine Z.iret B Rt dX11_chief_27 (ty := .int) rfl rfl (by decide) (by decide) ?_
  exact ⟨rfl, rfl⟩

theorem t_K_fault_0 {σ : zSt} (hl : Lay σ)  : Dt mX11_fault [.ref 0] σ (some (.int (zX σ 0 8))) σ := by
  refine Dt.of (by decide) (Nat.le_of_ble_eq_true rfl) fun κ B Rt => ?_
  show Z κ 0 0 σ 0 [(0, .ref 0)] []
  refine Z.aload_n B dX11_fault_0 (v := .ref 0) rfl rfl ?_
  refine Z.getI (σ := σ) B fX11_55_11 dX11_fault_1 (hl.n (k := 0) (by decide)) (hl.k (k := 0) (by decide)) (by decide) (v := (zX σ 0 8)) rfl ?_
  refine Z.iret B Rt dX11_fault_4 (ty := .int) rfl rfl (by decide) (by decide) ?_
  exact ⟨rfl, rfl⟩

theorem t_K_shows_1 {σ : zSt} (hl : Lay σ) {n a y : Nat} (H : zHd σ n a y) {i : Int32} (hi : zOut i y) {b c : Int32} : Dt mX11_shows [.ref 0, .int i, .int b, .int c] σ (some (.int (-nI 1))) (zuX σ 43 (upd (zX σ 43) 1 (zX σ 43 1 + nI 1))) := by
  obtain ⟨-, hn, hn8, ha, ha4, hy, hy8⟩ := id H
  refine Dt.of (by decide) (Nat.le_of_ble_eq_true rfl) fun κ B Rt => ?_
  show Z κ 0 0 σ 0 [(0, .ref 0), (1, .int i), (2, .int b), (3, .int c)] []
  refine Z.aload_n B dX11_shows_0 (v := .ref 0) rfl rfl ?_
  refine Z.getR (σ := σ) B fX11_28_11 dX11_shows_1 (hl.n (k := 0) (by decide)) (hl.k (k := 0) (by decide)) (by decide) (j := 20) (hl.r (k := 0) (f := 2) (by decide) (by decide)) ?_
  refine Z.iload_n B dX11_shows_4 (x := i) rfl ?_
  refine Z.callVI (σ := σ) B (M' := mX1_wayAt) (as := [.int i]) (st := []) (v := .null) dX11_shows_5 wX1_wayAt iX1_wayAt sX1_wayAt kX11_102 (hl.n (k := 20) (by decide)) (hl.k (k := 20) (by decide)) (by decide) rfl rfl (t_X1_wayAt_out (σ := σ) H hi) rfl rfl (by decide) (by decide) (Nat.le_of_ble_eq_true rfl) (by decide) (by decide) ?_
  refine Z.astore B dX11_shows_8 (by decide) rfl (L' := [(0, .ref 0), (1, .int i), (2, .int b), (3, .int c), (4, .null)]) rfl ?_
  refine Z.aload B dX11_shows_10 (v := .null) rfl rfl ?_
  refine Z.ifnull_n B dX11_shows_12 (tgt := 37) rfl ?_
  refine Z.aload_n B dX11_shows_37 (v := .ref 0) rfl rfl ?_
  refine Z.iconst B dX11_shows_38 (v := nI 1) rfl ?_
  refine Z.callVI (σ := σ) B (M' := mX11_refuse) (as := [.int (nI 1)]) (st := []) (v := .int (-nI 1)) dX11_shows_39 wX11_refuse iX11_refuse sX11_refuse kX11_63 (hl.n (k := 0) (by decide)) (hl.k (k := 0) (by decide)) (by decide) rfl rfl (t_X11_refuse (σ := σ) hl (b := 1) (by decide)) rfl rfl (by decide) (by decide) (Nat.le_of_ble_eq_true rfl) (by decide) (by decide) ?_
  refine Z.eqσ (τ := (zuX σ 43 (upd (zX σ 43) 1 (zX σ 43 1 + nI 1)))) rfl ?_
  refine Z.iret B Rt dX11_shows_42 (ty := .int) rfl rfl (by decide) (by decide) ?_
  exact ⟨rfl, rfl⟩

theorem t_K_shows_2 {σ : zSt} (hl : Lay σ) {n a y : Nat} (H : zHd σ n a y) {i q kd pa num : Nat} (hi : i < y) (hq : zR σ 24 i = some q) (hw : zWo σ q kd pa num) {b : Int32} (hb : zOut b a) {c : Int32} : Dt mX11_shows [.ref 0, .int (nI i), .int b, .int c] σ (some (.int (-nI 1))) (zuX σ 43 (upd (zX σ 43) 1 (zX σ 43 1 + nI 1))) := by
  obtain ⟨-, hn, hn8, ha, ha4, hy, hy8⟩ := id H
  refine Dt.of (by decide) (Nat.le_of_ble_eq_true rfl) fun κ B Rt => ?_
  show Z κ 0 0 σ 0 [(0, .ref 0), (1, .int (nI i)), (2, .int b), (3, .int c)] []
  refine Z.aload_n B dX11_shows_0 (v := .ref 0) rfl rfl ?_
  refine Z.getR (σ := σ) B fX11_28_11 dX11_shows_1 (hl.n (k := 0) (by decide)) (hl.k (k := 0) (by decide)) (by decide) (j := 20) (hl.r (k := 0) (f := 2) (by decide) (by decide)) ?_
  refine Z.iload_n B dX11_shows_4 (x := nI i) rfl ?_
  refine Z.callVI (σ := σ) B (M' := mX1_wayAt) (as := [.int (nI i)]) (st := []) (v := .ref q) dX11_shows_5 wX1_wayAt iX1_wayAt sX1_wayAt kX11_102 (hl.n (k := 20) (by decide)) (hl.k (k := 20) (by decide)) (by decide) rfl rfl (t_X1_wayAt_in (σ := σ) H hi hq) rfl rfl (by decide) (by decide) (Nat.le_of_ble_eq_true rfl) (by decide) (by decide) ?_
  refine Z.astore B dX11_shows_8 (by decide) rfl (L' := [(0, .ref 0), (1, .int (nI i)), (2, .int b), (3, .int c), (4, .ref q)]) rfl ?_
  refine Z.aload B dX11_shows_10 (v := .ref q) rfl rfl ?_
  refine Z.ifnull_r B dX11_shows_12 ?_
  refine Z.aload_n B dX11_shows_15 (v := .ref 0) rfl rfl ?_
  refine Z.getR (σ := σ) B fX11_28_11 dX11_shows_16 (hl.n (k := 0) (by decide)) (hl.k (k := 0) (by decide)) (by decide) (j := 20) (hl.r (k := 0) (f := 2) (by decide) (by decide)) ?_
  refine Z.iload_n B dX11_shows_19 (x := b) rfl ?_
  refine Z.callVI (σ := σ) B (M' := mX1_hasAsker) (as := [.int b]) (st := []) (v := .int (nI 0)) dX11_shows_20 wX1_hasAsker iX1_hasAsker sX1_hasAsker kX11_158 (hl.n (k := 20) (by decide)) (hl.k (k := 20) (by decide)) (by decide) rfl rfl (t_X1_hasAsker_out (σ := σ) H hb) rfl rfl (by decide) (by decide) (Nat.le_of_ble_eq_true rfl) (by decide) (by decide) ?_
  refine Z.if_eqN B dX11_shows_23 (tgt := 37) rfl (by omega) (fun h23 => ?_) (fun h23 => by exfalso; first | omega | contradiction | simp_all)
  refine Z.aload_n B dX11_shows_37 (v := .ref 0) rfl rfl ?_
  refine Z.iconst B dX11_shows_38 (v := nI 1) rfl ?_
  refine Z.callVI (σ := σ) B (M' := mX11_refuse) (as := [.int (nI 1)]) (st := []) (v := .int (-nI 1)) dX11_shows_39 wX11_refuse iX11_refuse sX11_refuse kX11_63 (hl.n (k := 0) (by decide)) (hl.k (k := 0) (by decide)) (by decide) rfl rfl (t_X11_refuse (σ := σ) hl (b := 1) (by decide)) rfl rfl (by decide) (by decide) (Nat.le_of_ble_eq_true rfl) (by decide) (by decide) ?_
  refine Z.eqσ (τ := (zuX σ 43 (upd (zX σ 43) 1 (zX σ 43 1 + nI 1)))) rfl ?_
  refine Z.iret B Rt dX11_shows_42 (ty := .int) rfl rfl (by decide) (by decide) ?_
  exact ⟨rfl, rfl⟩

theorem t_K_shows_3 {σ : zSt} (hl : Lay σ) {n a y : Nat} (H : zHd σ n a y) {i q kd pa num : Nat} (hi : i < y) (hq : zR σ 24 i = some q) (hw : zWo σ q kd pa num) {b : Nat} (hb : b < a) {c : Int32} (hc : zOut c n)  : Dt mX11_shows [.ref 0, .int (nI i), .int (nI b), .int c] σ (some (.int (-nI 1))) (zuX σ 43 (upd (zX σ 43) 1 (zX σ 43 1 + nI 1))) := by
  obtain ⟨-, hn, hn8, ha, ha4, hy, hy8⟩ := id H
  refine Dt.of (by decide) (Nat.le_of_ble_eq_true rfl) fun κ B Rt => ?_
  show Z κ 0 0 σ 0 [(0, .ref 0), (1, .int (nI i)), (2, .int (nI b)), (3, .int c)] []
  refine Z.aload_n B dX11_shows_0 (v := .ref 0) rfl rfl ?_
  refine Z.getR (σ := σ) B fX11_28_11 dX11_shows_1 (hl.n (k := 0) (by decide)) (hl.k (k := 0) (by decide)) (by decide) (j := 20) (hl.r (k := 0) (f := 2) (by decide) (by decide)) ?_
  refine Z.iload_n B dX11_shows_4 (x := nI i) rfl ?_
  refine Z.callVI (σ := σ) B (M' := mX1_wayAt) (as := [.int (nI i)]) (st := []) (v := .ref q) dX11_shows_5 wX1_wayAt iX1_wayAt sX1_wayAt kX11_102 (hl.n (k := 20) (by decide)) (hl.k (k := 20) (by decide)) (by decide) rfl rfl (t_X1_wayAt_in (σ := σ) H hi hq) rfl rfl (by decide) (by decide) (Nat.le_of_ble_eq_true rfl) (by decide) (by decide) ?_
  refine Z.astore B dX11_shows_8 (by decide) rfl (L' := [(0, .ref 0), (1, .int (nI i)), (2, .int (nI b)), (3, .int c), (4, .ref q)]) rfl ?_
  refine Z.aload B dX11_shows_10 (v := .ref q) rfl rfl ?_
  refine Z.ifnull_r B dX11_shows_12 ?_
  refine Z.aload_n B dX11_shows_15 (v := .ref 0) rfl rfl ?_
  refine Z.getR (σ := σ) B fX11_28_11 dX11_shows_16 (hl.n (k := 0) (by decide)) (hl.k (k := 0) (by decide)) (by decide) (j := 20) (hl.r (k := 0) (f := 2) (by decide) (by decide)) ?_
  refine Z.iload_n B dX11_shows_19 (x := nI b) rfl ?_
  refine Z.callVI (σ := σ) B (M' := mX1_hasAsker) (as := [.int (nI b)]) (st := []) (v := .int (nI 1)) dX11_shows_20 wX1_hasAsker iX1_hasAsker sX1_hasAsker kX11_158 (hl.n (k := 20) (by decide)) (hl.k (k := 20) (by decide)) (by decide) rfl rfl (t_X1_hasAsker_in (σ := σ) H hb) rfl rfl (by decide) (by decide) (Nat.le_of_ble_eq_true rfl) (by decide) (by decide) ?_
  refine Z.if_eqN B dX11_shows_23 (tgt := 37) rfl (by omega) (fun h23 => by exfalso; first | omega | contradiction | simp_all) (fun h23 => ?_)
  refine Z.aload_n B dX11_shows_26 (v := .ref 0) rfl rfl ?_
  refine Z.getR (σ := σ) B fX11_28_11 dX11_shows_27 (hl.n (k := 0) (by decide)) (hl.k (k := 0) (by decide)) (by decide) (j := 20) (hl.r (k := 0) (f := 2) (by decide) (by decide)) ?_
  refine Z.iload_n B dX11_shows_30 (x := c) rfl ?_
  refine Z.callVI (σ := σ) B (M' := mX1_hasComer) (as := [.int c]) (st := []) (v := .int (nI 0)) dX11_shows_31 wX1_hasComer iX1_hasComer sX1_hasComer kX11_152 (hl.n (k := 20) (by decide)) (hl.k (k := 20) (by decide)) (by decide) rfl rfl (t_X1_hasComer_out (σ := σ) H hc) rfl rfl (by decide) (by decide) (Nat.le_of_ble_eq_true rfl) (by decide) (by decide) ?_
  refine Z.if_neN B dX11_shows_34 (tgt := 43) rfl (by omega) (fun h34 => by exfalso; first | omega | contradiction | simp_all) (fun h34 => ?_)
  refine Z.aload_n B dX11_shows_37 (v := .ref 0) rfl rfl ?_
  refine Z.iconst B dX11_shows_38 (v := nI 1) rfl ?_
  refine Z.callVI (σ := σ) B (M' := mX11_refuse) (as := [.int (nI 1)]) (st := []) (v := .int (-nI 1)) dX11_shows_39 wX11_refuse iX11_refuse sX11_refuse kX11_63 (hl.n (k := 0) (by decide)) (hl.k (k := 0) (by decide)) (by decide) rfl rfl (t_X11_refuse (σ := σ) hl (b := 1) (by decide)) rfl rfl (by decide) (by decide) (Nat.le_of_ble_eq_true rfl) (by decide) (by decide) ?_
  refine Z.eqσ (τ := (zuX σ 43 (upd (zX σ 43) 1 (zX σ 43 1 + nI 1)))) rfl ?_
  refine Z.iret B Rt dX11_shows_42 (ty := .int) rfl rfl (by decide) (by decide) ?_
  exact ⟨rfl, rfl⟩

theorem t_K_shows_0 {σ : zSt} (hl : Lay σ) {n a y : Nat} (H : zHd σ n a y) {i q kd pa num : Nat} (hi : i < y) (hq : zR σ 24 i = some q) (hw : zWo σ q kd pa num) {b : Nat} (hb : b < a) {c : Nat} (hc : c < n)  : Dt mX11_shows [.ref 0, .int (nI i), .int (nI b), .int (nI c)] σ (some (.int (shW (zX σ 21) (zSc σ) (zLk σ) kd pa b c))) σ := by
  obtain ⟨-, hn, hn8, ha, ha4, hy, hy8⟩ := id H
  refine Dt.of (by decide) (Nat.le_of_ble_eq_true rfl) fun κ B Rt => ?_
  show Z κ 0 0 σ 0 [(0, .ref 0), (1, .int (nI i)), (2, .int (nI b)), (3, .int (nI c))] []
  refine Z.aload_n B dX11_shows_0 (v := .ref 0) rfl rfl ?_
  refine Z.getR (σ := σ) B fX11_28_11 dX11_shows_1 (hl.n (k := 0) (by decide)) (hl.k (k := 0) (by decide)) (by decide) (j := 20) (hl.r (k := 0) (f := 2) (by decide) (by decide)) ?_
  refine Z.iload_n B dX11_shows_4 (x := nI i) rfl ?_
  refine Z.callVI (σ := σ) B (M' := mX1_wayAt) (as := [.int (nI i)]) (st := []) (v := .ref q) dX11_shows_5 wX1_wayAt iX1_wayAt sX1_wayAt kX11_102 (hl.n (k := 20) (by decide)) (hl.k (k := 20) (by decide)) (by decide) rfl rfl (t_X1_wayAt_in (σ := σ) H hi hq) rfl rfl (by decide) (by decide) (Nat.le_of_ble_eq_true rfl) (by decide) (by decide) ?_
  refine Z.astore B dX11_shows_8 (by decide) rfl (L' := [(0, .ref 0), (1, .int (nI i)), (2, .int (nI b)), (3, .int (nI c)), (4, .ref q)]) rfl ?_
  refine Z.aload B dX11_shows_10 (v := .ref q) rfl rfl ?_
  refine Z.ifnull_r B dX11_shows_12 ?_
  refine Z.aload_n B dX11_shows_15 (v := .ref 0) rfl rfl ?_
  refine Z.getR (σ := σ) B fX11_28_11 dX11_shows_16 (hl.n (k := 0) (by decide)) (hl.k (k := 0) (by decide)) (by decide) (j := 20) (hl.r (k := 0) (f := 2) (by decide) (by decide)) ?_
  refine Z.iload_n B dX11_shows_19 (x := nI b) rfl ?_
  refine Z.callVI (σ := σ) B (M' := mX1_hasAsker) (as := [.int (nI b)]) (st := []) (v := .int (nI 1)) dX11_shows_20 wX1_hasAsker iX1_hasAsker sX1_hasAsker kX11_158 (hl.n (k := 20) (by decide)) (hl.k (k := 20) (by decide)) (by decide) rfl rfl (t_X1_hasAsker_in (σ := σ) H hb) rfl rfl (by decide) (by decide) (Nat.le_of_ble_eq_true rfl) (by decide) (by decide) ?_
  refine Z.if_eqN B dX11_shows_23 (tgt := 37) rfl (by omega) (fun h23 => by exfalso; first | omega | contradiction | simp_all) (fun h23 => ?_)
  refine Z.aload_n B dX11_shows_26 (v := .ref 0) rfl rfl ?_
  refine Z.getR (σ := σ) B fX11_28_11 dX11_shows_27 (hl.n (k := 0) (by decide)) (hl.k (k := 0) (by decide)) (by decide) (j := 20) (hl.r (k := 0) (f := 2) (by decide) (by decide)) ?_
  refine Z.iload_n B dX11_shows_30 (x := nI c) rfl ?_
  refine Z.callVI (σ := σ) B (M' := mX1_hasComer) (as := [.int (nI c)]) (st := []) (v := .int (nI 1)) dX11_shows_31 wX1_hasComer iX1_hasComer sX1_hasComer kX11_152 (hl.n (k := 20) (by decide)) (hl.k (k := 20) (by decide)) (by decide) rfl rfl (t_X1_hasComer_in (σ := σ) H hc) rfl rfl (by decide) (by decide) (Nat.le_of_ble_eq_true rfl) (by decide) (by decide) ?_
  refine Z.if_neN B dX11_shows_34 (tgt := 43) rfl (by omega) (fun h34 => ?_) (fun h34 => by exfalso; first | omega | contradiction | simp_all)
  refine Z.aload B dX11_shows_43 (v := .ref q) rfl rfl ?_
  refine Z.aload_n B dX11_shows_45 (v := .ref 0) rfl rfl ?_
  refine Z.getR (σ := σ) B fX11_28_11 dX11_shows_46 (hl.n (k := 0) (by decide)) (hl.k (k := 0) (by decide)) (by decide) (j := 20) (hl.r (k := 0) (f := 2) (by decide) (by decide)) ?_
  refine Z.iload_n B dX11_shows_49 (x := nI b) rfl ?_
  refine Z.iload_n B dX11_shows_50 (x := nI c) rfl ?_
  refine Z.shown (σ := σ) B dX11_shows_51 kX11_199 (b := b) (c := c) H hw hb hc (by decide) (Nat.le_of_ble_eq_true rfl) (by decide) (by decide) ?_
  show Z κ 0 0 σ 54 [(0, .ref 0), (1, .int (nI i)), (2, .int (nI b)), (3, .int (nI c)), (4, .ref q)] [.int (shW (zX σ 21) (zSc σ) (zLk σ) kd pa b c)]
  refine Z.iret B Rt dX11_shows_54 (ty := .int) rfl rfl (by decide) (by decide) ?_
  exact ⟨rfl, rfl⟩

theorem t_K_said_1 {σ : zSt} (hl : Lay σ) {n a y : Nat} (H : zHd σ n a y) {i : Int32} (hi : zOut i y) {sl : Bool} {b c : Int32} : Dt mX11_said [.ref 0, .int i, .int (zb sl), .int b, .int c] σ (some (.int (-nI 1))) (zuX σ 43 (upd (zX σ 43) 1 (zX σ 43 1 + nI 1))) := by
  obtain ⟨-, hn, hn8, ha, ha4, hy, hy8⟩ := id H
  refine Dt.of (by decide) (Nat.le_of_ble_eq_true rfl) fun κ B Rt => ?_
  show Z κ 0 0 σ 0 [(0, .ref 0), (1, .int i), (2, .int (zb sl)), (3, .int b), (4, .int c)] []
  refine Z.aload_n B dX11_said_0 (v := .ref 0) rfl rfl ?_
  refine Z.getR (σ := σ) B fX11_28_11 dX11_said_1 (hl.n (k := 0) (by decide)) (hl.k (k := 0) (by decide)) (by decide) (j := 20) (hl.r (k := 0) (f := 2) (by decide) (by decide)) ?_
  refine Z.iload_n B dX11_said_4 (x := i) rfl ?_
  refine Z.callVI (σ := σ) B (M' := mX1_wayAt) (as := [.int i]) (st := []) (v := .null) dX11_said_5 wX1_wayAt iX1_wayAt sX1_wayAt kX11_102 (hl.n (k := 20) (by decide)) (hl.k (k := 20) (by decide)) (by decide) rfl rfl (t_X1_wayAt_out (σ := σ) H hi) rfl rfl (by decide) (by decide) (Nat.le_of_ble_eq_true rfl) (by decide) (by decide) ?_
  refine Z.astore B dX11_said_8 (by decide) rfl (L' := [(0, .ref 0), (1, .int i), (2, .int (zb sl)), (3, .int b), (4, .int c), (5, .null)]) rfl ?_
  refine Z.aload B dX11_said_10 (v := .null) rfl rfl ?_
  refine Z.ifnull_n B dX11_said_12 (tgt := 38) rfl ?_
  refine Z.aload_n B dX11_said_38 (v := .ref 0) rfl rfl ?_
  refine Z.iconst B dX11_said_39 (v := nI 1) rfl ?_
  refine Z.callVI (σ := σ) B (M' := mX11_refuse) (as := [.int (nI 1)]) (st := []) (v := .int (-nI 1)) dX11_said_40 wX11_refuse iX11_refuse sX11_refuse kX11_63 (hl.n (k := 0) (by decide)) (hl.k (k := 0) (by decide)) (by decide) rfl rfl (t_X11_refuse (σ := σ) hl (b := 1) (by decide)) rfl rfl (by decide) (by decide) (Nat.le_of_ble_eq_true rfl) (by decide) (by decide) ?_
  refine Z.eqσ (τ := (zuX σ 43 (upd (zX σ 43) 1 (zX σ 43 1 + nI 1)))) rfl ?_
  refine Z.iret B Rt dX11_said_43 (ty := .int) rfl rfl (by decide) (by decide) ?_
  exact ⟨rfl, rfl⟩

theorem t_K_said_2 {σ : zSt} (hl : Lay σ) {n a y : Nat} (H : zHd σ n a y) {i q kd pa num : Nat} (hi : i < y) (hq : zR σ 24 i = some q) (hw : zWo σ q kd pa num) {b : Int32} (hb : zOut b a) {sl : Bool} {c : Int32} : Dt mX11_said [.ref 0, .int (nI i), .int (zb sl), .int b, .int c] σ (some (.int (-nI 1))) (zuX σ 43 (upd (zX σ 43) 1 (zX σ 43 1 + nI 1))) := by
  obtain ⟨-, hn, hn8, ha, ha4, hy, hy8⟩ := id H
  refine Dt.of (by decide) (Nat.le_of_ble_eq_true rfl) fun κ B Rt => ?_
  show Z κ 0 0 σ 0 [(0, .ref 0), (1, .int (nI i)), (2, .int (zb sl)), (3, .int b), (4, .int c)] []
  refine Z.aload_n B dX11_said_0 (v := .ref 0) rfl rfl ?_
  refine Z.getR (σ := σ) B fX11_28_11 dX11_said_1 (hl.n (k := 0) (by decide)) (hl.k (k := 0) (by decide)) (by decide) (j := 20) (hl.r (k := 0) (f := 2) (by decide) (by decide)) ?_
  refine Z.iload_n B dX11_said_4 (x := nI i) rfl ?_
  refine Z.callVI (σ := σ) B (M' := mX1_wayAt) (as := [.int (nI i)]) (st := []) (v := .ref q) dX11_said_5 wX1_wayAt iX1_wayAt sX1_wayAt kX11_102 (hl.n (k := 20) (by decide)) (hl.k (k := 20) (by decide)) (by decide) rfl rfl (t_X1_wayAt_in (σ := σ) H hi hq) rfl rfl (by decide) (by decide) (Nat.le_of_ble_eq_true rfl) (by decide) (by decide) ?_
  refine Z.astore B dX11_said_8 (by decide) rfl (L' := [(0, .ref 0), (1, .int (nI i)), (2, .int (zb sl)), (3, .int b), (4, .int c), (5, .ref q)]) rfl ?_
  refine Z.aload B dX11_said_10 (v := .ref q) rfl rfl ?_
  refine Z.ifnull_r B dX11_said_12 ?_
  refine Z.aload_n B dX11_said_15 (v := .ref 0) rfl rfl ?_
  refine Z.getR (σ := σ) B fX11_28_11 dX11_said_16 (hl.n (k := 0) (by decide)) (hl.k (k := 0) (by decide)) (by decide) (j := 20) (hl.r (k := 0) (f := 2) (by decide) (by decide)) ?_
  refine Z.iload_n B dX11_said_19 (x := b) rfl ?_
  refine Z.callVI (σ := σ) B (M' := mX1_hasAsker) (as := [.int b]) (st := []) (v := .int (nI 0)) dX11_said_20 wX1_hasAsker iX1_hasAsker sX1_hasAsker kX11_158 (hl.n (k := 20) (by decide)) (hl.k (k := 20) (by decide)) (by decide) rfl rfl (t_X1_hasAsker_out (σ := σ) H hb) rfl rfl (by decide) (by decide) (Nat.le_of_ble_eq_true rfl) (by decide) (by decide) ?_
  refine Z.if_eqN B dX11_said_23 (tgt := 38) rfl (by omega) (fun h23 => ?_) (fun h23 => by exfalso; first | omega | contradiction | simp_all)
  refine Z.aload_n B dX11_said_38 (v := .ref 0) rfl rfl ?_
  refine Z.iconst B dX11_said_39 (v := nI 1) rfl ?_
  refine Z.callVI (σ := σ) B (M' := mX11_refuse) (as := [.int (nI 1)]) (st := []) (v := .int (-nI 1)) dX11_said_40 wX11_refuse iX11_refuse sX11_refuse kX11_63 (hl.n (k := 0) (by decide)) (hl.k (k := 0) (by decide)) (by decide) rfl rfl (t_X11_refuse (σ := σ) hl (b := 1) (by decide)) rfl rfl (by decide) (by decide) (Nat.le_of_ble_eq_true rfl) (by decide) (by decide) ?_
  refine Z.eqσ (τ := (zuX σ 43 (upd (zX σ 43) 1 (zX σ 43 1 + nI 1)))) rfl ?_
  refine Z.iret B Rt dX11_said_43 (ty := .int) rfl rfl (by decide) (by decide) ?_
  exact ⟨rfl, rfl⟩

theorem t_K_said_3 {σ : zSt} (hl : Lay σ) {n a y : Nat} (H : zHd σ n a y) {i q kd pa num : Nat} (hi : i < y) (hq : zR σ 24 i = some q) (hw : zWo σ q kd pa num) {b : Nat} (hb : b < a) {c : Int32} (hc : zOut c n) {sl : Bool} : Dt mX11_said [.ref 0, .int (nI i), .int (zb sl), .int (nI b), .int c] σ (some (.int (-nI 1))) (zuX σ 43 (upd (zX σ 43) 1 (zX σ 43 1 + nI 1))) := by
  obtain ⟨-, hn, hn8, ha, ha4, hy, hy8⟩ := id H
  refine Dt.of (by decide) (Nat.le_of_ble_eq_true rfl) fun κ B Rt => ?_
  show Z κ 0 0 σ 0 [(0, .ref 0), (1, .int (nI i)), (2, .int (zb sl)), (3, .int (nI b)), (4, .int c)] []
  refine Z.aload_n B dX11_said_0 (v := .ref 0) rfl rfl ?_
  refine Z.getR (σ := σ) B fX11_28_11 dX11_said_1 (hl.n (k := 0) (by decide)) (hl.k (k := 0) (by decide)) (by decide) (j := 20) (hl.r (k := 0) (f := 2) (by decide) (by decide)) ?_
  refine Z.iload_n B dX11_said_4 (x := nI i) rfl ?_
  refine Z.callVI (σ := σ) B (M' := mX1_wayAt) (as := [.int (nI i)]) (st := []) (v := .ref q) dX11_said_5 wX1_wayAt iX1_wayAt sX1_wayAt kX11_102 (hl.n (k := 20) (by decide)) (hl.k (k := 20) (by decide)) (by decide) rfl rfl (t_X1_wayAt_in (σ := σ) H hi hq) rfl rfl (by decide) (by decide) (Nat.le_of_ble_eq_true rfl) (by decide) (by decide) ?_
  refine Z.astore B dX11_said_8 (by decide) rfl (L' := [(0, .ref 0), (1, .int (nI i)), (2, .int (zb sl)), (3, .int (nI b)), (4, .int c), (5, .ref q)]) rfl ?_
  refine Z.aload B dX11_said_10 (v := .ref q) rfl rfl ?_
  refine Z.ifnull_r B dX11_said_12 ?_
  refine Z.aload_n B dX11_said_15 (v := .ref 0) rfl rfl ?_
  refine Z.getR (σ := σ) B fX11_28_11 dX11_said_16 (hl.n (k := 0) (by decide)) (hl.k (k := 0) (by decide)) (by decide) (j := 20) (hl.r (k := 0) (f := 2) (by decide) (by decide)) ?_
  refine Z.iload_n B dX11_said_19 (x := nI b) rfl ?_
  refine Z.callVI (σ := σ) B (M' := mX1_hasAsker) (as := [.int (nI b)]) (st := []) (v := .int (nI 1)) dX11_said_20 wX1_hasAsker iX1_hasAsker sX1_hasAsker kX11_158 (hl.n (k := 20) (by decide)) (hl.k (k := 20) (by decide)) (by decide) rfl rfl (t_X1_hasAsker_in (σ := σ) H hb) rfl rfl (by decide) (by decide) (Nat.le_of_ble_eq_true rfl) (by decide) (by decide) ?_
  refine Z.if_eqN B dX11_said_23 (tgt := 38) rfl (by omega) (fun h23 => by exfalso; first | omega | contradiction | simp_all) (fun h23 => ?_)
  refine Z.aload_n B dX11_said_26 (v := .ref 0) rfl rfl ?_
  refine Z.getR (σ := σ) B fX11_28_11 dX11_said_27 (hl.n (k := 0) (by decide)) (hl.k (k := 0) (by decide)) (by decide) (j := 20) (hl.r (k := 0) (f := 2) (by decide) (by decide)) ?_
  refine Z.iload B dX11_said_30 (x := c) rfl ?_
  refine Z.callVI (σ := σ) B (M' := mX1_hasComer) (as := [.int c]) (st := []) (v := .int (nI 0)) dX11_said_32 wX1_hasComer iX1_hasComer sX1_hasComer kX11_152 (hl.n (k := 20) (by decide)) (hl.k (k := 20) (by decide)) (by decide) rfl rfl (t_X1_hasComer_out (σ := σ) H hc) rfl rfl (by decide) (by decide) (Nat.le_of_ble_eq_true rfl) (by decide) (by decide) ?_
  refine Z.if_neN B dX11_said_35 (tgt := 44) rfl (by omega) (fun h35 => by exfalso; first | omega | contradiction | simp_all) (fun h35 => ?_)
  refine Z.aload_n B dX11_said_38 (v := .ref 0) rfl rfl ?_
  refine Z.iconst B dX11_said_39 (v := nI 1) rfl ?_
  refine Z.callVI (σ := σ) B (M' := mX11_refuse) (as := [.int (nI 1)]) (st := []) (v := .int (-nI 1)) dX11_said_40 wX11_refuse iX11_refuse sX11_refuse kX11_63 (hl.n (k := 0) (by decide)) (hl.k (k := 0) (by decide)) (by decide) rfl rfl (t_X11_refuse (σ := σ) hl (b := 1) (by decide)) rfl rfl (by decide) (by decide) (Nat.le_of_ble_eq_true rfl) (by decide) (by decide) ?_
  refine Z.eqσ (τ := (zuX σ 43 (upd (zX σ 43) 1 (zX σ 43 1 + nI 1)))) rfl ?_
  refine Z.iret B Rt dX11_said_43 (ty := .int) rfl rfl (by decide) (by decide) ?_
  exact ⟨rfl, rfl⟩

theorem t_K_said_0 {σ : zSt} (hl : Lay σ) {n a y : Nat} (H : zHd σ n a y) {od : Nat → Nat} (ho : zOd σ a od) {i q kd pa num : Nat} (hi : i < y) (hq : zR σ 24 i = some q) (hw : zWo σ q kd pa num) {b p : Nat} (hp : p < a) (hpb : od p = b) (hmin : ∀ j, j < p → od j ≠ b) {c : Nat} (hc : c < n) {sl : Bool} : Dt mX11_said [.ref 0, .int (nI i), .int (zb sl), .int (nI b), .int (nI c)] σ (some (.int (tt (zX σ 21) (zSc σ) (zLk σ) (zDr σ) sl kd pa od c (p + 1) - tt (zX σ 21) (zSc σ) (zLk σ) (zDr σ) sl kd pa od c p))) σ := by
  obtain ⟨-, hn, hn8, ha, ha4, hy, hy8⟩ := id H
  refine Dt.of (by decide) (Nat.le_of_ble_eq_true rfl) fun κ B Rt => ?_
  show Z κ 0 0 σ 0 [(0, .ref 0), (1, .int (nI i)), (2, .int (zb sl)), (3, .int (nI b)), (4, .int (nI c))] []
  have hb : b < a := hpb ▸ (ho p hp).2
  refine Z.aload_n B dX11_said_0 (v := .ref 0) rfl rfl ?_
  refine Z.getR (σ := σ) B fX11_28_11 dX11_said_1 (hl.n (k := 0) (by decide)) (hl.k (k := 0) (by decide)) (by decide) (j := 20) (hl.r (k := 0) (f := 2) (by decide) (by decide)) ?_
  refine Z.iload_n B dX11_said_4 (x := nI i) rfl ?_
  refine Z.callVI (σ := σ) B (M' := mX1_wayAt) (as := [.int (nI i)]) (st := []) (v := .ref q) dX11_said_5 wX1_wayAt iX1_wayAt sX1_wayAt kX11_102 (hl.n (k := 20) (by decide)) (hl.k (k := 20) (by decide)) (by decide) rfl rfl (t_X1_wayAt_in (σ := σ) H hi hq) rfl rfl (by decide) (by decide) (Nat.le_of_ble_eq_true rfl) (by decide) (by decide) ?_
  refine Z.astore B dX11_said_8 (by decide) rfl (L' := [(0, .ref 0), (1, .int (nI i)), (2, .int (zb sl)), (3, .int (nI b)), (4, .int (nI c)), (5, .ref q)]) rfl ?_
  refine Z.aload B dX11_said_10 (v := .ref q) rfl rfl ?_
  refine Z.ifnull_r B dX11_said_12 ?_
  refine Z.aload_n B dX11_said_15 (v := .ref 0) rfl rfl ?_
  refine Z.getR (σ := σ) B fX11_28_11 dX11_said_16 (hl.n (k := 0) (by decide)) (hl.k (k := 0) (by decide)) (by decide) (j := 20) (hl.r (k := 0) (f := 2) (by decide) (by decide)) ?_
  refine Z.iload_n B dX11_said_19 (x := nI b) rfl ?_
  refine Z.callVI (σ := σ) B (M' := mX1_hasAsker) (as := [.int (nI b)]) (st := []) (v := .int (nI 1)) dX11_said_20 wX1_hasAsker iX1_hasAsker sX1_hasAsker kX11_158 (hl.n (k := 20) (by decide)) (hl.k (k := 20) (by decide)) (by decide) rfl rfl (t_X1_hasAsker_in (σ := σ) H hb) rfl rfl (by decide) (by decide) (Nat.le_of_ble_eq_true rfl) (by decide) (by decide) ?_
  refine Z.if_eqN B dX11_said_23 (tgt := 38) rfl (by omega) (fun h23 => by exfalso; first | omega | contradiction | simp_all) (fun h23 => ?_)
  refine Z.aload_n B dX11_said_26 (v := .ref 0) rfl rfl ?_
  refine Z.getR (σ := σ) B fX11_28_11 dX11_said_27 (hl.n (k := 0) (by decide)) (hl.k (k := 0) (by decide)) (by decide) (j := 20) (hl.r (k := 0) (f := 2) (by decide) (by decide)) ?_
  refine Z.iload B dX11_said_30 (x := nI c) rfl ?_
  refine Z.callVI (σ := σ) B (M' := mX1_hasComer) (as := [.int (nI c)]) (st := []) (v := .int (nI 1)) dX11_said_32 wX1_hasComer iX1_hasComer sX1_hasComer kX11_152 (hl.n (k := 20) (by decide)) (hl.k (k := 20) (by decide)) (by decide) rfl rfl (t_X1_hasComer_in (σ := σ) H hc) rfl rfl (by decide) (by decide) (Nat.le_of_ble_eq_true rfl) (by decide) (by decide) ?_
  refine Z.if_neN B dX11_said_35 (tgt := 44) rfl (by omega) (fun h35 => ?_) (fun h35 => by exfalso; first | omega | contradiction | simp_all)
  refine Z.aload_n B dX11_said_44 (v := .ref 0) rfl rfl ?_
  refine Z.getR (σ := σ) B fX11_28_11 dX11_said_45 (hl.n (k := 0) (by decide)) (hl.k (k := 0) (by decide)) (by decide) (j := 20) (hl.r (k := 0) (f := 2) (by decide) (by decide)) ?_
  refine Z.aload B dX11_said_48 (v := .ref q) rfl rfl ?_
  refine Z.iload_n B dX11_said_50 (x := zb sl) rfl ?_
  refine Z.iload_n B dX11_said_51 (x := nI b) rfl ?_
  refine Z.iload B dX11_said_52 (x := nI c) rfl ?_
  refine Z.callVI (σ := σ) B (M' := mX1_saidBy) (as := [.ref q, .int (zb sl), .int (nI b), .int (nI c)]) (st := []) (v := .int (tt (zX σ 21) (zSc σ) (zLk σ) (zDr σ) sl kd pa od c (p + 1) - tt (zX σ 21) (zSc σ) (zLk σ) (zDr σ) sl kd pa od c p)) dX11_said_54 wX1_saidBy iX1_saidBy sX1_saidBy kX11_203 (hl.n (k := 20) (by decide)) (hl.k (k := 20) (by decide)) (by decide) rfl rfl (t_X1_saidBy (σ := σ) H ho hw hp hpb hmin hc) rfl rfl (by decide) (by decide) (Nat.le_of_ble_eq_true rfl) (by decide) (by decide) ?_
  refine Z.iret B Rt dX11_said_57 (ty := .int) rfl rfl (by decide) (by decide) ?_
  exact ⟨rfl, rfl⟩

theorem t_K_total_1 {σ : zSt} (hl : Lay σ) {n a y : Nat} (H : zHd σ n a y) {i : Int32} (hi : zOut i y) {sl : Bool} {c : Int32} : Dt mX11_total [.ref 0, .int i, .int (zb sl), .int c] σ (some (.int (-nI 1))) (zuX σ 43 (upd (zX σ 43) 1 (zX σ 43 1 + nI 1))) := by
  obtain ⟨-, hn, hn8, ha, ha4, hy, hy8⟩ := id H
  refine Dt.of (by decide) (Nat.le_of_ble_eq_true rfl) fun κ B Rt => ?_
  show Z κ 0 0 σ 0 [(0, .ref 0), (1, .int i), (2, .int (zb sl)), (3, .int c)] []
  refine Z.aload_n B dX11_total_0 (v := .ref 0) rfl rfl ?_
  refine Z.getR (σ := σ) B fX11_28_11 dX11_total_1 (hl.n (k := 0) (by decide)) (hl.k (k := 0) (by decide)) (by decide) (j := 20) (hl.r (k := 0) (f := 2) (by decide) (by decide)) ?_
  refine Z.iload_n B dX11_total_4 (x := i) rfl ?_
  refine Z.callVI (σ := σ) B (M' := mX1_wayAt) (as := [.int i]) (st := []) (v := .null) dX11_total_5 wX1_wayAt iX1_wayAt sX1_wayAt kX11_102 (hl.n (k := 20) (by decide)) (hl.k (k := 20) (by decide)) (by decide) rfl rfl (t_X1_wayAt_out (σ := σ) H hi) rfl rfl (by decide) (by decide) (Nat.le_of_ble_eq_true rfl) (by decide) (by decide) ?_
  refine Z.astore B dX11_total_8 (by decide) rfl (L' := [(0, .ref 0), (1, .int i), (2, .int (zb sl)), (3, .int c), (4, .null)]) rfl ?_
  refine Z.aload B dX11_total_10 (v := .null) rfl rfl ?_
  refine Z.ifnull_n B dX11_total_12 (tgt := 26) rfl ?_
  refine Z.aload_n B dX11_total_26 (v := .ref 0) rfl rfl ?_
  refine Z.iconst B dX11_total_27 (v := nI 1) rfl ?_
  refine Z.callVI (σ := σ) B (M' := mX11_refuse) (as := [.int (nI 1)]) (st := []) (v := .int (-nI 1)) dX11_total_28 wX11_refuse iX11_refuse sX11_refuse kX11_63 (hl.n (k := 0) (by decide)) (hl.k (k := 0) (by decide)) (by decide) rfl rfl (t_X11_refuse (σ := σ) hl (b := 1) (by decide)) rfl rfl (by decide) (by decide) (Nat.le_of_ble_eq_true rfl) (by decide) (by decide) ?_
  refine Z.eqσ (τ := (zuX σ 43 (upd (zX σ 43) 1 (zX σ 43 1 + nI 1)))) rfl ?_
  refine Z.iret B Rt dX11_total_31 (ty := .int) rfl rfl (by decide) (by decide) ?_
  exact ⟨rfl, rfl⟩

theorem t_K_total_2 {σ : zSt} (hl : Lay σ) {n a y : Nat} (H : zHd σ n a y) {i q kd pa num : Nat} (hi : i < y) (hq : zR σ 24 i = some q) (hw : zWo σ q kd pa num) {c : Int32} (hc : zOut c n) {sl : Bool} : Dt mX11_total [.ref 0, .int (nI i), .int (zb sl), .int c] σ (some (.int (-nI 1))) (zuX σ 43 (upd (zX σ 43) 1 (zX σ 43 1 + nI 1))) := by
  obtain ⟨-, hn, hn8, ha, ha4, hy, hy8⟩ := id H
  refine Dt.of (by decide) (Nat.le_of_ble_eq_true rfl) fun κ B Rt => ?_
  show Z κ 0 0 σ 0 [(0, .ref 0), (1, .int (nI i)), (2, .int (zb sl)), (3, .int c)] []
  refine Z.aload_n B dX11_total_0 (v := .ref 0) rfl rfl ?_
  refine Z.getR (σ := σ) B fX11_28_11 dX11_total_1 (hl.n (k := 0) (by decide)) (hl.k (k := 0) (by decide)) (by decide) (j := 20) (hl.r (k := 0) (f := 2) (by decide) (by decide)) ?_
  refine Z.iload_n B dX11_total_4 (x := nI i) rfl ?_
  refine Z.callVI (σ := σ) B (M' := mX1_wayAt) (as := [.int (nI i)]) (st := []) (v := .ref q) dX11_total_5 wX1_wayAt iX1_wayAt sX1_wayAt kX11_102 (hl.n (k := 20) (by decide)) (hl.k (k := 20) (by decide)) (by decide) rfl rfl (t_X1_wayAt_in (σ := σ) H hi hq) rfl rfl (by decide) (by decide) (Nat.le_of_ble_eq_true rfl) (by decide) (by decide) ?_
  refine Z.astore B dX11_total_8 (by decide) rfl (L' := [(0, .ref 0), (1, .int (nI i)), (2, .int (zb sl)), (3, .int c), (4, .ref q)]) rfl ?_
  refine Z.aload B dX11_total_10 (v := .ref q) rfl rfl ?_
  refine Z.ifnull_r B dX11_total_12 ?_
  refine Z.aload_n B dX11_total_15 (v := .ref 0) rfl rfl ?_
  refine Z.getR (σ := σ) B fX11_28_11 dX11_total_16 (hl.n (k := 0) (by decide)) (hl.k (k := 0) (by decide)) (by decide) (j := 20) (hl.r (k := 0) (f := 2) (by decide) (by decide)) ?_
  refine Z.iload_n B dX11_total_19 (x := c) rfl ?_
  refine Z.callVI (σ := σ) B (M' := mX1_hasComer) (as := [.int c]) (st := []) (v := .int (nI 0)) dX11_total_20 wX1_hasComer iX1_hasComer sX1_hasComer kX11_152 (hl.n (k := 20) (by decide)) (hl.k (k := 20) (by decide)) (by decide) rfl rfl (t_X1_hasComer_out (σ := σ) H hc) rfl rfl (by decide) (by decide) (Nat.le_of_ble_eq_true rfl) (by decide) (by decide) ?_
  refine Z.if_neN B dX11_total_23 (tgt := 32) rfl (by omega) (fun h23 => by exfalso; first | omega | contradiction | simp_all) (fun h23 => ?_)
  refine Z.aload_n B dX11_total_26 (v := .ref 0) rfl rfl ?_
  refine Z.iconst B dX11_total_27 (v := nI 1) rfl ?_
  refine Z.callVI (σ := σ) B (M' := mX11_refuse) (as := [.int (nI 1)]) (st := []) (v := .int (-nI 1)) dX11_total_28 wX11_refuse iX11_refuse sX11_refuse kX11_63 (hl.n (k := 0) (by decide)) (hl.k (k := 0) (by decide)) (by decide) rfl rfl (t_X11_refuse (σ := σ) hl (b := 1) (by decide)) rfl rfl (by decide) (by decide) (Nat.le_of_ble_eq_true rfl) (by decide) (by decide) ?_
  refine Z.eqσ (τ := (zuX σ 43 (upd (zX σ 43) 1 (zX σ 43 1 + nI 1)))) rfl ?_
  refine Z.iret B Rt dX11_total_31 (ty := .int) rfl rfl (by decide) (by decide) ?_
  exact ⟨rfl, rfl⟩

theorem t_K_total_0 {σ : zSt} (hl : Lay σ) {n a y : Nat} (H : zHd σ n a y) {od : Nat → Nat} (ho : zOd σ a od) {i q kd pa num : Nat} (hi : i < y) (hq : zR σ 24 i = some q) (hw : zWo σ q kd pa num) {c : Nat} (hc : c < n) {sl : Bool} : Dt mX11_total [.ref 0, .int (nI i), .int (zb sl), .int (nI c)] σ (some (.int ((tf (zX σ 21) (zSc σ) (zLk σ) (zDr σ) sl kd pa od a) c))) σ := by
  obtain ⟨-, hn, hn8, ha, ha4, hy, hy8⟩ := id H
  refine Dt.of (by decide) (Nat.le_of_ble_eq_true rfl) fun κ B Rt => ?_
  show Z κ 0 0 σ 0 [(0, .ref 0), (1, .int (nI i)), (2, .int (zb sl)), (3, .int (nI c))] []
  refine Z.aload_n B dX11_total_0 (v := .ref 0) rfl rfl ?_
  refine Z.getR (σ := σ) B fX11_28_11 dX11_total_1 (hl.n (k := 0) (by decide)) (hl.k (k := 0) (by decide)) (by decide) (j := 20) (hl.r (k := 0) (f := 2) (by decide) (by decide)) ?_
  refine Z.iload_n B dX11_total_4 (x := nI i) rfl ?_
  refine Z.callVI (σ := σ) B (M' := mX1_wayAt) (as := [.int (nI i)]) (st := []) (v := .ref q) dX11_total_5 wX1_wayAt iX1_wayAt sX1_wayAt kX11_102 (hl.n (k := 20) (by decide)) (hl.k (k := 20) (by decide)) (by decide) rfl rfl (t_X1_wayAt_in (σ := σ) H hi hq) rfl rfl (by decide) (by decide) (Nat.le_of_ble_eq_true rfl) (by decide) (by decide) ?_
  refine Z.astore B dX11_total_8 (by decide) rfl (L' := [(0, .ref 0), (1, .int (nI i)), (2, .int (zb sl)), (3, .int (nI c)), (4, .ref q)]) rfl ?_
  refine Z.aload B dX11_total_10 (v := .ref q) rfl rfl ?_
  refine Z.ifnull_r B dX11_total_12 ?_
  refine Z.aload_n B dX11_total_15 (v := .ref 0) rfl rfl ?_
  refine Z.getR (σ := σ) B fX11_28_11 dX11_total_16 (hl.n (k := 0) (by decide)) (hl.k (k := 0) (by decide)) (by decide) (j := 20) (hl.r (k := 0) (f := 2) (by decide) (by decide)) ?_
  refine Z.iload_n B dX11_total_19 (x := nI c) rfl ?_
  refine Z.callVI (σ := σ) B (M' := mX1_hasComer) (as := [.int (nI c)]) (st := []) (v := .int (nI 1)) dX11_total_20 wX1_hasComer iX1_hasComer sX1_hasComer kX11_152 (hl.n (k := 20) (by decide)) (hl.k (k := 20) (by decide)) (by decide) rfl rfl (t_X1_hasComer_in (σ := σ) H hc) rfl rfl (by decide) (by decide) (Nat.le_of_ble_eq_true rfl) (by decide) (by decide) ?_
  refine Z.if_neN B dX11_total_23 (tgt := 32) rfl (by omega) (fun h23 => ?_) (fun h23 => by exfalso; first | omega | contradiction | simp_all)
  refine Z.aload_n B dX11_total_32 (v := .ref 0) rfl rfl ?_
  refine Z.getR (σ := σ) B fX11_28_11 dX11_total_33 (hl.n (k := 0) (by decide)) (hl.k (k := 0) (by decide)) (by decide) (j := 20) (hl.r (k := 0) (f := 2) (by decide) (by decide)) ?_
  refine Z.aload_n B dX11_total_36 (v := .ref 0) rfl rfl ?_
  refine Z.getR (σ := σ) B fX11_28_11 dX11_total_37 (hl.n (k := 0) (by decide)) (hl.k (k := 0) (by decide)) (by decide) (j := 20) (hl.r (k := 0) (f := 2) (by decide) (by decide)) ?_
  refine Z.callVI (σ := σ) B (M' := mX1_askerCount) (as := []) (st := [.ref 20]) (v := .int (nI a)) dX11_total_40 wX1_askerCount iX1_askerCount sX1_askerCount kX11_207 (hl.n (k := 20) (by decide)) (hl.k (k := 20) (by decide)) (by decide) rfl rfl (t_X1_askerCount (σ := σ) H) rfl rfl (by decide) (by decide) (Nat.le_of_ble_eq_true rfl) (by decide) (by decide) ?_
  refine Z.aload B dX11_total_43 (v := .ref q) rfl rfl ?_
  refine Z.iload_n B dX11_total_45 (x := zb sl) rfl ?_
  refine Z.iload_n B dX11_total_46 (x := nI c) rfl ?_
  refine Z.callVI (σ := σ) B (M' := mX1_saidByFirst) (as := [.int (nI a), .ref q, .int (zb sl), .int (nI c)]) (st := []) (v := .int ((tf (zX σ 21) (zSc σ) (zLk σ) (zDr σ) sl kd pa od a) c)) dX11_total_47 wX1_saidByFirst iX1_saidByFirst sX1_saidByFirst kX11_210 (hl.n (k := 20) (by decide)) (hl.k (k := 20) (by decide)) (by decide) rfl rfl (t_X1_saidByFirst (σ := σ) H ho hw (Nat.le_refl _) hc) rfl rfl (by decide) (by decide) (Nat.le_of_ble_eq_true rfl) (by decide) (by decide) ?_
  refine Z.iret B Rt dX11_total_50 (ty := .int) rfl rfl (by decide) (by decide) ?_
  exact ⟨rfl, rfl⟩

theorem t_K_taken_1 {σ : zSt} (hl : Lay σ) {n a y : Nat} (H : zHd σ n a y) {i : Int32} (hi : zOut i y) {sl : Bool} : Dt mX11_taken [.ref 0, .int i, .int (zb sl)] σ (some (.int (-11))) (zuX σ 43 (upd (zX σ 43) 1 (zX σ 43 1 + nI 1))) := by
  obtain ⟨-, hn, hn8, ha, ha4, hy, hy8⟩ := id H
  refine Dt.of (by decide) (Nat.le_of_ble_eq_true rfl) fun κ B Rt => ?_
  show Z κ 0 0 σ 0 [(0, .ref 0), (1, .int i), (2, .int (zb sl))] []
  refine Z.aload_n B dX11_taken_0 (v := .ref 0) rfl rfl ?_
  refine Z.getR (σ := σ) B fX11_28_11 dX11_taken_1 (hl.n (k := 0) (by decide)) (hl.k (k := 0) (by decide)) (by decide) (j := 20) (hl.r (k := 0) (f := 2) (by decide) (by decide)) ?_
  refine Z.iload_n B dX11_taken_4 (x := i) rfl ?_
  refine Z.callVI (σ := σ) B (M' := mX1_wayAt) (as := [.int i]) (st := []) (v := .null) dX11_taken_5 wX1_wayAt iX1_wayAt sX1_wayAt kX11_102 (hl.n (k := 20) (by decide)) (hl.k (k := 20) (by decide)) (by decide) rfl rfl (t_X1_wayAt_out (σ := σ) H hi) rfl rfl (by decide) (by decide) (Nat.le_of_ble_eq_true rfl) (by decide) (by decide) ?_
  refine Z.astore_n B dX11_taken_8 (by decide) rfl (L' := [(0, .ref 0), (1, .int i), (2, .int (zb sl)), (3, .null)]) rfl ?_
  refine Z.aload_n B dX11_taken_9 (v := .null) rfl rfl ?_
  refine Z.ifnonnull_n B dX11_taken_10 ?_
  refine Z.aload_n B dX11_taken_13 (v := .ref 0) rfl rfl ?_
  refine Z.iconst B dX11_taken_14 (v := nI 1) rfl ?_
  refine Z.callVI (σ := σ) B (M' := mX11_refuse) (as := [.int (nI 1)]) (st := []) (v := .int (-nI 1)) dX11_taken_15 wX11_refuse iX11_refuse sX11_refuse kX11_63 (hl.n (k := 0) (by decide)) (hl.k (k := 0) (by decide)) (by decide) rfl rfl (t_X11_refuse (σ := σ) hl (b := 1) (by decide)) rfl rfl (by decide) (by decide) (Nat.le_of_ble_eq_true rfl) (by decide) (by decide) ?_
  refine Z.eqσ (τ := (zuX σ 43 (upd (zX σ 43) 1 (zX σ 43 1 + nI 1)))) rfl ?_
  refine Z.pop B dX11_taken_18 rfl ?_
  refine Z.bipush B dX11_taken_19 (v := (-11)) rfl ?_
  refine Z.iret B Rt dX11_taken_21 (ty := .int) rfl rfl (by decide) (by decide) ?_
  exact ⟨rfl, rfl⟩

theorem t_K_taken_0 {σ : zSt} (hl : Lay σ) {n a y : Nat} (H : zHd σ n a y) {od : Nat → Nat} (ho : zOd σ a od) {i q kd pa num : Nat} (hi : i < y) (hq : zR σ 24 i = some q) (hw : zWo σ q kd pa num) {sl : Bool} : Dt mX11_taken [.ref 0, .int (nI i), .int (zb sl)] σ (some (.int (gI (tf (zX σ 21) (zSc σ) (zLk σ) (zDr σ) sl kd pa od a) n))) (zuX σ 25 (fi n (tf (zX σ 21) (zSc σ) (zLk σ) (zDr σ) sl kd pa od a) (zX σ 25))) := by
  obtain ⟨-, hn, hn8, ha, ha4, hy, hy8⟩ := id H
  refine Dt.of (by decide) (Nat.le_of_ble_eq_true rfl) fun κ B Rt => ?_
  show Z κ 0 0 σ 0 [(0, .ref 0), (1, .int (nI i)), (2, .int (zb sl))] []
  refine Z.aload_n B dX11_taken_0 (v := .ref 0) rfl rfl ?_
  refine Z.getR (σ := σ) B fX11_28_11 dX11_taken_1 (hl.n (k := 0) (by decide)) (hl.k (k := 0) (by decide)) (by decide) (j := 20) (hl.r (k := 0) (f := 2) (by decide) (by decide)) ?_
  refine Z.iload_n B dX11_taken_4 (x := nI i) rfl ?_
  refine Z.callVI (σ := σ) B (M' := mX1_wayAt) (as := [.int (nI i)]) (st := []) (v := .ref q) dX11_taken_5 wX1_wayAt iX1_wayAt sX1_wayAt kX11_102 (hl.n (k := 20) (by decide)) (hl.k (k := 20) (by decide)) (by decide) rfl rfl (t_X1_wayAt_in (σ := σ) H hi hq) rfl rfl (by decide) (by decide) (Nat.le_of_ble_eq_true rfl) (by decide) (by decide) ?_
  refine Z.astore_n B dX11_taken_8 (by decide) rfl (L' := [(0, .ref 0), (1, .int (nI i)), (2, .int (zb sl)), (3, .ref q)]) rfl ?_
  refine Z.aload_n B dX11_taken_9 (v := .ref q) rfl rfl ?_
  refine Z.ifnonnull_r B dX11_taken_10 (tgt := 22) rfl ?_
  refine Z.aload_n B dX11_taken_22 (v := .ref 0) rfl rfl ?_
  refine Z.getR (σ := σ) B fX11_28_11 dX11_taken_23 (hl.n (k := 0) (by decide)) (hl.k (k := 0) (by decide)) (by decide) (j := 20) (hl.r (k := 0) (f := 2) (by decide) (by decide)) ?_
  refine Z.aload_n B dX11_taken_26 (v := .ref q) rfl rfl ?_
  refine Z.iload_n B dX11_taken_27 (x := zb sl) rfl ?_
  refine Z.callVI (σ := σ) B (M' := mX1_takenBy) (as := [.ref q, .int (zb sl)]) (st := []) (v := .int (gI (tf (zX σ 21) (zSc σ) (zLk σ) (zDr σ) sl kd pa od a) n)) dX11_taken_28 wX1_takenBy iX1_takenBy sX1_takenBy kX11_214 (hl.n (k := 20) (by decide)) (hl.k (k := 20) (by decide)) (by decide) rfl rfl (t_X1_takenBy (σ := σ) H ho hw) rfl rfl (by decide) (by decide) (Nat.le_of_ble_eq_true rfl) (by decide) (by decide) ?_
  refine Z.eqσ (τ := (zuX σ 25 (fi n (tf (zX σ 21) (zSc σ) (zLk σ) (zDr σ) sl kd pa od a) (zX σ 25)))) rfl ?_
  refine Z.iret B Rt dX11_taken_31 (ty := .int) rfl rfl (by decide) (by decide) ?_
  exact ⟨rfl, rfl⟩

theorem t_K_best_5 {σ : zSt} (hl : Lay σ) {n a y : Nat} (H : zHd σ n a y) (h0 : n = 0) : Dt mX11_best [.ref 0] σ (some (.int (-nI 5))) (zuX σ 43 (upd (zX σ 43) 5 (zX σ 43 5 + nI 1))) := by
  obtain ⟨-, hn, hn8, ha, ha4, hy, hy8⟩ := id H
  refine Dt.of (by decide) (Nat.le_of_ble_eq_true rfl) fun κ B Rt => ?_
  show Z κ 0 0 σ 0 [(0, .ref 0)] []
  refine Z.aload_n B dX11_best_0 (v := .ref 0) rfl rfl ?_
  refine Z.getR (σ := σ) B fX11_28_11 dX11_best_1 (hl.n (k := 0) (by decide)) (hl.k (k := 0) (by decide)) (by decide) (j := 20) (hl.r (k := 0) (f := 2) (by decide) (by decide)) ?_
  refine Z.iconst B dX11_best_4 (v := nI 0) rfl ?_
  refine Z.callVI (σ := σ) B (M' := mX1_hasComer) (as := [.int (nI 0)]) (st := []) (v := .int (nI 0)) dX11_best_5 wX1_hasComer iX1_hasComer sX1_hasComer kX11_152 (hl.n (k := 20) (by decide)) (hl.k (k := 20) (by decide)) (by decide) rfl rfl (t_X1_hasComer_far (σ := σ) H (c := nI 0) (by decide) (by rw [h0]; decide)) rfl rfl (by decide) (by decide) (Nat.le_of_ble_eq_true rfl) (by decide) (by decide) ?_
  refine Z.if_eqN B dX11_best_8 (tgt := 23) rfl (by omega) (fun h8 => ?_) (fun h8 => by exfalso; first | omega | contradiction | simp_all)
  refine Z.aload_n B dX11_best_23 (v := .ref 0) rfl rfl ?_
  refine Z.iconst B dX11_best_24 (v := nI 5) rfl ?_
  refine Z.callVI (σ := σ) B (M' := mX11_refuse) (as := [.int (nI 5)]) (st := []) (v := .int (-nI 5)) dX11_best_25 wX11_refuse iX11_refuse sX11_refuse kX11_63 (hl.n (k := 0) (by decide)) (hl.k (k := 0) (by decide)) (by decide) rfl rfl (t_X11_refuse (σ := σ) hl (b := 5) (by decide)) rfl rfl (by decide) (by decide) (Nat.le_of_ble_eq_true rfl) (by decide) (by decide) ?_
  refine Z.eqσ (τ := (zuX σ 43 (upd (zX σ 43) 5 (zX σ 43 5 + nI 1)))) rfl ?_
  refine Z.iret B Rt dX11_best_28 (ty := .int) rfl rfl (by decide) (by decide) ?_
  exact ⟨rfl, rfl⟩

theorem t_K_best_0 {σ : zSt} (hl : Lay σ) {n a y : Nat} (H : zHd σ n a y) (h0 : 0 < n) : Dt mX11_best [.ref 0] σ (some (.int (gI (fun c => cn (zX σ 21) c 6) n))) (zuX σ 25 (fi n (fun c => cn (zX σ 21) c 6) (zX σ 25))) := by
  obtain ⟨-, hn, hn8, ha, ha4, hy, hy8⟩ := id H
  refine Dt.of (by decide) (Nat.le_of_ble_eq_true rfl) fun κ B Rt => ?_
  show Z κ 0 0 σ 0 [(0, .ref 0)] []
  refine Z.aload_n B dX11_best_0 (v := .ref 0) rfl rfl ?_
  refine Z.getR (σ := σ) B fX11_28_11 dX11_best_1 (hl.n (k := 0) (by decide)) (hl.k (k := 0) (by decide)) (by decide) (j := 20) (hl.r (k := 0) (f := 2) (by decide) (by decide)) ?_
  refine Z.iconst B dX11_best_4 (v := nI 0) rfl ?_
  refine Z.callVI (σ := σ) B (M' := mX1_hasComer) (as := [.int (nI 0)]) (st := []) (v := .int (nI 1)) dX11_best_5 wX1_hasComer iX1_hasComer sX1_hasComer kX11_152 (hl.n (k := 20) (by decide)) (hl.k (k := 20) (by decide)) (by decide) rfl rfl (t_X1_hasComer_in (σ := σ) H h0) rfl rfl (by decide) (by decide) (Nat.le_of_ble_eq_true rfl) (by decide) (by decide) ?_
  refine Z.if_eqN B dX11_best_8 (tgt := 23) rfl (by omega) (fun h8 => by exfalso; first | omega | contradiction | simp_all) (fun h8 => ?_)
  refine Z.aload_n B dX11_best_11 (v := .ref 0) rfl rfl ?_
  refine Z.getR (σ := σ) B fX11_28_11 dX11_best_12 (hl.n (k := 0) (by decide)) (hl.k (k := 0) (by decide)) (by decide) (j := 20) (hl.r (k := 0) (f := 2) (by decide) (by decide)) ?_
  refine Z.bipush B dX11_best_15 (v := nI 6) rfl ?_
  refine Z.callVI (σ := σ) B (M' := mX1_firstGreatest) (as := [.int (nI 6)]) (st := []) (v := .int (gI (fun c => cn (zX σ 21) c 6) n)) dX11_best_17 wX1_firstGreatest iX1_firstGreatest sX1_firstGreatest kX11_218 (hl.n (k := 20) (by decide)) (hl.k (k := 20) (by decide)) (by decide) rfl rfl (t_X1_firstGreatest (σ := σ) H (by decide)) rfl rfl (by decide) (by decide) (Nat.le_of_ble_eq_true rfl) (by decide) (by decide) ?_
  refine Z.eqσ (τ := (zuX σ 25 (fi n (fun c => cn (zX σ 21) c 6) (zX σ 25)))) rfl ?_
  refine Z.goto B dX11_best_20 (tgt := 28) rfl ?_
  refine Z.iret B Rt dX11_best_28 (ty := .int) rfl rfl (by decide) (by decide) ?_
  exact ⟨rfl, rfl⟩

theorem t_K_tells_1 {σ : zSt} (hl : Lay σ) {n a y : Nat} (H : zHd σ n a y) {i : Int32} (hi : zOut i y) {sl : Bool} : Dt mX11_tells [.ref 0, .int i, .int (zb sl)] σ (some (.int ((-nI 1) - nI 1000))) (zuX σ 43 (upd (zX σ 43) 1 (zX σ 43 1 + nI 1))) := by
  obtain ⟨-, hn, hn8, ha, ha4, hy, hy8⟩ := id H
  refine Dt.of (by decide) (Nat.le_of_ble_eq_true rfl) fun κ B Rt => ?_
  show Z κ 0 0 σ 0 [(0, .ref 0), (1, .int i), (2, .int (zb sl))] []
  refine Z.aload_n B dX11_tells_0 (v := .ref 0) rfl rfl ?_
  refine Z.getR (σ := σ) B fX11_28_11 dX11_tells_1 (hl.n (k := 0) (by decide)) (hl.k (k := 0) (by decide)) (by decide) (j := 20) (hl.r (k := 0) (f := 2) (by decide) (by decide)) ?_
  refine Z.iload_n B dX11_tells_4 (x := i) rfl ?_
  refine Z.callVI (σ := σ) B (M' := mX1_wayAt) (as := [.int i]) (st := []) (v := .null) dX11_tells_5 wX1_wayAt iX1_wayAt sX1_wayAt kX11_102 (hl.n (k := 20) (by decide)) (hl.k (k := 20) (by decide)) (by decide) rfl rfl (t_X1_wayAt_out (σ := σ) H hi) rfl rfl (by decide) (by decide) (Nat.le_of_ble_eq_true rfl) (by decide) (by decide) ?_
  refine Z.astore_n B dX11_tells_8 (by decide) rfl (L' := [(0, .ref 0), (1, .int i), (2, .int (zb sl)), (3, .null)]) rfl ?_
  refine Z.aload_n B dX11_tells_9 (v := .null) rfl rfl ?_
  refine Z.ifnonnull_n B dX11_tells_10 ?_
  refine Z.aload_n B dX11_tells_13 (v := .ref 0) rfl rfl ?_
  refine Z.iconst B dX11_tells_14 (v := nI 1) rfl ?_
  refine Z.callVI (σ := σ) B (M' := mX11_refuseFar) (as := [.int (nI 1)]) (st := []) (v := .int ((-nI 1) - nI 1000)) dX11_tells_15 wX11_refuseFar iX11_refuseFar sX11_refuseFar kX11_221 (hl.n (k := 0) (by decide)) (hl.k (k := 0) (by decide)) (by decide) rfl rfl (t_X11_refuseFar (σ := σ) hl (b := 1) (by decide)) rfl rfl (by decide) (by decide) (Nat.le_of_ble_eq_true rfl) (by decide) (by decide) ?_
  refine Z.eqσ (τ := (zuX σ 43 (upd (zX σ 43) 1 (zX σ 43 1 + nI 1)))) rfl ?_
  refine Z.goto B dX11_tells_18 (tgt := 30) rfl ?_
  refine Z.iret B Rt dX11_tells_30 (ty := .int) rfl rfl (by decide) (by decide) ?_
  exact ⟨rfl, rfl⟩

theorem t_K_tells_0 {σ : zSt} (hl : Lay σ) {n a y : Nat} (H : zHd σ n a y) {od : Nat → Nat} (ho : zOd σ a od) {i q kd pa num : Nat} (hi : i < y) (hq : zR σ 24 i = some q) (hw : zWo σ q kd pa num) {sl : Bool} : Dt mX11_tells [.ref 0, .int (nI i), .int (zb sl)] σ (some (.int (tO (pt (zX σ 21) (tf (zX σ 21) (zSc σ) (zLk σ) (zDr σ) sl kd pa od a)) n))) (zuX σ 25 (fi n (tf (zX σ 21) (zSc σ) (zLk σ) (zDr σ) sl kd pa od a) (zX σ 25))) := by
  obtain ⟨-, hn, hn8, ha, ha4, hy, hy8⟩ := id H
  refine Dt.of (by decide) (Nat.le_of_ble_eq_true rfl) fun κ B Rt => ?_
  show Z κ 0 0 σ 0 [(0, .ref 0), (1, .int (nI i)), (2, .int (zb sl))] []
  refine Z.aload_n B dX11_tells_0 (v := .ref 0) rfl rfl ?_
  refine Z.getR (σ := σ) B fX11_28_11 dX11_tells_1 (hl.n (k := 0) (by decide)) (hl.k (k := 0) (by decide)) (by decide) (j := 20) (hl.r (k := 0) (f := 2) (by decide) (by decide)) ?_
  refine Z.iload_n B dX11_tells_4 (x := nI i) rfl ?_
  refine Z.callVI (σ := σ) B (M' := mX1_wayAt) (as := [.int (nI i)]) (st := []) (v := .ref q) dX11_tells_5 wX1_wayAt iX1_wayAt sX1_wayAt kX11_102 (hl.n (k := 20) (by decide)) (hl.k (k := 20) (by decide)) (by decide) rfl rfl (t_X1_wayAt_in (σ := σ) H hi hq) rfl rfl (by decide) (by decide) (Nat.le_of_ble_eq_true rfl) (by decide) (by decide) ?_
  refine Z.astore_n B dX11_tells_8 (by decide) rfl (L' := [(0, .ref 0), (1, .int (nI i)), (2, .int (zb sl)), (3, .ref q)]) rfl ?_
  refine Z.aload_n B dX11_tells_9 (v := .ref q) rfl rfl ?_
  refine Z.ifnonnull_r B dX11_tells_10 (tgt := 21) rfl ?_
  refine Z.aload_n B dX11_tells_21 (v := .ref 0) rfl rfl ?_
  refine Z.getR (σ := σ) B fX11_28_11 dX11_tells_22 (hl.n (k := 0) (by decide)) (hl.k (k := 0) (by decide)) (by decide) (j := 20) (hl.r (k := 0) (f := 2) (by decide) (by decide)) ?_
  refine Z.aload_n B dX11_tells_25 (v := .ref q) rfl rfl ?_
  refine Z.iload_n B dX11_tells_26 (x := zb sl) rfl ?_
  refine Z.callVI (σ := σ) B (M' := mX1_tellsOf) (as := [.ref q, .int (zb sl)]) (st := []) (v := .int (tO (pt (zX σ 21) (tf (zX σ 21) (zSc σ) (zLk σ) (zDr σ) sl kd pa od a)) n)) dX11_tells_27 wX1_tellsOf iX1_tellsOf sX1_tellsOf kX11_224 (hl.n (k := 20) (by decide)) (hl.k (k := 20) (by decide)) (by decide) rfl rfl (t_X1_tellsOf (σ := σ) H ho hw) rfl rfl (by decide) (by decide) (Nat.le_of_ble_eq_true rfl) (by decide) (by decide) ?_
  refine Z.eqσ (τ := (zuX σ 25 (fi n (tf (zX σ 21) (zSc σ) (zLk σ) (zDr σ) sl kd pa od a) (zX σ 25)))) rfl ?_
  refine Z.iret B Rt dX11_tells_30 (ty := .int) rfl rfl (by decide) (by decide) ?_
  exact ⟨rfl, rfl⟩

theorem t_K_righted_1 {σ : zSt} (hl : Lay σ) {n a y : Nat} (H : zHd σ n a y) {i : Int32} (hi : zOut i y) {m : Int32} : Dt mX11_righted [.ref 0, .int i, .int m] σ (some (.int ((-nI 1) - nI 1000))) (zuX σ 43 (upd (zX σ 43) 1 (zX σ 43 1 + nI 1))) := by
  obtain ⟨-, hn, hn8, ha, ha4, hy, hy8⟩ := id H
  refine Dt.of (by decide) (Nat.le_of_ble_eq_true rfl) fun κ B Rt => ?_
  show Z κ 0 0 σ 0 [(0, .ref 0), (1, .int i), (2, .int m)] []
  refine Z.aload_n B dX11_righted_0 (v := .ref 0) rfl rfl ?_
  refine Z.getR (σ := σ) B fX11_28_11 dX11_righted_1 (hl.n (k := 0) (by decide)) (hl.k (k := 0) (by decide)) (by decide) (j := 20) (hl.r (k := 0) (f := 2) (by decide) (by decide)) ?_
  refine Z.iload_n B dX11_righted_4 (x := i) rfl ?_
  refine Z.callVI (σ := σ) B (M' := mX1_wayAt) (as := [.int i]) (st := []) (v := .null) dX11_righted_5 wX1_wayAt iX1_wayAt sX1_wayAt kX11_102 (hl.n (k := 20) (by decide)) (hl.k (k := 20) (by decide)) (by decide) rfl rfl (t_X1_wayAt_out (σ := σ) H hi) rfl rfl (by decide) (by decide) (Nat.le_of_ble_eq_true rfl) (by decide) (by decide) ?_
  refine Z.astore_n B dX11_righted_8 (by decide) rfl (L' := [(0, .ref 0), (1, .int i), (2, .int m), (3, .null)]) rfl ?_
  refine Z.aload_n B dX11_righted_9 (v := .null) rfl rfl ?_
  refine Z.ifnonnull_n B dX11_righted_10 ?_
  refine Z.aload_n B dX11_righted_13 (v := .ref 0) rfl rfl ?_
  refine Z.iconst B dX11_righted_14 (v := nI 1) rfl ?_
  refine Z.callVI (σ := σ) B (M' := mX11_refuseFar) (as := [.int (nI 1)]) (st := []) (v := .int ((-nI 1) - nI 1000)) dX11_righted_15 wX11_refuseFar iX11_refuseFar sX11_refuseFar kX11_221 (hl.n (k := 0) (by decide)) (hl.k (k := 0) (by decide)) (by decide) rfl rfl (t_X11_refuseFar (σ := σ) hl (b := 1) (by decide)) rfl rfl (by decide) (by decide) (Nat.le_of_ble_eq_true rfl) (by decide) (by decide) ?_
  refine Z.eqσ (τ := (zuX σ 43 (upd (zX σ 43) 1 (zX σ 43 1 + nI 1)))) rfl ?_
  refine Z.iret B Rt dX11_righted_18 (ty := .int) rfl rfl (by decide) (by decide) ?_
  exact ⟨rfl, rfl⟩

theorem t_K_righted_6 {σ : zSt} (hl : Lay σ) {n a y : Nat} (H : zHd σ n a y) {i q kd pa num : Nat} (hi : i < y) (hq : zR σ 24 i = some q) (hw : zWo σ q kd pa num) {m : Int32} (hm : m < nI 2 ∨ nI 8 < m) : Dt mX11_righted [.ref 0, .int (nI i), .int m] σ (some (.int ((-nI 6) - nI 1000))) (zuX σ 43 (upd (zX σ 43) 6 (zX σ 43 6 + nI 1))) := by
  obtain ⟨-, hn, hn8, ha, ha4, hy, hy8⟩ := id H
  refine Dt.of (by decide) (Nat.le_of_ble_eq_true rfl) fun κ B Rt => ?_
  show Z κ 0 0 σ 0 [(0, .ref 0), (1, .int (nI i)), (2, .int m)] []
  refine Z.aload_n B dX11_righted_0 (v := .ref 0) rfl rfl ?_
  refine Z.getR (σ := σ) B fX11_28_11 dX11_righted_1 (hl.n (k := 0) (by decide)) (hl.k (k := 0) (by decide)) (by decide) (j := 20) (hl.r (k := 0) (f := 2) (by decide) (by decide)) ?_
  refine Z.iload_n B dX11_righted_4 (x := nI i) rfl ?_
  refine Z.callVI (σ := σ) B (M' := mX1_wayAt) (as := [.int (nI i)]) (st := []) (v := .ref q) dX11_righted_5 wX1_wayAt iX1_wayAt sX1_wayAt kX11_102 (hl.n (k := 20) (by decide)) (hl.k (k := 20) (by decide)) (by decide) rfl rfl (t_X1_wayAt_in (σ := σ) H hi hq) rfl rfl (by decide) (by decide) (Nat.le_of_ble_eq_true rfl) (by decide) (by decide) ?_
  refine Z.astore_n B dX11_righted_8 (by decide) rfl (L' := [(0, .ref 0), (1, .int (nI i)), (2, .int m), (3, .ref q)]) rfl ?_
  refine Z.aload_n B dX11_righted_9 (v := .ref q) rfl rfl ?_
  refine Z.ifnonnull_r B dX11_righted_10 (tgt := 19) rfl ?_
  refine Z.iload_n B dX11_righted_19 (x := m) rfl ?_
  refine Z.iconst B dX11_righted_20 (v := nI 2) rfl ?_
  refine Z.icmp_lt B dX11_righted_21 (tgt := 30) rfl (fun h21 => ?_) (fun h21 => ?_)
  · skip
    refine Z.aload_n B dX11_righted_30 (v := .ref 0) rfl rfl ?_
    refine Z.bipush B dX11_righted_31 (v := nI 6) rfl ?_
    refine Z.callVI (σ := σ) B (M' := mX11_refuseFar) (as := [.int (nI 6)]) (st := []) (v := .int ((-nI 6) - nI 1000)) dX11_righted_33 wX11_refuseFar iX11_refuseFar sX11_refuseFar kX11_221 (hl.n (k := 0) (by decide)) (hl.k (k := 0) (by decide)) (by decide) rfl rfl (t_X11_refuseFar (σ := σ) hl (b := 6) (by decide)) rfl rfl (by decide) (by decide) (Nat.le_of_ble_eq_true rfl) (by decide) (by decide) ?_
    refine Z.eqσ (τ := (zuX σ 43 (upd (zX σ 43) 6 (zX σ 43 6 + nI 1)))) rfl ?_
    refine Z.goto B dX11_righted_36 (tgt := 48) rfl ?_
    refine Z.iret B Rt dX11_righted_48 (ty := .int) rfl rfl (by decide) (by decide) ?_
    exact ⟨rfl, rfl⟩
  · skip
    refine Z.iload_n B dX11_righted_24 (x := m) rfl ?_
    refine Z.bipush B dX11_righted_25 (v := nI 8) rfl ?_
    refine Z.icmp_le B dX11_righted_27 (tgt := 39) rfl (fun h27 => (hm.elim (fun h => absurd h h21) (fun h => by exfalso; rw [zle_iff] at h27; rw [zlt_iff] at h; omega))) (fun h27 => ?_)
    refine Z.aload_n B dX11_righted_30 (v := .ref 0) rfl rfl ?_
    refine Z.bipush B dX11_righted_31 (v := nI 6) rfl ?_
    refine Z.callVI (σ := σ) B (M' := mX11_refuseFar) (as := [.int (nI 6)]) (st := []) (v := .int ((-nI 6) - nI 1000)) dX11_righted_33 wX11_refuseFar iX11_refuseFar sX11_refuseFar kX11_221 (hl.n (k := 0) (by decide)) (hl.k (k := 0) (by decide)) (by decide) rfl rfl (t_X11_refuseFar (σ := σ) hl (b := 6) (by decide)) rfl rfl (by decide) (by decide) (Nat.le_of_ble_eq_true rfl) (by decide) (by decide) ?_
    refine Z.eqσ (τ := (zuX σ 43 (upd (zX σ 43) 6 (zX σ 43 6 + nI 1)))) rfl ?_
    refine Z.goto B dX11_righted_36 (tgt := 48) rfl ?_
    refine Z.iret B Rt dX11_righted_48 (ty := .int) rfl rfl (by decide) (by decide) ?_
    exact ⟨rfl, rfl⟩

theorem t_K_righted_0 {σ : zSt} (hl : Lay σ) {n a y : Nat} (H : zHd σ n a y) {od : Nat → Nat} (ho : zOd σ a od) {i q kd pa num : Nat} (hi : i < y) (hq : zR σ 24 i = some q) (hw : zWo σ q kd pa num) {m : Nat} (hm2 : 2 ≤ m) (hm : m ≤ 8) : Dt mX11_righted [.ref 0, .int (nI i), .int (nI m)] σ (some (.int (tO (rgF (zX σ 21) (tf (zX σ 21) (zSc σ) (zLk σ) (zDr σ) true kd pa od a) n m) n))) (zuX (zuX σ 25 (fi n (tf (zX σ 21) (zSc σ) (zLk σ) (zDr σ) true kd pa od a) (zX σ 25))) 26 (fi n (fun c => cn (zX σ 21) c 5) (zX σ 26))) := by
  obtain ⟨-, hn, hn8, ha, ha4, hy, hy8⟩ := id H
  refine Dt.of (by decide) (Nat.le_of_ble_eq_true rfl) fun κ B Rt => ?_
  show Z κ 0 0 σ 0 [(0, .ref 0), (1, .int (nI i)), (2, .int (nI m))] []
  refine Z.aload_n B dX11_righted_0 (v := .ref 0) rfl rfl ?_
  refine Z.getR (σ := σ) B fX11_28_11 dX11_righted_1 (hl.n (k := 0) (by decide)) (hl.k (k := 0) (by decide)) (by decide) (j := 20) (hl.r (k := 0) (f := 2) (by decide) (by decide)) ?_
  refine Z.iload_n B dX11_righted_4 (x := nI i) rfl ?_
  refine Z.callVI (σ := σ) B (M' := mX1_wayAt) (as := [.int (nI i)]) (st := []) (v := .ref q) dX11_righted_5 wX1_wayAt iX1_wayAt sX1_wayAt kX11_102 (hl.n (k := 20) (by decide)) (hl.k (k := 20) (by decide)) (by decide) rfl rfl (t_X1_wayAt_in (σ := σ) H hi hq) rfl rfl (by decide) (by decide) (Nat.le_of_ble_eq_true rfl) (by decide) (by decide) ?_
  refine Z.astore_n B dX11_righted_8 (by decide) rfl (L' := [(0, .ref 0), (1, .int (nI i)), (2, .int (nI m)), (3, .ref q)]) rfl ?_
  refine Z.aload_n B dX11_righted_9 (v := .ref q) rfl rfl ?_
  refine Z.ifnonnull_r B dX11_righted_10 (tgt := 19) rfl ?_
  refine Z.iload_n B dX11_righted_19 (x := nI m) rfl ?_
  refine Z.iconst B dX11_righted_20 (v := nI 2) rfl ?_
  refine Z.icmp_ltN B dX11_righted_21 (tgt := 30) rfl (by omega) (by omega) (fun h21 => by exfalso; first | omega | contradiction | simp_all) (fun h21 => ?_)
  refine Z.iload_n B dX11_righted_24 (x := nI m) rfl ?_
  refine Z.bipush B dX11_righted_25 (v := nI 8) rfl ?_
  refine Z.icmp_leN B dX11_righted_27 (tgt := 39) rfl (by omega) (by omega) (fun h27 => ?_) (fun h27 => by exfalso; first | omega | contradiction | simp_all)
  refine Z.aload_n B dX11_righted_39 (v := .ref 0) rfl rfl ?_
  refine Z.getR (σ := σ) B fX11_28_11 dX11_righted_40 (hl.n (k := 0) (by decide)) (hl.k (k := 0) (by decide)) (by decide) (j := 20) (hl.r (k := 0) (f := 2) (by decide) (by decide)) ?_
  refine Z.aload_n B dX11_righted_43 (v := .ref q) rfl rfl ?_
  refine Z.iload_n B dX11_righted_44 (x := nI m) rfl ?_
  refine Z.callVI (σ := σ) B (M' := mX1_rightedBy) (as := [.ref q, .int (nI m)]) (st := []) (v := .int (tO (rgF (zX σ 21) (tf (zX σ 21) (zSc σ) (zLk σ) (zDr σ) true kd pa od a) n m) n)) dX11_righted_45 wX1_rightedBy iX1_rightedBy sX1_rightedBy kX11_227 (hl.n (k := 20) (by decide)) (hl.k (k := 20) (by decide)) (by decide) rfl rfl (t_X1_rightedBy (σ := σ) H ho hw hm) rfl rfl (by decide) (by decide) (Nat.le_of_ble_eq_true rfl) (by decide) (by decide) ?_
  refine Z.eqσ (τ := (zuX (zuX σ 25 (fi n (tf (zX σ 21) (zSc σ) (zLk σ) (zDr σ) true kd pa od a) (zX σ 25))) 26 (fi n (fun c => cn (zX σ 21) c 5) (zX σ 26)))) rfl ?_
  refine Z.iret B Rt dX11_righted_48 (ty := .int) rfl rfl (by decide) (by decide) ?_
  exact ⟨rfl, rfl⟩
