/-! shelves, the trace, Arrays.fill, small methods of the class -/
theorem zsubI {a b : Nat} (ha : a < 2 ^ 31) (hb : b < 2 ^ 31) : (nI a - nI b).toInt = (a : Int) - b := by
  rw [Int32.toInt_sub, nI_toInt ha, nI_toInt hb, Int.bmod_eq_of_le (by omega) (by omega)]
theorem zcatv {a b : Nat} (h : nI a = nI b) (ha : a < 2 ^ 31) (hb : b < 2 ^ 31) : a = b := (nI_eq ha hb).mp h
theorem zm1 {a : Nat} (ha : a < 2 ^ 31) : ¬ nI a = (-1) := by
  intro h
  have := congrArg Int32.toInt h
  rw [nI_toInt ha] at this
  have e : (-1 : Int32).toInt = -1 := by decide
  omega
theorem zm1' {a : Nat} (ha : a < 2 ^ 31) : ¬ (-1 : Int32) = nI a := fun h => zm1 ha h.symm
def zfl (n : Nat) (v : Int64) (f : Nat → Int64) : Nat → Int64 := fun j => if j < n then v else f j
theorem zfl_0 {v : Int64} {f : Nat → Int64} : zfl 0 v f = f := by funext j; simp [zfl]
theorem zfl_s {n : Nat} {v : Int64} {f : Nat → Int64} : vp_updL (zfl n v f) n v = zfl (n + 1) v f := by
  funext j
  simp only [vp_updL, zfl]
  by_cases h : j = n
  · subst h; simp
  · rw [if_neg h]
    by_cases h2 : j < n
    · rw [if_pos h2, if_pos (by omega)]
    · rw [if_neg h2, if_neg (by omega)]
theorem zuY_id {σ : zSt} {k : Nat} : zuY σ k (zY σ k) = σ := by
  unfold zuY
  have : zfu σ.2.2.2.2.1 k (zY σ k) = σ.2.2.2.2.1 := by
    funext j
    by_cases h : j = k
    · subst h; exact zfu_self
    · exact zfu_ne h
  rw [this]
theorem zuX_id {σ : zSt} {k : Nat} : zuX σ k (zX σ k) = σ := by
  unfold zuX
  have : zfu σ.2.2.2.1 k (zX σ k) = σ.2.2.2.1 := by
    funext j
    by_cases h : j = k
    · subst h; exact zfu_self
    · exact zfu_ne h
  rw [this]
theorem zmax0 {m : Nat} (h31 : m < 2 ^ 31) : (if nI 0 < nI m then nI m else nI 0) = nI m := by
  rcases Nat.eq_zero_or_pos m with h | h
  · subst h; rfl
  · rw [if_pos (nI_lt h h31)]
def zlow (o : Nat) (v : Int64) : Int64 := if o = 0 then v.toInt32.toInt8.toInt32.toInt64 else if o = 1 then v.toInt32.toInt16.toInt32.toInt64 else if o = 2 then v.toInt32.toInt64 else v

theorem t_fill {σ : zSt} {k : Nat} (hk : k < zN σ) (hKd : zK σ k = 14) (hn : zL σ k = 160) {v : Int64} : Dt mJ7_fill_d0a16 [.ref k, .long v] σ (none) (zuY σ k (zfl 160 v (zY σ k))) := by
  refine Dt.of (by decide) (Nat.le_of_ble_eq_true rfl) fun κ B Rt => ?_
  show Z κ 0 0 σ 0 [(0, .ref k), (1, .long v)] []
  refine Z.iconst B dJ7_fill_d0a16_0 (v := nI 0) rfl ?_
  refine Z.istore_n B dJ7_fill_d0a16_1 (by decide) (L' := [(0, .ref k), (1, .long v), (3, .int (nI 0))]) rfl ?_
  refine Z.aload_n B dJ7_fill_d0a16_2 (v := .ref k) rfl rfl ?_
  refine Z.alen (σ := σ) B dJ7_fill_d0a16_3 hk (t := 1) hKd (by decide) (n := 160) hn (v := nI 160) rfl ?_
  refine Z.istore B dJ7_fill_d0a16_4 (by decide) (L' := [(0, .ref k), (1, .long v), (3, .int (nI 0)), (4, .int (nI 160))]) rfl ?_
  have hloop6 : ∀ i : Nat, i ≤ 160 → Z κ 0 0 (zuY σ k (zfl i v (zY σ k))) 6 [(0, .ref k), (1, .long v), (3, .int (nI i)), (4, .int (nI 160))] [] := by
    refine z_loop (fun i => 160 - i) (fun i ih hi => ?_)
    refine Z.iload_n B dJ7_fill_d0a16_6 (x := nI i) rfl ?_
    refine Z.iload B dJ7_fill_d0a16_7 (x := nI 160) rfl ?_
    refine Z.icmp_geN B dJ7_fill_d0a16_9 (tgt := 22) rfl (by omega) (by omega) (fun h9 => ?_) (fun h9 => ?_)
    · skip
      obtain rfl : i = 160 := by omega
      refine Z.vret B Rt dJ7_fill_d0a16_22 rfl (by decide) (by decide) ?_
      exact ⟨rfl, rfl⟩
    · skip
      refine Z.aload_n B dJ7_fill_d0a16_12 (v := .ref k) rfl rfl ?_
      refine Z.iload_n B dJ7_fill_d0a16_13 (x := nI i) rfl ?_
      refine Z.lload_n B dJ7_fill_d0a16_14 (x := v) rfl ?_
      refine Z.last (σ := (zuY σ k (zfl i v (zY σ k)))) B dJ7_fill_d0a16_15 (n := 160) hk hKd hn (by decide) (j := i) rfl (by omega) (τ := (zuY σ k (zfl (i + 1) v (zY σ k)))) (by rw [zY_self, zuY_uY, zfl_s]) ?_
      refine Z.iincN B dJ7_fill_d0a16_16 (by decide) (a := i) rfl (L' := [(0, .ref k), (1, .long v), (3, .int (nI (i + 1))), (4, .int (nI 160))]) rfl ?_
      refine Z.goto B dJ7_fill_d0a16_19 (tgt := 6) rfl ?_
      exact ih (i + 1) (by omega) (by omega)
  have h0 := hloop6 0 (Nat.zero_le _)
  rw [zfl_0, zuY_id] at h0
  exact h0

theorem t_X6_holdRow {σ : zSt} {q : Nat} (hq : zSh σ q) {o m : Nat} (ho : o ≤ 3) (hm : m ≤ 160) : Dt mX6_holdRow [.ref q, .int (nI o), .int (nI m)] σ (none) (zuY (zuX σ q (upd (upd (upd (zX σ q) 3 (-1)) 1 (nI o)) 2 (nI m))) (q + 1) (zfl 160 0 (zY σ (q + 1)))) := by
  refine Dt.of (by decide) (Nat.le_of_ble_eq_true rfl) fun κ B Rt => ?_
  show Z κ 0 0 σ 0 [(0, .ref q), (1, .int (nI o)), (2, .int (nI m))] []
  refine Z.aload_n B dX6_holdRow_0 (v := .ref q) rfl rfl ?_
  refine Z.iconst B dX6_holdRow_1 (v := (-1)) rfl ?_
  refine Z.putI (σ := σ) B fX6_22_6 (ty := .int) ⟨_, _, _, rfl, rfl, by decide +kernel⟩ dX6_holdRow_2 (Nat.lt_of_succ_lt hq.1) hq.2.1 (by decide) rfl rfl (τ := (zuX σ q (upd (zX σ q) 3 (-1)))) rfl ?_
  refine Z.aload_n B dX6_holdRow_5 (v := .ref q) rfl rfl ?_
  refine Z.iload_n B dX6_holdRow_6 (x := nI o) rfl ?_
  refine Z.putI (σ := (zuX σ q (upd (zX σ q) 3 (-1)))) B fX6_15_6 (ty := .int) ⟨_, _, _, rfl, rfl, by decide +kernel⟩ dX6_holdRow_7 (Nat.lt_of_succ_lt hq.1) hq.2.1 (by decide) rfl rfl (τ := (zuX σ q (upd (upd (zX σ q) 3 (-1)) 1 (nI o)))) (by simp only [zX_self, zuX_uX]) ?_
  refine Z.aload_n B dX6_holdRow_10 (v := .ref q) rfl rfl ?_
  refine Z.iconst B dX6_holdRow_11 (v := nI 0) rfl ?_
  refine Z.iload_n B dX6_holdRow_12 (x := nI m) rfl ?_
  refine Z.aload_n B dX6_holdRow_13 (v := .ref q) rfl rfl ?_
  refine Z.getR (σ := (zuX σ q (upd (upd (zX σ q) 3 (-1)) 1 (nI o)))) B fX6_9_6 dX6_holdRow_14 (Nat.lt_of_succ_lt hq.1) hq.2.1 (by decide) (j := q + 1) hq.2.2.2.2 ?_
  refine Z.alen (σ := (zuX σ q (upd (upd (zX σ q) 3 (-1)) 1 (nI o)))) B dX6_holdRow_17 hq.1 (t := 1) hq.2.2.1 (by decide) (n := 160) hq.2.2.2.1 (v := nI 160) rfl ?_
  refine Z.mmin B dX6_holdRow_18 kX6_25 (by decide) (Nat.le_of_ble_eq_true rfl) (by decide) (by decide) (v := nI m) (by rw [if_neg (nI_nlt (by omega) (by omega))]) ?_
  refine Z.mmax B dX6_holdRow_21 kX6_31 (by decide) (Nat.le_of_ble_eq_true rfl) (by decide) (by decide) (v := nI m) (zmax0 (by omega)) ?_
  refine Z.putI (σ := (zuX σ q (upd (upd (zX σ q) 3 (-1)) 1 (nI o)))) B fX6_19_6 (ty := .int) ⟨_, _, _, rfl, rfl, by decide +kernel⟩ dX6_holdRow_24 (Nat.lt_of_succ_lt hq.1) hq.2.1 (by decide) rfl rfl (τ := (zuX σ q (upd (upd (upd (zX σ q) 3 (-1)) 1 (nI o)) 2 (nI m)))) (by simp only [zX_self, zuX_uX]) ?_
  refine Z.aload_n B dX6_holdRow_27 (v := .ref q) rfl rfl ?_
  refine Z.getR (σ := (zuX σ q (upd (upd (upd (zX σ q) 3 (-1)) 1 (nI o)) 2 (nI m)))) B fX6_9_6 dX6_holdRow_28 (Nat.lt_of_succ_lt hq.1) hq.2.1 (by decide) (j := q + 1) hq.2.2.2.2 ?_
  refine Z.lconst B dX6_holdRow_31 (v := (0 : Int64)) rfl ?_
  refine Z.callSN (σ := (zuX σ q (upd (upd (upd (zX σ q) 3 (-1)) 1 (nI o)) 2 (nI m)))) B (M' := mJ7_fill_d0a16) (as := [.ref (q + 1), .long (0 : Int64)]) (st := []) dX6_holdRow_32 wJ7_fill_d0a16 iJ7_fill_d0a16 kX6_34 (t_fill (σ := (zuX σ q (upd (upd (upd (zX σ q) 3 (-1)) 1 (nI o)) 2 (nI m)))) (k := q + 1) hq.1 hq.2.2.1 hq.2.2.2.1) rfl rfl (by decide) (by decide) (Nat.le_of_ble_eq_true rfl) (by decide) (by decide) ?_
  refine Z.eqσ (τ := (zuY (zuX σ q (upd (upd (upd (zX σ q) 3 (-1)) 1 (nI o)) 2 (nI m))) (q + 1) (zfl 160 0 (zY σ (q + 1))))) rfl ?_
  refine Z.vret B Rt dX6_holdRow_35 rfl (by decide) (by decide) ?_
  exact ⟨rfl, rfl⟩

theorem t_X6_holdWay {σ : zSt} {q : Nat} (hq : zSh σ q) {v : Int32} : Dt mX6_holdWay [.ref q, .int v] σ (none) (zuX σ q (upd (upd (upd (zX σ q) 3 v) 1 (-1)) 2 (nI 0))) := by
  refine Dt.of (by decide) (Nat.le_of_ble_eq_true rfl) fun κ B Rt => ?_
  show Z κ 0 0 σ 0 [(0, .ref q), (1, .int v)] []
  refine Z.aload_n B dX6_holdWay_0 (v := .ref q) rfl rfl ?_
  refine Z.iload_n B dX6_holdWay_1 (x := v) rfl ?_
  refine Z.putI (σ := σ) B fX6_22_6 (ty := .int) ⟨_, _, _, rfl, rfl, by decide +kernel⟩ dX6_holdWay_2 (Nat.lt_of_succ_lt hq.1) hq.2.1 (by decide) rfl rfl (τ := (zuX σ q (upd (zX σ q) 3 v))) rfl ?_
  refine Z.aload_n B dX6_holdWay_5 (v := .ref q) rfl rfl ?_
  refine Z.iconst B dX6_holdWay_6 (v := (-1)) rfl ?_
  refine Z.putI (σ := (zuX σ q (upd (zX σ q) 3 v))) B fX6_15_6 (ty := .int) ⟨_, _, _, rfl, rfl, by decide +kernel⟩ dX6_holdWay_7 (Nat.lt_of_succ_lt hq.1) hq.2.1 (by decide) rfl rfl (τ := (zuX σ q (upd (upd (zX σ q) 3 v) 1 (-1)))) (by simp only [zX_self, zuX_uX]) ?_
  refine Z.aload_n B dX6_holdWay_10 (v := .ref q) rfl rfl ?_
  refine Z.iconst B dX6_holdWay_11 (v := nI 0) rfl ?_
  refine Z.putI (σ := (zuX σ q (upd (upd (zX σ q) 3 v) 1 (-1)))) B fX6_19_6 (ty := .int) ⟨_, _, _, rfl, rfl, by decide +kernel⟩ dX6_holdWay_12 (Nat.lt_of_succ_lt hq.1) hq.2.1 (by decide) rfl rfl (τ := (zuX σ q (upd (upd (upd (zX σ q) 3 v) 1 (-1)) 2 (nI 0)))) (by simp only [zX_self, zuX_uX]) ?_
  refine Z.vret B Rt dX6_holdWay_15 rfl (by decide) (by decide) ?_
  exact ⟨rfl, rfl⟩

theorem t_X6_holdsRow_1 {σ : zSt} {q : Nat} (hq : zSh σ q) {o : Nat} (ho : o < 2 ^ 31) (h : zX σ q 1 = nI o) : Dt mX6_holdsRow [.ref q] σ (some (.int (nI 1))) σ := by
  refine Dt.of (by decide) (Nat.le_of_ble_eq_true rfl) fun κ B Rt => ?_
  show Z κ 0 0 σ 0 [(0, .ref q)] []
  refine Z.aload_n B dX6_holdsRow_0 (v := .ref q) rfl rfl ?_
  refine Z.getI (σ := σ) B fX6_15_6 dX6_holdsRow_1 (Nat.lt_of_succ_lt hq.1) hq.2.1 (by decide) (v := nI o) h ?_
  refine Z.iconst B dX6_holdsRow_4 (v := (-1)) rfl ?_
  refine Z.icmp_eq B dX6_holdsRow_5 (tgt := 12) rfl (fun h5 => absurd h5 (zm1 ho)) (fun h5 => ?_)
  refine Z.iconst B dX6_holdsRow_8 (v := nI 1) rfl ?_
  refine Z.goto B dX6_holdsRow_9 (tgt := 13) rfl ?_
  refine Z.iret B Rt dX6_holdsRow_13 (ty := .boolean) rfl rfl (by decide) (by decide) ?_
  exact ⟨rfl, rfl⟩

theorem t_X6_holdsRow_0 {σ : zSt} {q : Nat} (hq : zSh σ q) (h : zX σ q 1 = (-1)) : Dt mX6_holdsRow [.ref q] σ (some (.int (nI 0))) σ := by
  refine Dt.of (by decide) (Nat.le_of_ble_eq_true rfl) fun κ B Rt => ?_
  show Z κ 0 0 σ 0 [(0, .ref q)] []
  refine Z.aload_n B dX6_holdsRow_0 (v := .ref q) rfl rfl ?_
  refine Z.getI (σ := σ) B fX6_15_6 dX6_holdsRow_1 (Nat.lt_of_succ_lt hq.1) hq.2.1 (by decide) (v := (-1)) h ?_
  refine Z.iconst B dX6_holdsRow_4 (v := (-1)) rfl ?_
  refine Z.icmp_eq B dX6_holdsRow_5 (tgt := 12) rfl (fun h5 => ?_) (fun h5 => absurd rfl h5)
  refine Z.iconst B dX6_holdsRow_12 (v := nI 0) rfl ?_
  refine Z.iret B Rt dX6_holdsRow_13 (ty := .boolean) rfl rfl (by decide) (by decide) ?_
  exact ⟨rfl, rfl⟩

theorem t_X6_holdsWay_1 {σ : zSt} {q : Nat} (hq : zSh σ q) {o : Nat} (ho : o < 2 ^ 31) (h : zX σ q 3 = nI o) : Dt mX6_holdsWay [.ref q] σ (some (.int (nI 1))) σ := by
  refine Dt.of (by decide) (Nat.le_of_ble_eq_true rfl) fun κ B Rt => ?_
  show Z κ 0 0 σ 0 [(0, .ref q)] []
  refine Z.aload_n B dX6_holdsWay_0 (v := .ref q) rfl rfl ?_
  refine Z.getI (σ := σ) B fX6_22_6 dX6_holdsWay_1 (Nat.lt_of_succ_lt hq.1) hq.2.1 (by decide) (v := nI o) h ?_
  refine Z.iconst B dX6_holdsWay_4 (v := (-1)) rfl ?_
  refine Z.icmp_eq B dX6_holdsWay_5 (tgt := 12) rfl (fun h5 => absurd h5 (zm1 ho)) (fun h5 => ?_)
  refine Z.iconst B dX6_holdsWay_8 (v := nI 1) rfl ?_
  refine Z.goto B dX6_holdsWay_9 (tgt := 13) rfl ?_
  refine Z.iret B Rt dX6_holdsWay_13 (ty := .boolean) rfl rfl (by decide) (by decide) ?_
  exact ⟨rfl, rfl⟩

theorem t_X6_holdsWay_0 {σ : zSt} {q : Nat} (hq : zSh σ q) (h : zX σ q 3 = (-1)) : Dt mX6_holdsWay [.ref q] σ (some (.int (nI 0))) σ := by
  refine Dt.of (by decide) (Nat.le_of_ble_eq_true rfl) fun κ B Rt => ?_
  show Z κ 0 0 σ 0 [(0, .ref q)] []
  refine Z.aload_n B dX6_holdsWay_0 (v := .ref q) rfl rfl ?_
  refine Z.getI (σ := σ) B fX6_22_6 dX6_holdsWay_1 (Nat.lt_of_succ_lt hq.1) hq.2.1 (by decide) (v := (-1)) h ?_
  refine Z.iconst B dX6_holdsWay_4 (v := (-1)) rfl ?_
  refine Z.icmp_eq B dX6_holdsWay_5 (tgt := 12) rfl (fun h5 => ?_) (fun h5 => absurd rfl h5)
  refine Z.iconst B dX6_holdsWay_12 (v := nI 0) rfl ?_
  refine Z.iret B Rt dX6_holdsWay_13 (ty := .boolean) rfl rfl (by decide) (by decide) ?_
  exact ⟨rfl, rfl⟩

theorem t_X6_sortHeld {σ : zSt} {q : Nat} (hq : zSh σ q) : Dt mX6_sortHeld [.ref q] σ (some (.int (zX σ q 1))) σ := by
  refine Dt.of (by decide) (Nat.le_of_ble_eq_true rfl) fun κ B Rt => ?_
  show Z κ 0 0 σ 0 [(0, .ref q)] []
  refine Z.aload_n B dX6_sortHeld_0 (v := .ref q) rfl rfl ?_
  refine Z.getI (σ := σ) B fX6_15_6 dX6_sortHeld_1 (Nat.lt_of_succ_lt hq.1) hq.2.1 (by decide) (v := (zX σ q 1)) rfl ?_
  refine Z.iret B Rt dX6_sortHeld_4 (ty := .int) rfl rfl (by decide) (by decide) ?_
  exact ⟨rfl, rfl⟩

theorem t_X6_size {σ : zSt} {q : Nat} (hq : zSh σ q) : Dt mX6_size [.ref q] σ (some (.int (zX σ q 2))) σ := by
  refine Dt.of (by decide) (Nat.le_of_ble_eq_true rfl) fun κ B Rt => ?_
  show Z κ 0 0 σ 0 [(0, .ref q)] []
  refine Z.aload_n B dX6_size_0 (v := .ref q) rfl rfl ?_
  refine Z.getI (σ := σ) B fX6_19_6 dX6_size_1 (Nat.lt_of_succ_lt hq.1) hq.2.1 (by decide) (v := (zX σ q 2)) rfl ?_
  refine Z.iret B Rt dX6_size_4 (ty := .int) rfl rfl (by decide) (by decide) ?_
  exact ⟨rfl, rfl⟩

theorem t_X6_wayHeld {σ : zSt} {q : Nat} (hq : zSh σ q) : Dt mX6_wayHeld [.ref q] σ (some (.int (zX σ q 3))) σ := by
  refine Dt.of (by decide) (Nat.le_of_ble_eq_true rfl) fun κ B Rt => ?_
  show Z κ 0 0 σ 0 [(0, .ref q)] []
  refine Z.aload_n B dX6_wayHeld_0 (v := .ref q) rfl rfl ?_
  refine Z.getI (σ := σ) B fX6_22_6 dX6_wayHeld_1 (Nat.lt_of_succ_lt hq.1) hq.2.1 (by decide) (v := (zX σ q 3)) rfl ?_
  refine Z.iret B Rt dX6_wayHeld_4 (ty := .int) rfl rfl (by decide) (by decide) ?_
  exact ⟨rfl, rfl⟩

theorem t_X6_hasRun_in {σ : zSt} {q : Nat} (hq : zSh σ q) {m n : Nat} (hm : zX σ q 2 = nI m) (hm160 : m ≤ 160) {i : Nat} (hi : i + n ≤ m) : Dt mX6_hasRun [.ref q, .int (nI i), .int (nI n)] σ (some (.int (nI 1))) σ := by
  refine Dt.of (by decide) (Nat.le_of_ble_eq_true rfl) fun κ B Rt => ?_
  show Z κ 0 0 σ 0 [(0, .ref q), (1, .int (nI i)), (2, .int (nI n))] []
  refine Z.iload_n B dX6_hasRun_0 (x := nI i) rfl ?_
  refine Z.if_ltN B dX6_hasRun_1 (tgt := 22) rfl (by omega) ?_
  refine Z.iload_n B dX6_hasRun_4 (x := nI n) rfl ?_
  refine Z.if_ltN B dX6_hasRun_5 (tgt := 22) rfl (by omega) ?_
  refine Z.iload_n B dX6_hasRun_8 (x := nI i) rfl ?_
  refine Z.aload_n B dX6_hasRun_9 (v := .ref q) rfl rfl ?_
  refine Z.getI (σ := σ) B fX6_19_6 dX6_hasRun_10 (Nat.lt_of_succ_lt hq.1) hq.2.1 (by decide) (v := nI m) hm ?_
  refine Z.iload_n B dX6_hasRun_13 (x := nI n) rfl ?_
  refine Z.isubN B dX6_hasRun_14 (a := m) (b := n) (by omega) ?_
  refine Z.icmp_gtN B dX6_hasRun_15 (tgt := 22) rfl (by omega) (by omega) (fun h15 => by exfalso; first | omega | contradiction | simp_all) (fun h15 => ?_)
  refine Z.iconst B dX6_hasRun_18 (v := nI 1) rfl ?_
  refine Z.goto B dX6_hasRun_19 (tgt := 23) rfl ?_
  refine Z.iret B Rt dX6_hasRun_23 (ty := .boolean) rfl rfl (by decide) (by decide) ?_
  exact ⟨rfl, rfl⟩

theorem t_X6_hasRun_neg {σ : zSt} {q : Nat} (hq : zSh σ q) {i : Int32} {n : Nat} (hi : i < 0) : Dt mX6_hasRun [.ref q, .int i, .int (nI n)] σ (some (.int (nI 0))) σ := by
  refine Dt.of (by decide) (Nat.le_of_ble_eq_true rfl) fun κ B Rt => ?_
  show Z κ 0 0 σ 0 [(0, .ref q), (1, .int i), (2, .int (nI n))] []
  refine Z.iload_n B dX6_hasRun_0 (x := i) rfl ?_
  refine Z.if_lt B dX6_hasRun_1 (tgt := 22) rfl (fun h1 => ?_) (fun h1 => by exfalso; first | omega | contradiction | simp_all)
  refine Z.iconst B dX6_hasRun_22 (v := nI 0) rfl ?_
  refine Z.iret B Rt dX6_hasRun_23 (ty := .boolean) rfl rfl (by decide) (by decide) ?_
  exact ⟨rfl, rfl⟩

theorem t_X6_hasRun_far {σ : zSt} {q : Nat} (hq : zSh σ q) {m n : Nat} (hm : zX σ q 2 = nI m) (hm160 : m ≤ 160) {i : Nat} (hi : m < i + n) (hi3 : i < 2 ^ 31) (hn3 : n < 2 ^ 31) : Dt mX6_hasRun [.ref q, .int (nI i), .int (nI n)] σ (some (.int (nI 0))) σ := by
  refine Dt.of (by decide) (Nat.le_of_ble_eq_true rfl) fun κ B Rt => ?_
  show Z κ 0 0 σ 0 [(0, .ref q), (1, .int (nI i)), (2, .int (nI n))] []
  refine Z.iload_n B dX6_hasRun_0 (x := nI i) rfl ?_
  refine Z.if_ltN B dX6_hasRun_1 (tgt := 22) rfl (by omega) ?_
  refine Z.iload_n B dX6_hasRun_4 (x := nI n) rfl ?_
  refine Z.if_ltN B dX6_hasRun_5 (tgt := 22) rfl (by omega) ?_
  refine Z.iload_n B dX6_hasRun_8 (x := nI i) rfl ?_
  refine Z.aload_n B dX6_hasRun_9 (v := .ref q) rfl rfl ?_
  refine Z.getI (σ := σ) B fX6_19_6 dX6_hasRun_10 (Nat.lt_of_succ_lt hq.1) hq.2.1 (by decide) (v := nI m) hm ?_
  refine Z.iload_n B dX6_hasRun_13 (x := nI n) rfl ?_
  refine Z.isub B dX6_hasRun_14 ?_
  refine Z.icmp_gt B dX6_hasRun_15 (tgt := 22) rfl (fun h15 => ?_) (fun h15 => by exfalso; rw [zlt_iff, zsubI (by omega) hn3, nI_toInt hi3] at h15; omega)
  refine Z.iconst B dX6_hasRun_22 (v := nI 0) rfl ?_
  refine Z.iret B Rt dX6_hasRun_23 (ty := .boolean) rfl rfl (by decide) (by decide) ?_
  exact ⟨rfl, rfl⟩

theorem t_X6_longAt_in {σ : zSt} {q : Nat} (hq : zSh σ q) {m : Nat} (hm : zX σ q 2 = nI m) (hm160 : m ≤ 160) {i : Nat} (hi : i < m) : Dt mX6_longAt [.ref q, .int (nI i)] σ (some (.long (zY σ (q + 1) i))) σ := by
  refine Dt.of (by decide) (Nat.le_of_ble_eq_true rfl) fun κ B Rt => ?_
  show Z κ 0 0 σ 0 [(0, .ref q), (1, .int (nI i))] []
  refine Z.aload_n B dX6_longAt_0 (v := .ref q) rfl rfl ?_
  refine Z.iload_n B dX6_longAt_1 (x := nI i) rfl ?_
  refine Z.iconst B dX6_longAt_2 (v := nI 1) rfl ?_
  refine Z.callVI (σ := σ) B (M' := mX6_hasRun) (as := [.int (nI i), .int (nI 1)]) (st := []) (v := .int (nI 1)) dX6_longAt_3 wX6_hasRun iX6_hasRun sX6_hasRun kX6_44 (Nat.lt_of_succ_lt hq.1) hq.2.1 (by decide) rfl rfl (t_X6_hasRun_in (σ := σ) hq hm hm160 (n := 1) (i := i) (by omega)) rfl rfl (by decide) (by decide) (Nat.le_of_ble_eq_true rfl) (by decide) (by decide) ?_
  refine Z.if_eqN B dX6_longAt_6 (tgt := 18) rfl (by omega) (fun h6 => by exfalso; first | omega | contradiction | simp_all) (fun h6 => ?_)
  refine Z.aload_n B dX6_longAt_9 (v := .ref q) rfl rfl ?_
  refine Z.getR (σ := σ) B fX6_9_6 dX6_longAt_10 (Nat.lt_of_succ_lt hq.1) hq.2.1 (by decide) (j := q + 1) hq.2.2.2.2 ?_
  refine Z.iload_n B dX6_longAt_13 (x := nI i) rfl ?_
  refine Z.lald (σ := σ) B dX6_longAt_14 (n := 160) hq.1 hq.2.2.1 hq.2.2.2.1 (by decide) (j := i) rfl (by omega) (v := (zY σ (q + 1) i)) rfl ?_
  refine Z.goto B dX6_longAt_15 (tgt := 19) rfl ?_
  refine Z.lret B Rt dX6_longAt_19 rfl (by decide) (by decide) ?_
  exact ⟨rfl, rfl⟩

theorem t_X6_longAt_neg {σ : zSt} {q : Nat} (hq : zSh σ q) {i : Int32} (hi : i < 0) : Dt mX6_longAt [.ref q, .int i] σ (some (.long 0)) σ := by
  refine Dt.of (by decide) (Nat.le_of_ble_eq_true rfl) fun κ B Rt => ?_
  show Z κ 0 0 σ 0 [(0, .ref q), (1, .int i)] []
  refine Z.aload_n B dX6_longAt_0 (v := .ref q) rfl rfl ?_
  refine Z.iload_n B dX6_longAt_1 (x := i) rfl ?_
  refine Z.iconst B dX6_longAt_2 (v := nI 1) rfl ?_
  refine Z.callVI (σ := σ) B (M' := mX6_hasRun) (as := [.int i, .int (nI 1)]) (st := []) (v := .int (nI 0)) dX6_longAt_3 wX6_hasRun iX6_hasRun sX6_hasRun kX6_44 (Nat.lt_of_succ_lt hq.1) hq.2.1 (by decide) rfl rfl (t_X6_hasRun_neg (σ := σ) hq hi) rfl rfl (by decide) (by decide) (Nat.le_of_ble_eq_true rfl) (by decide) (by decide) ?_
  refine Z.if_eqN B dX6_longAt_6 (tgt := 18) rfl (by omega) (fun h6 => ?_) (fun h6 => by exfalso; first | omega | contradiction | simp_all)
  refine Z.lconst B dX6_longAt_18 (v := (0 : Int64)) rfl ?_
  refine Z.lret B Rt dX6_longAt_19 rfl (by decide) (by decide) ?_
  exact ⟨rfl, rfl⟩

theorem t_X6_longAt_far {σ : zSt} {q : Nat} (hq : zSh σ q) {m : Nat} (hm : zX σ q 2 = nI m) (hm160 : m ≤ 160) {i : Nat} (hi : m ≤ i) (hi3 : i < 2 ^ 31) : Dt mX6_longAt [.ref q, .int (nI i)] σ (some (.long 0)) σ := by
  refine Dt.of (by decide) (Nat.le_of_ble_eq_true rfl) fun κ B Rt => ?_
  show Z κ 0 0 σ 0 [(0, .ref q), (1, .int (nI i))] []
  refine Z.aload_n B dX6_longAt_0 (v := .ref q) rfl rfl ?_
  refine Z.iload_n B dX6_longAt_1 (x := nI i) rfl ?_
  refine Z.iconst B dX6_longAt_2 (v := nI 1) rfl ?_
  refine Z.callVI (σ := σ) B (M' := mX6_hasRun) (as := [.int (nI i), .int (nI 1)]) (st := []) (v := .int (nI 0)) dX6_longAt_3 wX6_hasRun iX6_hasRun sX6_hasRun kX6_44 (Nat.lt_of_succ_lt hq.1) hq.2.1 (by decide) rfl rfl (t_X6_hasRun_far (σ := σ) hq hm hm160 (n := 1) (i := i) (by omega) hi3 (by decide)) rfl rfl (by decide) (by decide) (Nat.le_of_ble_eq_true rfl) (by decide) (by decide) ?_
  refine Z.if_eqN B dX6_longAt_6 (tgt := 18) rfl (by omega) (fun h6 => ?_) (fun h6 => by exfalso; first | omega | contradiction | simp_all)
  refine Z.lconst B dX6_longAt_18 (v := (0 : Int64)) rfl ?_
  refine Z.lret B Rt dX6_longAt_19 rfl (by decide) (by decide) ?_
  exact ⟨rfl, rfl⟩

theorem t_X6_intAt_in {σ : zSt} {q : Nat} (hq : zSh σ q) {m : Nat} (hm : zX σ q 2 = nI m) (hm160 : m ≤ 160) {i : Nat} (hi : i < m) : Dt mX6_intAt [.ref q, .int (nI i)] σ (some (.int ((zY σ (q + 1) i).toInt32))) σ := by
  refine Dt.of (by decide) (Nat.le_of_ble_eq_true rfl) fun κ B Rt => ?_
  show Z κ 0 0 σ 0 [(0, .ref q), (1, .int (nI i))] []
  refine Z.aload_n B dX6_intAt_0 (v := .ref q) rfl rfl ?_
  refine Z.iload_n B dX6_intAt_1 (x := nI i) rfl ?_
  refine Z.callVI (σ := σ) B (M' := mX6_longAt) (as := [.int (nI i)]) (st := []) (v := .long (zY σ (q + 1) i)) dX6_intAt_2 wX6_longAt iX6_longAt sX6_longAt kX6_58 (Nat.lt_of_succ_lt hq.1) hq.2.1 (by decide) rfl rfl (t_X6_longAt_in (σ := σ) hq hm hm160 hi) rfl rfl (by decide) (by decide) (Nat.le_of_ble_eq_true rfl) (by decide) (by decide) ?_
  refine Z.l2i B dX6_intAt_5 ?_
  refine Z.iret B Rt dX6_intAt_6 (ty := .int) rfl rfl (by decide) (by decide) ?_
  exact ⟨rfl, rfl⟩

theorem t_X6_intAt_far {σ : zSt} {q : Nat} (hq : zSh σ q) {m : Nat} (hm : zX σ q 2 = nI m) (hm160 : m ≤ 160) {i : Nat} (hi : m ≤ i) (hi3 : i < 2 ^ 31) : Dt mX6_intAt [.ref q, .int (nI i)] σ (some (.int (nI 0))) σ := by
  refine Dt.of (by decide) (Nat.le_of_ble_eq_true rfl) fun κ B Rt => ?_
  show Z κ 0 0 σ 0 [(0, .ref q), (1, .int (nI i))] []
  refine Z.aload_n B dX6_intAt_0 (v := .ref q) rfl rfl ?_
  refine Z.iload_n B dX6_intAt_1 (x := nI i) rfl ?_
  refine Z.callVI (σ := σ) B (M' := mX6_longAt) (as := [.int (nI i)]) (st := []) (v := .long 0) dX6_intAt_2 wX6_longAt iX6_longAt sX6_longAt kX6_58 (Nat.lt_of_succ_lt hq.1) hq.2.1 (by decide) rfl rfl (t_X6_longAt_far (σ := σ) hq hm hm160 hi hi3) rfl rfl (by decide) (by decide) (Nat.le_of_ble_eq_true rfl) (by decide) (by decide) ?_
  refine Z.l2i B dX6_intAt_5 ?_
  refine Z.iret B Rt dX6_intAt_6 (ty := .int) rfl rfl (by decide) (by decide) ?_
  exact ⟨rfl, rfl⟩

theorem t_X6_lowestBits_0 {σ : zSt} {q : Nat} (hq : zSh σ q) (ho : zX σ q 1 = nI 0) {v : Int64} : Dt mX6_lowestBits [.ref q, .long v] σ (some (.long (zlow 0 v))) σ := by
  refine Dt.of (by decide) (Nat.le_of_ble_eq_true rfl) fun κ B Rt => ?_
  show Z κ 0 0 σ 0 [(0, .ref q), (1, .long v)] []
  refine Z.aload_n B dX6_lowestBits_0 (v := .ref q) rfl rfl ?_
  refine Z.getI (σ := σ) B fX6_15_6 dX6_lowestBits_1 (Nat.lt_of_succ_lt hq.1) hq.2.1 (by decide) (v := nI 0) ho ?_
  refine Z.tabIn B dX6_lowestBits_4 (by decide) (by decide) (off := 28) (by decide) (tgt := 32) rfl ?_
  refine Z.lload_n B dX6_lowestBits_32 (x := v) rfl ?_
  refine Z.l2i B dX6_lowestBits_33 ?_
  refine Z.i2b B dX6_lowestBits_34 ?_
  refine Z.i2l B dX6_lowestBits_35 ?_
  refine Z.lret B Rt dX6_lowestBits_36 rfl (by decide) (by decide) ?_
  exact ⟨rfl, rfl⟩

theorem t_X6_lowestBits_1 {σ : zSt} {q : Nat} (hq : zSh σ q) (ho : zX σ q 1 = nI 1) {v : Int64} : Dt mX6_lowestBits [.ref q, .long v] σ (some (.long (zlow 1 v))) σ := by
  refine Dt.of (by decide) (Nat.le_of_ble_eq_true rfl) fun κ B Rt => ?_
  show Z κ 0 0 σ 0 [(0, .ref q), (1, .long v)] []
  refine Z.aload_n B dX6_lowestBits_0 (v := .ref q) rfl rfl ?_
  refine Z.getI (σ := σ) B fX6_15_6 dX6_lowestBits_1 (Nat.lt_of_succ_lt hq.1) hq.2.1 (by decide) (v := nI 1) ho ?_
  refine Z.tabIn B dX6_lowestBits_4 (by decide) (by decide) (off := 33) (by decide) (tgt := 37) rfl ?_
  refine Z.lload_n B dX6_lowestBits_37 (x := v) rfl ?_
  refine Z.l2i B dX6_lowestBits_38 ?_
  refine Z.i2s B dX6_lowestBits_39 ?_
  refine Z.i2l B dX6_lowestBits_40 ?_
  refine Z.lret B Rt dX6_lowestBits_41 rfl (by decide) (by decide) ?_
  exact ⟨rfl, rfl⟩

theorem t_X6_lowestBits_2 {σ : zSt} {q : Nat} (hq : zSh σ q) (ho : zX σ q 1 = nI 2) {v : Int64} : Dt mX6_lowestBits [.ref q, .long v] σ (some (.long (zlow 2 v))) σ := by
  refine Dt.of (by decide) (Nat.le_of_ble_eq_true rfl) fun κ B Rt => ?_
  show Z κ 0 0 σ 0 [(0, .ref q), (1, .long v)] []
  refine Z.aload_n B dX6_lowestBits_0 (v := .ref q) rfl rfl ?_
  refine Z.getI (σ := σ) B fX6_15_6 dX6_lowestBits_1 (Nat.lt_of_succ_lt hq.1) hq.2.1 (by decide) (v := nI 2) ho ?_
  refine Z.tabIn B dX6_lowestBits_4 (by decide) (by decide) (off := 38) (by decide) (tgt := 42) rfl ?_
  refine Z.lload_n B dX6_lowestBits_42 (x := v) rfl ?_
  refine Z.l2i B dX6_lowestBits_43 ?_
  refine Z.i2l B dX6_lowestBits_44 ?_
  refine Z.lret B Rt dX6_lowestBits_45 rfl (by decide) (by decide) ?_
  exact ⟨rfl, rfl⟩

theorem t_X6_lowestBits_3 {σ : zSt} {q : Nat} (hq : zSh σ q) (ho : zX σ q 1 = nI 3) {v : Int64} : Dt mX6_lowestBits [.ref q, .long v] σ (some (.long (zlow 3 v))) σ := by
  refine Dt.of (by decide) (Nat.le_of_ble_eq_true rfl) fun κ B Rt => ?_
  show Z κ 0 0 σ 0 [(0, .ref q), (1, .long v)] []
  refine Z.aload_n B dX6_lowestBits_0 (v := .ref q) rfl rfl ?_
  refine Z.getI (σ := σ) B fX6_15_6 dX6_lowestBits_1 (Nat.lt_of_succ_lt hq.1) hq.2.1 (by decide) (v := nI 3) ho ?_
  refine Z.tabOut B dX6_lowestBits_4 (by decide) (tgt := 46) rfl ?_
  refine Z.lload_n B dX6_lowestBits_46 (x := v) rfl ?_
  refine Z.lret B Rt dX6_lowestBits_47 rfl (by decide) (by decide) ?_
  exact ⟨rfl, rfl⟩

theorem t_X6_lowestBits {σ : zSt} {q : Nat} (hq : zSh σ q) {o : Nat} (ho : zX σ q 1 = nI o) (ho3 : o ≤ 3) {v : Int64} : Dt mX6_lowestBits [.ref q, .long v] σ (some (.long (zlow o v))) σ := by
  have : o = 0 ∨ o = 1 ∨ o = 2 ∨ o = 3 := by omega
  rcases this with rfl | rfl | rfl | rfl
  · exact t_X6_lowestBits_0 hq ho
  · exact t_X6_lowestBits_1 hq ho
  · exact t_X6_lowestBits_2 hq ho
  · exact t_X6_lowestBits_3 hq ho

theorem t_X6_put {σ : zSt} {q : Nat} (hq : zSh σ q) {m o i : Nat} (hm : zX σ q 2 = nI m) (hm160 : m ≤ 160) (ho : zX σ q 1 = nI o) (ho3 : o ≤ 3) (hi : i < m) {v : Int64} : Dt mX6_put [.ref q, .int (nI i), .long v] σ (none) (zuY σ (q + 1) (vp_updL (zY σ (q + 1)) i (zlow o v))) := by
  refine Dt.of (by decide) (Nat.le_of_ble_eq_true rfl) fun κ B Rt => ?_
  show Z κ 0 0 σ 0 [(0, .ref q), (1, .int (nI i)), (2, .long v)] []
  refine Z.aload_n B dX6_put_0 (v := .ref q) rfl rfl ?_
  refine Z.iload_n B dX6_put_1 (x := nI i) rfl ?_
  refine Z.iconst B dX6_put_2 (v := nI 1) rfl ?_
  refine Z.callVI (σ := σ) B (M' := mX6_hasRun) (as := [.int (nI i), .int (nI 1)]) (st := []) (v := .int (nI 1)) dX6_put_3 wX6_hasRun iX6_hasRun sX6_hasRun kX6_44 (Nat.lt_of_succ_lt hq.1) hq.2.1 (by decide) rfl rfl (t_X6_hasRun_in (σ := σ) hq hm hm160 (n := 1) (i := i) (by omega)) rfl rfl (by decide) (by decide) (Nat.le_of_ble_eq_true rfl) (by decide) (by decide) ?_
  refine Z.if_eqN B dX6_put_6 (tgt := 20) rfl (by omega) (fun h6 => by exfalso; first | omega | contradiction | simp_all) (fun h6 => ?_)
  refine Z.aload_n B dX6_put_9 (v := .ref q) rfl rfl ?_
  refine Z.getR (σ := σ) B fX6_9_6 dX6_put_10 (Nat.lt_of_succ_lt hq.1) hq.2.1 (by decide) (j := q + 1) hq.2.2.2.2 ?_
  refine Z.iload_n B dX6_put_13 (x := nI i) rfl ?_
  refine Z.aload_n B dX6_put_14 (v := .ref q) rfl rfl ?_
  refine Z.lload_n B dX6_put_15 (x := v) rfl ?_
  refine Z.callVI (σ := σ) B (M' := mX6_lowestBits) (as := [.long v]) (st := [.int (nI i), .ref (q + 1)]) (v := .long (zlow o v)) dX6_put_16 wX6_lowestBits iX6_lowestBits sX6_lowestBits kX6_48 (Nat.lt_of_succ_lt hq.1) hq.2.1 (by decide) rfl rfl (t_X6_lowestBits (σ := σ) hq ho ho3) rfl rfl (by decide) (by decide) (Nat.le_of_ble_eq_true rfl) (by decide) (by decide) ?_
  refine Z.last (σ := σ) B dX6_put_19 (n := 160) hq.1 hq.2.2.1 hq.2.2.2.1 (by decide) (j := i) rfl (by omega) (τ := (zuY σ (q + 1) (vp_updL (zY σ (q + 1)) i (zlow o v)))) rfl ?_
  refine Z.vret B Rt dX6_put_20 rfl (by decide) (by decide) ?_
  exact ⟨rfl, rfl⟩

theorem t_X8_begin {σ : zSt} (hl : Lay σ) : Dt mX8_begin [.ref 18] σ (none) (zuX σ 18 (upd (zX σ 18) 1 (nI 0))) := by
  refine Dt.of (by decide) (Nat.le_of_ble_eq_true rfl) fun κ B Rt => ?_
  show Z κ 0 0 σ 0 [(0, .ref 18)] []
  refine Z.aload_n B dX8_begin_0 (v := .ref 18) rfl rfl ?_
  refine Z.iconst B dX8_begin_1 (v := nI 0) rfl ?_
  refine Z.putI (σ := σ) B fX8_15_8 (ty := .int) ⟨_, _, _, rfl, rfl, by decide +kernel⟩ dX8_begin_2 (hl.n (k := 18) (by decide)) (hl.k (k := 18) (by decide)) (by decide) rfl rfl (τ := (zuX σ 18 (upd (zX σ 18) 1 (nI 0)))) rfl ?_
  refine Z.vret B Rt dX8_begin_5 rfl (by decide) (by decide) ?_
  exact ⟨rfl, rfl⟩

theorem t_X8_began {σ : zSt} (hl : Lay σ) {r : Nat} (hr : zX σ 18 1 = nI r) (hr20 : r < 20) {b : Int32} : Dt mX8_began [.ref 18, .int b] σ (none) (zuX (zuX σ 19 (upd (zX σ 19) r b)) 18 (upd (zX σ 18) 1 (nI (r + 1)))) := by
  refine Dt.of (by decide) (Nat.le_of_ble_eq_true rfl) fun κ B Rt => ?_
  show Z κ 0 0 σ 0 [(0, .ref 18), (1, .int b)] []
  refine Z.aload_n B dX8_began_0 (v := .ref 18) rfl rfl ?_
  refine Z.getI (σ := σ) B fX8_15_8 dX8_began_1 (hl.n (k := 18) (by decide)) (hl.k (k := 18) (by decide)) (by decide) (v := nI r) hr ?_
  refine Z.if_ltN B dX8_began_4 (tgt := 29) rfl (by omega) ?_
  refine Z.aload_n B dX8_began_7 (v := .ref 18) rfl rfl ?_
  refine Z.getI (σ := σ) B fX8_15_8 dX8_began_8 (hl.n (k := 18) (by decide)) (hl.k (k := 18) (by decide)) (by decide) (v := nI r) hr ?_
  refine Z.aload_n B dX8_began_11 (v := .ref 18) rfl rfl ?_
  refine Z.getR (σ := σ) B fX8_9_8 dX8_began_12 (hl.n (k := 18) (by decide)) (hl.k (k := 18) (by decide)) (by decide) (j := 19) (hl.r (k := 18) (f := 0) (by decide) (by decide)) ?_
  refine Z.alen (σ := σ) B dX8_began_15 (hl.n (k := 19) (by decide)) (t := 0) (hl.k (k := 19) (by decide)) (by decide) (n := 20) (hl.l (k := 19) (by decide)) (v := nI 20) rfl ?_
  refine Z.icmp_geN B dX8_began_16 (tgt := 29) rfl (by omega) (by omega) (fun h16 => by exfalso; first | omega | contradiction | simp_all) (fun h16 => ?_)
  refine Z.aload_n B dX8_began_19 (v := .ref 18) rfl rfl ?_
  refine Z.getR (σ := σ) B fX8_9_8 dX8_began_20 (hl.n (k := 18) (by decide)) (hl.k (k := 18) (by decide)) (by decide) (j := 19) (hl.r (k := 18) (f := 0) (by decide) (by decide)) ?_
  refine Z.aload_n B dX8_began_23 (v := .ref 18) rfl rfl ?_
  refine Z.getI (σ := σ) B fX8_15_8 dX8_began_24 (hl.n (k := 18) (by decide)) (hl.k (k := 18) (by decide)) (by decide) (v := nI r) hr ?_
  refine Z.iload_n B dX8_began_27 (x := b) rfl ?_
  refine Z.iast (σ := σ) B dX8_began_28 (n := 20) (hl.n (k := 19) (by decide)) (hl.k (k := 19) (by decide)) (hl.l (k := 19) (by decide)) (by decide) (j := r) rfl (by omega) (τ := (zuX σ 19 (upd (zX σ 19) r b))) rfl ?_
  refine Z.aload_n B dX8_began_29 (v := .ref 18) rfl rfl ?_
  refine Z.dup B dX8_began_30 rfl ?_
  refine Z.getI (σ := (zuX σ 19 (upd (zX σ 19) r b))) B fX8_15_8 dX8_began_31 (hl.n (k := 18) (by decide)) (hl.k (k := 18) (by decide)) (by decide) (v := nI r) hr ?_
  refine Z.iconst B dX8_began_34 (v := nI 1) rfl ?_
  refine Z.iaddN B dX8_began_35 (a := r) (b := 1) ?_
  refine Z.putI (σ := (zuX σ 19 (upd (zX σ 19) r b))) B fX8_15_8 (ty := .int) ⟨_, _, _, rfl, rfl, by decide +kernel⟩ dX8_began_36 (hl.n (k := 18) (by decide)) (hl.k (k := 18) (by decide)) (by decide) rfl rfl (τ := (zuX (zuX σ 19 (upd (zX σ 19) r b)) 18 (upd (zX σ 18) 1 (nI (r + 1))))) rfl ?_
  refine Z.vret B Rt dX8_began_39 rfl (by decide) (by decide) ?_
  exact ⟨rfl, rfl⟩

theorem t_X8_ran {σ : zSt} (hl : Lay σ) : Dt mX8_ran [.ref 18] σ (some (.int (zX σ 18 1))) σ := by
  refine Dt.of (by decide) (Nat.le_of_ble_eq_true rfl) fun κ B Rt => ?_
  show Z κ 0 0 σ 0 [(0, .ref 18)] []
  refine Z.aload_n B dX8_ran_0 (v := .ref 18) rfl rfl ?_
  refine Z.getI (σ := σ) B fX8_15_8 dX8_ran_1 (hl.n (k := 18) (by decide)) (hl.k (k := 18) (by decide)) (by decide) (v := (zX σ 18 1)) rfl ?_
  refine Z.iret B Rt dX8_ran_4 (ty := .int) rfl rfl (by decide) (by decide) ?_
  exact ⟨rfl, rfl⟩

theorem t_X8_bodyAt_in {σ : zSt} (hl : Lay σ) {r i : Nat} (hr : zX σ 18 1 = nI r) (hr3 : r < 2 ^ 31) (hi : i < r) (hi20 : i < 20) : Dt mX8_bodyAt [.ref 18, .int (nI i)] σ (some (.int (zX σ 19 i))) σ := by
  refine Dt.of (by decide) (Nat.le_of_ble_eq_true rfl) fun κ B Rt => ?_
  show Z κ 0 0 σ 0 [(0, .ref 18), (1, .int (nI i))] []
  refine Z.iload_n B dX8_bodyAt_0 (x := nI i) rfl ?_
  refine Z.if_ltN B dX8_bodyAt_1 (tgt := 21) rfl (by omega) ?_
  refine Z.iload_n B dX8_bodyAt_4 (x := nI i) rfl ?_
  refine Z.aload_n B dX8_bodyAt_5 (v := .ref 18) rfl rfl ?_
  refine Z.getI (σ := σ) B fX8_15_8 dX8_bodyAt_6 (hl.n (k := 18) (by decide)) (hl.k (k := 18) (by decide)) (by decide) (v := nI r) hr ?_
  refine Z.icmp_geN B dX8_bodyAt_9 (tgt := 21) rfl (by omega) (by omega) (fun h9 => by exfalso; first | omega | contradiction | simp_all) (fun h9 => ?_)
  refine Z.iload_n B dX8_bodyAt_12 (x := nI i) rfl ?_
  refine Z.aload_n B dX8_bodyAt_13 (v := .ref 18) rfl rfl ?_
  refine Z.getR (σ := σ) B fX8_9_8 dX8_bodyAt_14 (hl.n (k := 18) (by decide)) (hl.k (k := 18) (by decide)) (by decide) (j := 19) (hl.r (k := 18) (f := 0) (by decide) (by decide)) ?_
  refine Z.alen (σ := σ) B dX8_bodyAt_17 (hl.n (k := 19) (by decide)) (t := 0) (hl.k (k := 19) (by decide)) (by decide) (n := 20) (hl.l (k := 19) (by decide)) (v := nI 20) rfl ?_
  refine Z.icmp_ltN B dX8_bodyAt_18 (tgt := 25) rfl (by omega) (by omega) (fun h18 => ?_) (fun h18 => by exfalso; first | omega | contradiction | simp_all)
  refine Z.aload_n B dX8_bodyAt_25 (v := .ref 18) rfl rfl ?_
  refine Z.getR (σ := σ) B fX8_9_8 dX8_bodyAt_26 (hl.n (k := 18) (by decide)) (hl.k (k := 18) (by decide)) (by decide) (j := 19) (hl.r (k := 18) (f := 0) (by decide) (by decide)) ?_
  refine Z.iload_n B dX8_bodyAt_29 (x := nI i) rfl ?_
  refine Z.iald (σ := σ) B dX8_bodyAt_30 (n := 20) (hl.n (k := 19) (by decide)) (hl.k (k := 19) (by decide)) (hl.l (k := 19) (by decide)) (by decide) (j := i) rfl (by omega) (v := (zX σ 19 i)) rfl ?_
  refine Z.iret B Rt dX8_bodyAt_31 (ty := .int) rfl rfl (by decide) (by decide) ?_
  exact ⟨rfl, rfl⟩

theorem t_X8_bodyAt_neg {σ : zSt} (hl : Lay σ) {i : Int32} (hi : i < 0) : Dt mX8_bodyAt [.ref 18, .int i] σ (some (.int (-1))) σ := by
  refine Dt.of (by decide) (Nat.le_of_ble_eq_true rfl) fun κ B Rt => ?_
  show Z κ 0 0 σ 0 [(0, .ref 18), (1, .int i)] []
  refine Z.iload_n B dX8_bodyAt_0 (x := i) rfl ?_
  refine Z.if_lt B dX8_bodyAt_1 (tgt := 21) rfl (fun h1 => ?_) (fun h1 => by exfalso; first | omega | contradiction | simp_all)
  refine Z.iconst B dX8_bodyAt_21 (v := (-1)) rfl ?_
  refine Z.goto B dX8_bodyAt_22 (tgt := 31) rfl ?_
  refine Z.iret B Rt dX8_bodyAt_31 (ty := .int) rfl rfl (by decide) (by decide) ?_
  exact ⟨rfl, rfl⟩

theorem t_X8_bodyAt_far {σ : zSt} (hl : Lay σ) {r : Nat} {i : Int32} (hr : zX σ 18 1 = nI r) (hi0 : ¬ i < 0) (hi : nI r ≤ i) : Dt mX8_bodyAt [.ref 18, .int i] σ (some (.int (-1))) σ := by
  refine Dt.of (by decide) (Nat.le_of_ble_eq_true rfl) fun κ B Rt => ?_
  show Z κ 0 0 σ 0 [(0, .ref 18), (1, .int i)] []
  refine Z.iload_n B dX8_bodyAt_0 (x := i) rfl ?_
  refine Z.if_lt B dX8_bodyAt_1 (tgt := 21) rfl (fun h1 => absurd h1 hi0) (fun h1 => ?_)
  refine Z.iload_n B dX8_bodyAt_4 (x := i) rfl ?_
  refine Z.aload_n B dX8_bodyAt_5 (v := .ref 18) rfl rfl ?_
  refine Z.getI (σ := σ) B fX8_15_8 dX8_bodyAt_6 (hl.n (k := 18) (by decide)) (hl.k (k := 18) (by decide)) (by decide) (v := nI r) hr ?_
  refine Z.icmp_ge B dX8_bodyAt_9 (tgt := 21) rfl (fun h9 => ?_) (fun h9 => absurd hi h9)
  refine Z.iconst B dX8_bodyAt_21 (v := (-1)) rfl ?_
  refine Z.goto B dX8_bodyAt_22 (tgt := 31) rfl ?_
  refine Z.iret B Rt dX8_bodyAt_31 (ty := .int) rfl rfl (by decide) (by decide) ?_
  exact ⟨rfl, rfl⟩

theorem t_X8_bodyAt_far2 {σ : zSt} (hl : Lay σ) {i : Int32} (hi0 : ¬ i < 0) (hi : nI 20 ≤ i) : Dt mX8_bodyAt [.ref 18, .int i] σ (some (.int (-1))) σ := by
  refine Dt.of (by decide) (Nat.le_of_ble_eq_true rfl) fun κ B Rt => ?_
  show Z κ 0 0 σ 0 [(0, .ref 18), (1, .int i)] []
  refine Z.iload_n B dX8_bodyAt_0 (x := i) rfl ?_
  refine Z.if_lt B dX8_bodyAt_1 (tgt := 21) rfl (fun h1 => absurd h1 hi0) (fun h1 => ?_)
  refine Z.iload_n B dX8_bodyAt_4 (x := i) rfl ?_
  refine Z.aload_n B dX8_bodyAt_5 (v := .ref 18) rfl rfl ?_
  refine Z.getI (σ := σ) B fX8_15_8 dX8_bodyAt_6 (hl.n (k := 18) (by decide)) (hl.k (k := 18) (by decide)) (by decide) (v := (zX σ 18 1)) rfl ?_
  refine Z.icmp_ge B dX8_bodyAt_9 (tgt := 21) rfl (fun h9 => ?_) (fun h9 => ?_)
  · skip
    refine Z.iconst B dX8_bodyAt_21 (v := (-1)) rfl ?_
    refine Z.goto B dX8_bodyAt_22 (tgt := 31) rfl ?_
    refine Z.iret B Rt dX8_bodyAt_31 (ty := .int) rfl rfl (by decide) (by decide) ?_
    exact ⟨rfl, rfl⟩
  · skip
    refine Z.iload_n B dX8_bodyAt_12 (x := i) rfl ?_
    refine Z.aload_n B dX8_bodyAt_13 (v := .ref 18) rfl rfl ?_
    refine Z.getR (σ := σ) B fX8_9_8 dX8_bodyAt_14 (hl.n (k := 18) (by decide)) (hl.k (k := 18) (by decide)) (by decide) (j := 19) (hl.r (k := 18) (f := 0) (by decide) (by decide)) ?_
    refine Z.alen (σ := σ) B dX8_bodyAt_17 (hl.n (k := 19) (by decide)) (t := 0) (hl.k (k := 19) (by decide)) (by decide) (n := 20) (hl.l (k := 19) (by decide)) (v := nI 20) rfl ?_
    refine Z.icmp_lt B dX8_bodyAt_18 (tgt := 25) rfl (fun h18 => absurd hi (by rw [zle_iff]; rw [zlt_iff] at h18; omega)) (fun h18 => ?_)
    refine Z.iconst B dX8_bodyAt_21 (v := (-1)) rfl ?_
    refine Z.goto B dX8_bodyAt_22 (tgt := 31) rfl ?_
    refine Z.iret B Rt dX8_bodyAt_31 (ty := .int) rfl rfl (by decide) (by decide) ?_
    exact ⟨rfl, rfl⟩

theorem t_X11_isUpTo_in {σ : zSt} {i n : Nat} (hi : i ≤ n) (hn : n < 2 ^ 31) : Dt mX11_isUpTo [.int (nI i), .int (nI n)] σ (some (.int (nI 1))) σ := by
  refine Dt.of (by decide) (Nat.le_of_ble_eq_true rfl) fun κ B Rt => ?_
  show Z κ 0 0 σ 0 [(0, .int (nI i)), (1, .int (nI n))] []
  refine Z.iload_n B dX11_isUpTo_0 (x := nI i) rfl ?_
  refine Z.if_ltN B dX11_isUpTo_1 (tgt := 13) rfl (by omega) ?_
  refine Z.iload_n B dX11_isUpTo_4 (x := nI i) rfl ?_
  refine Z.iload_n B dX11_isUpTo_5 (x := nI n) rfl ?_
  refine Z.icmp_gtN B dX11_isUpTo_6 (tgt := 13) rfl (by omega) (by omega) (fun h6 => by exfalso; first | omega | contradiction | simp_all) (fun h6 => ?_)
  refine Z.iconst B dX11_isUpTo_9 (v := nI 1) rfl ?_
  refine Z.goto B dX11_isUpTo_10 (tgt := 14) rfl ?_
  refine Z.iret B Rt dX11_isUpTo_14 (ty := .boolean) rfl rfl (by decide) (by decide) ?_
  exact ⟨rfl, rfl⟩

theorem t_X11_isUpTo_neg {σ : zSt} {i n : Int32} (hi : i < 0) : Dt mX11_isUpTo [.int i, .int n] σ (some (.int (nI 0))) σ := by
  refine Dt.of (by decide) (Nat.le_of_ble_eq_true rfl) fun κ B Rt => ?_
  show Z κ 0 0 σ 0 [(0, .int i), (1, .int n)] []
  refine Z.iload_n B dX11_isUpTo_0 (x := i) rfl ?_
  refine Z.if_lt B dX11_isUpTo_1 (tgt := 13) rfl (fun h1 => ?_) (fun h1 => by exfalso; first | omega | contradiction | simp_all)
  refine Z.iconst B dX11_isUpTo_13 (v := nI 0) rfl ?_
  refine Z.iret B Rt dX11_isUpTo_14 (ty := .boolean) rfl rfl (by decide) (by decide) ?_
  exact ⟨rfl, rfl⟩

theorem t_X11_isUpTo_far {σ : zSt} {i n : Int32} (hi0 : ¬ i < 0) (hi : n < i) : Dt mX11_isUpTo [.int i, .int n] σ (some (.int (nI 0))) σ := by
  refine Dt.of (by decide) (Nat.le_of_ble_eq_true rfl) fun κ B Rt => ?_
  show Z κ 0 0 σ 0 [(0, .int i), (1, .int n)] []
  refine Z.iload_n B dX11_isUpTo_0 (x := i) rfl ?_
  refine Z.if_lt B dX11_isUpTo_1 (tgt := 13) rfl (fun h1 => absurd h1 hi0) (fun h1 => ?_)
  refine Z.iload_n B dX11_isUpTo_4 (x := i) rfl ?_
  refine Z.iload_n B dX11_isUpTo_5 (x := n) rfl ?_
  refine Z.icmp_gt B dX11_isUpTo_6 (tgt := 13) rfl (fun h6 => ?_) (fun h6 => absurd hi h6)
  refine Z.iconst B dX11_isUpTo_13 (v := nI 0) rfl ?_
  refine Z.iret B Rt dX11_isUpTo_14 (ty := .boolean) rfl rfl (by decide) (by decide) ?_
  exact ⟨rfl, rfl⟩

theorem t_X11_isNumberOfComers_in {σ : zSt} {i : Nat} (hi : i ≤ 8) (h1 : 1 ≤ i) : Dt mX11_isNumberOfComers [.int (nI i)] σ (some (.int (nI 1))) σ := by
  refine Dt.of (by decide) (Nat.le_of_ble_eq_true rfl) fun κ B Rt => ?_
  show Z κ 0 0 σ 0 [(0, .int (nI i))] []
  refine Z.iload_n B dX11_isNumberOfComers_0 (x := nI i) rfl ?_
  refine Z.iconst B dX11_isNumberOfComers_1 (v := nI 1) rfl ?_
  refine Z.icmp_ltN B dX11_isNumberOfComers_2 (tgt := 15) rfl (by omega) (by omega) (fun h2 => by exfalso; first | omega | contradiction | simp_all) (fun h2 => ?_)
  refine Z.iload_n B dX11_isNumberOfComers_5 (x := nI i) rfl ?_
  refine Z.bipush B dX11_isNumberOfComers_6 (v := nI 8) rfl ?_
  refine Z.icmp_gtN B dX11_isNumberOfComers_8 (tgt := 15) rfl (by omega) (by omega) (fun h8 => by exfalso; first | omega | contradiction | simp_all) (fun h8 => ?_)
  refine Z.iconst B dX11_isNumberOfComers_11 (v := nI 1) rfl ?_
  refine Z.goto B dX11_isNumberOfComers_12 (tgt := 16) rfl ?_
  refine Z.iret B Rt dX11_isNumberOfComers_16 (ty := .boolean) rfl rfl (by decide) (by decide) ?_
  exact ⟨rfl, rfl⟩

theorem t_X11_isNumberOfComers_low {σ : zSt} {i : Int32} (hi : i < nI 1) : Dt mX11_isNumberOfComers [.int i] σ (some (.int (nI 0))) σ := by
  refine Dt.of (by decide) (Nat.le_of_ble_eq_true rfl) fun κ B Rt => ?_
  show Z κ 0 0 σ 0 [(0, .int i)] []
  refine Z.iload_n B dX11_isNumberOfComers_0 (x := i) rfl ?_
  refine Z.iconst B dX11_isNumberOfComers_1 (v := nI 1) rfl ?_
  refine Z.icmp_lt B dX11_isNumberOfComers_2 (tgt := 15) rfl (fun h2 => ?_) (fun h2 => by exfalso; first | omega | contradiction | simp_all)
  refine Z.iconst B dX11_isNumberOfComers_15 (v := nI 0) rfl ?_
  refine Z.iret B Rt dX11_isNumberOfComers_16 (ty := .boolean) rfl rfl (by decide) (by decide) ?_
  exact ⟨rfl, rfl⟩

theorem t_X11_isNumberOfComers_far {σ : zSt} {i : Int32} (hi0 : ¬ i < nI 1) (hi : nI 8 < i) : Dt mX11_isNumberOfComers [.int i] σ (some (.int (nI 0))) σ := by
  refine Dt.of (by decide) (Nat.le_of_ble_eq_true rfl) fun κ B Rt => ?_
  show Z κ 0 0 σ 0 [(0, .int i)] []
  refine Z.iload_n B dX11_isNumberOfComers_0 (x := i) rfl ?_
  refine Z.iconst B dX11_isNumberOfComers_1 (v := nI 1) rfl ?_
  refine Z.icmp_lt B dX11_isNumberOfComers_2 (tgt := 15) rfl (fun h2 => absurd h2 hi0) (fun h2 => ?_)
  refine Z.iload_n B dX11_isNumberOfComers_5 (x := i) rfl ?_
  refine Z.bipush B dX11_isNumberOfComers_6 (v := nI 8) rfl ?_
  refine Z.icmp_gt B dX11_isNumberOfComers_8 (tgt := 15) rfl (fun h8 => ?_) (fun h8 => absurd hi h8)
  refine Z.iconst B dX11_isNumberOfComers_15 (v := nI 0) rfl ?_
  refine Z.iret B Rt dX11_isNumberOfComers_16 (ty := .boolean) rfl rfl (by decide) (by decide) ?_
  exact ⟨rfl, rfl⟩

theorem t_X11_refuse {σ : zSt} (hl : Lay σ) {b : Nat} (hb : b < 8) : Dt mX11_refuse [.ref 0, .int (nI b)] σ (some (.int (-nI b))) (zuX σ 43 (upd (zX σ 43) b (zX σ 43 b + nI 1))) := by
  refine Dt.of (by decide) (Nat.le_of_ble_eq_true rfl) fun κ B Rt => ?_
  show Z κ 0 0 σ 0 [(0, .ref 0), (1, .int (nI b))] []
  refine Z.iload_n B dX11_refuse_0 (x := nI b) rfl ?_
  refine Z.if_ltN B dX11_refuse_1 (tgt := 23) rfl (by omega) ?_
  refine Z.iload_n B dX11_refuse_4 (x := nI b) rfl ?_
  refine Z.aload_n B dX11_refuse_5 (v := .ref 0) rfl rfl ?_
  refine Z.getR (σ := σ) B fX11_44_11 dX11_refuse_6 (hl.n (k := 0) (by decide)) (hl.k (k := 0) (by decide)) (by decide) (j := 43) (hl.r (k := 0) (f := 5) (by decide) (by decide)) ?_
  refine Z.alen (σ := σ) B dX11_refuse_9 (hl.n (k := 43) (by decide)) (t := 0) (hl.k (k := 43) (by decide)) (by decide) (n := 8) (hl.l (k := 43) (by decide)) (v := nI 8) rfl ?_
  refine Z.icmp_geN B dX11_refuse_10 (tgt := 23) rfl (by omega) (by omega) (fun h10 => by exfalso; first | omega | contradiction | simp_all) (fun h10 => ?_)
  refine Z.aload_n B dX11_refuse_13 (v := .ref 0) rfl rfl ?_
  refine Z.getR (σ := σ) B fX11_44_11 dX11_refuse_14 (hl.n (k := 0) (by decide)) (hl.k (k := 0) (by decide)) (by decide) (j := 43) (hl.r (k := 0) (f := 5) (by decide) (by decide)) ?_
  refine Z.iload_n B dX11_refuse_17 (x := nI b) rfl ?_
  refine Z.dup2 B dX11_refuse_18 rfl rfl ?_
  refine Z.iald (σ := σ) B dX11_refuse_19 (n := 8) (hl.n (k := 43) (by decide)) (hl.k (k := 43) (by decide)) (hl.l (k := 43) (by decide)) (by decide) (j := b) rfl (by omega) (v := (zX σ 43 b)) rfl ?_
  refine Z.iconst B dX11_refuse_20 (v := nI 1) rfl ?_
  refine Z.iadd B dX11_refuse_21 ?_
  refine Z.iast (σ := σ) B dX11_refuse_22 (n := 8) (hl.n (k := 43) (by decide)) (hl.k (k := 43) (by decide)) (hl.l (k := 43) (by decide)) (by decide) (j := b) rfl (by omega) (τ := (zuX σ 43 (upd (zX σ 43) b ((zX σ 43 b) + (nI 1))))) rfl ?_
  refine Z.iload_n B dX11_refuse_23 (x := nI b) rfl ?_
  refine Z.ineg B dX11_refuse_24 ?_
  refine Z.iret B Rt dX11_refuse_25 (ty := .int) rfl rfl (by decide) (by decide) ?_
  exact ⟨rfl, rfl⟩

theorem t_X11_refuseFar {σ : zSt} (hl : Lay σ) {b : Nat} (hb : b < 8) : Dt mX11_refuseFar [.ref 0, .int (nI b)] σ (some (.int ((-nI b) - nI 1000))) (zuX σ 43 (upd (zX σ 43) b (zX σ 43 b + nI 1))) := by
  refine Dt.of (by decide) (Nat.le_of_ble_eq_true rfl) fun κ B Rt => ?_
  show Z κ 0 0 σ 0 [(0, .ref 0), (1, .int (nI b))] []
  refine Z.aload_n B dX11_refuseFar_0 (v := .ref 0) rfl rfl ?_
  refine Z.iload_n B dX11_refuseFar_1 (x := nI b) rfl ?_
  refine Z.callVI (σ := σ) B (M' := mX11_refuse) (as := [.int (nI b)]) (st := []) (v := .int (-nI b)) dX11_refuseFar_2 wX11_refuse iX11_refuse sX11_refuse kX11_63 (hl.n (k := 0) (by decide)) (hl.k (k := 0) (by decide)) (by decide) rfl rfl (t_X11_refuse (σ := σ) hl hb) rfl rfl (by decide) (by decide) (Nat.le_of_ble_eq_true rfl) (by decide) (by decide) ?_
  refine Z.eqσ (τ := (zuX σ 43 (upd (zX σ 43) b (zX σ 43 b + nI 1)))) rfl ?_
  refine Z.sipush B dX11_refuseFar_5 (v := nI 1000) rfl ?_
  refine Z.isub B dX11_refuseFar_8 ?_
  refine Z.iret B Rt dX11_refuseFar_9 (ty := .int) rfl rfl (by decide) (by decide) ?_
  exact ⟨rfl, rfl⟩

theorem t_X11_shelfAt_in {σ : zSt} (hl : Lay σ) {s : Nat} (hs : s < 8) : Dt mX11_shelfAt [.ref 0, .int (nI s)] σ (some (.ref (2 + 2 * s))) σ := by
  refine Dt.of (by decide) (Nat.le_of_ble_eq_true rfl) fun κ B Rt => ?_
  show Z κ 0 0 σ 0 [(0, .ref 0), (1, .int (nI s))] []
  refine Z.iload_n B dX11_shelfAt_0 (x := nI s) rfl ?_
  refine Z.if_ltN B dX11_shelfAt_1 (tgt := 13) rfl (by omega) ?_
  refine Z.iload_n B dX11_shelfAt_4 (x := nI s) rfl ?_
  refine Z.aload_n B dX11_shelfAt_5 (v := .ref 0) rfl rfl ?_
  refine Z.getR (σ := σ) B fX11_11_11 dX11_shelfAt_6 (hl.n (k := 0) (by decide)) (hl.k (k := 0) (by decide)) (by decide) (j := 1) (hl.r (k := 0) (f := 0) (by decide) (by decide)) ?_
  refine Z.alen (σ := σ) B dX11_shelfAt_9 (hl.n (k := 1) (by decide)) (t := 2) (hl.k (k := 1) (by decide)) (by decide) (n := 8) (hl.l (k := 1) (by decide)) (v := nI 8) rfl ?_
  refine Z.icmp_ltN B dX11_shelfAt_10 (tgt := 17) rfl (by omega) (by omega) (fun h10 => ?_) (fun h10 => by exfalso; first | omega | contradiction | simp_all)
  refine Z.aload_n B dX11_shelfAt_17 (v := .ref 0) rfl rfl ?_
  refine Z.getR (σ := σ) B fX11_11_11 dX11_shelfAt_18 (hl.n (k := 0) (by decide)) (hl.k (k := 0) (by decide)) (by decide) (j := 1) (hl.r (k := 0) (f := 0) (by decide) (by decide)) ?_
  refine Z.iload_n B dX11_shelfAt_21 (x := nI s) rfl ?_
  refine Z.aldS (σ := σ) B dX11_shelfAt_22 (n := 8) (hl.n (k := 1) (by decide)) (hl.k (k := 1) (by decide)) (hl.l (k := 1) (by decide)) (by decide) (j := s) rfl (by omega) (q := 2 + 2 * s) (hl.shelf hs).1 ?_
  refine Z.aret B Rt dX11_shelfAt_23 (rt := (.object "FourAskOne$Shelf")) rfl (Or.inl ⟨_, rfl⟩) rfl (by decide) (by decide) ?_
  exact ⟨rfl, rfl⟩

theorem t_X11_shelfAt_neg {σ : zSt} (hl : Lay σ) {s : Int32} (hs : s < 0) : Dt mX11_shelfAt [.ref 0, .int s] σ (some (.null)) σ := by
  refine Dt.of (by decide) (Nat.le_of_ble_eq_true rfl) fun κ B Rt => ?_
  show Z κ 0 0 σ 0 [(0, .ref 0), (1, .int s)] []
  refine Z.iload_n B dX11_shelfAt_0 (x := s) rfl ?_
  refine Z.if_lt B dX11_shelfAt_1 (tgt := 13) rfl (fun h1 => ?_) (fun h1 => by exfalso; first | omega | contradiction | simp_all)
  refine Z.aconst_null B dX11_shelfAt_13 ?_
  refine Z.goto B dX11_shelfAt_14 (tgt := 23) rfl ?_
  refine Z.aret B Rt dX11_shelfAt_23 (rt := (.object "FourAskOne$Shelf")) rfl (Or.inl ⟨_, rfl⟩) rfl (by decide) (by decide) ?_
  exact ⟨rfl, rfl⟩

theorem t_X11_shelfAt_far {σ : zSt} (hl : Lay σ) {s : Int32} (hs0 : ¬ s < 0) (hs : nI 8 ≤ s) : Dt mX11_shelfAt [.ref 0, .int s] σ (some (.null)) σ := by
  refine Dt.of (by decide) (Nat.le_of_ble_eq_true rfl) fun κ B Rt => ?_
  show Z κ 0 0 σ 0 [(0, .ref 0), (1, .int s)] []
  refine Z.iload_n B dX11_shelfAt_0 (x := s) rfl ?_
  refine Z.if_lt B dX11_shelfAt_1 (tgt := 13) rfl (fun h1 => absurd h1 hs0) (fun h1 => ?_)
  refine Z.iload_n B dX11_shelfAt_4 (x := s) rfl ?_
  refine Z.aload_n B dX11_shelfAt_5 (v := .ref 0) rfl rfl ?_
  refine Z.getR (σ := σ) B fX11_11_11 dX11_shelfAt_6 (hl.n (k := 0) (by decide)) (hl.k (k := 0) (by decide)) (by decide) (j := 1) (hl.r (k := 0) (f := 0) (by decide) (by decide)) ?_
  refine Z.alen (σ := σ) B dX11_shelfAt_9 (hl.n (k := 1) (by decide)) (t := 2) (hl.k (k := 1) (by decide)) (by decide) (n := 8) (hl.l (k := 1) (by decide)) (v := nI 8) rfl ?_
  refine Z.icmp_lt B dX11_shelfAt_10 (tgt := 17) rfl (fun h10 => absurd hs (by rw [zle_iff]; rw [zlt_iff] at h10; omega)) (fun h10 => ?_)
  refine Z.aconst_null B dX11_shelfAt_13 ?_
  refine Z.goto B dX11_shelfAt_14 (tgt := 23) rfl ?_
  refine Z.aret B Rt dX11_shelfAt_23 (rt := (.object "FourAskOne$Shelf")) rfl (Or.inl ⟨_, rfl⟩) rfl (by decide) (by decide) ?_
  exact ⟨rfl, rfl⟩

theorem t_X11_whyNoRow_n {σ : zSt}  : Dt mX11_whyNoRow [.null] σ (some (.int (nI 1))) σ := by
  refine Dt.of (by decide) (Nat.le_of_ble_eq_true rfl) fun κ B Rt => ?_
  show Z κ 0 0 σ 0 [(0, .null)] []
  refine Z.aload_n B dX11_whyNoRow_0 (v := .null) rfl rfl ?_
  refine Z.ifnonnull_n B dX11_whyNoRow_1 ?_
  refine Z.iconst B dX11_whyNoRow_4 (v := nI 1) rfl ?_
  refine Z.iret B Rt dX11_whyNoRow_5 (ty := .int) rfl rfl (by decide) (by decide) ?_
  exact ⟨rfl, rfl⟩

theorem t_X11_whyNoRow_w {σ : zSt} {q : Nat} (hq : zSh σ q) {o : Nat} (ho : o < 2 ^ 31) (h : zX σ q 3 = nI o) : Dt mX11_whyNoRow [.ref q] σ (some (.int (nI 2))) σ := by
  refine Dt.of (by decide) (Nat.le_of_ble_eq_true rfl) fun κ B Rt => ?_
  show Z κ 0 0 σ 0 [(0, .ref q)] []
  refine Z.aload_n B dX11_whyNoRow_0 (v := .ref q) rfl rfl ?_
  refine Z.ifnonnull_r B dX11_whyNoRow_1 (tgt := 6) rfl ?_
  refine Z.aload_n B dX11_whyNoRow_6 (v := .ref q) rfl rfl ?_
  refine Z.callVI (σ := σ) B (M' := mX6_holdsWay) (as := []) (st := []) (v := .int (nI 1)) dX11_whyNoRow_7 wX6_holdsWay iX6_holdsWay sX6_holdsWay kX11_87 (Nat.lt_of_succ_lt hq.1) hq.2.1 (by decide) rfl rfl (t_X6_holdsWay_1 (σ := σ) hq ho h) rfl rfl (by decide) (by decide) (Nat.le_of_ble_eq_true rfl) (by decide) (by decide) ?_
  refine Z.if_eqN B dX11_whyNoRow_10 (tgt := 17) rfl (by omega) (fun h10 => by exfalso; first | omega | contradiction | simp_all) (fun h10 => ?_)
  refine Z.iconst B dX11_whyNoRow_13 (v := nI 2) rfl ?_
  refine Z.goto B dX11_whyNoRow_14 (tgt := 18) rfl ?_
  refine Z.iret B Rt dX11_whyNoRow_18 (ty := .int) rfl rfl (by decide) (by decide) ?_
  exact ⟨rfl, rfl⟩

theorem t_X11_whyNoRow_0 {σ : zSt} {q : Nat} (hq : zSh σ q) (h : zX σ q 3 = (-1)) : Dt mX11_whyNoRow [.ref q] σ (some (.int (nI 3))) σ := by
  refine Dt.of (by decide) (Nat.le_of_ble_eq_true rfl) fun κ B Rt => ?_
  show Z κ 0 0 σ 0 [(0, .ref q)] []
  refine Z.aload_n B dX11_whyNoRow_0 (v := .ref q) rfl rfl ?_
  refine Z.ifnonnull_r B dX11_whyNoRow_1 (tgt := 6) rfl ?_
  refine Z.aload_n B dX11_whyNoRow_6 (v := .ref q) rfl rfl ?_
  refine Z.callVI (σ := σ) B (M' := mX6_holdsWay) (as := []) (st := []) (v := .int (nI 0)) dX11_whyNoRow_7 wX6_holdsWay iX6_holdsWay sX6_holdsWay kX11_87 (Nat.lt_of_succ_lt hq.1) hq.2.1 (by decide) rfl rfl (t_X6_holdsWay_0 (σ := σ) hq h) rfl rfl (by decide) (by decide) (Nat.le_of_ble_eq_true rfl) (by decide) (by decide) ?_
  refine Z.if_eqN B dX11_whyNoRow_10 (tgt := 17) rfl (by omega) (fun h10 => ?_) (fun h10 => by exfalso; first | omega | contradiction | simp_all)
  refine Z.iconst B dX11_whyNoRow_17 (v := nI 3) rfl ?_
  refine Z.iret B Rt dX11_whyNoRow_18 (ty := .int) rfl rfl (by decide) (by decide) ?_
  exact ⟨rfl, rfl⟩
