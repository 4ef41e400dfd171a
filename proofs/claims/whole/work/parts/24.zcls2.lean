/-! the class's calls, second -/
def zWf (σ : zSt) (y : Nat) (yq kdf paf : Nat → Nat) : Prop := ∀ w, w < y → zR σ 24 w = some (yq w) ∧ zWo σ (yq w) (kdf w) (paf w) w
theorem upd_sw {f : Nat → Int32} {i j : Nat} {v v' x : Int32} (h : i ≠ j) : upd (upd (upd f i v) j x) i v' = upd (upd f i v') j x := by
  funext k
  simp only [upd]
  by_cases h1 : k = i
  · subst h1; rw [if_pos rfl, if_neg h, if_pos rfl]
  · rw [if_neg h1, if_neg h1]
    split <;> rfl
theorem t_X11_isNumberOfComers_out {σ : zSt} {i : Int32} (h : i < nI 1 ∨ nI 8 < i) : Dt mX11_isNumberOfComers [.int i] σ (some (.int (nI 0))) σ := by
  by_cases h0 : i < nI 1
  · exact t_X11_isNumberOfComers_low h0
  · exact t_X11_isNumberOfComers_far h0 (h.resolve_left h0)
/-- drawn rows, one after another -/
def dS (s : Int32) : Nat → Int32
  | 0 => s
  | i + 1 => sq (dS s i) 6
def dX (X : Nat → Int32) (n : Nat) (s : Int32) : Nat → Nat → Int32
  | 0 => X
  | i + 1 => dw (dX X n s i) (n + i) (dS s i) 6

theorem t_K_joined_1 {σ : zSt} (hl : Lay σ) {n a y : Nat} (H : zHd σ n a y) {i : Int32} (hi : zOut i y) {j x : Int32} (hj : zOut j y) : Dt mX11_joined [.ref 0, .int i, .int j, .int x] σ (some (.int ((-nI 1) - nI 1000))) (zuX σ 43 (upd (zX σ 43) 1 (zX σ 43 1 + nI 1))) := by
  obtain ⟨-, hn, hn8, ha, ha4, hy, hy8⟩ := id H
  refine Dt.of (by decide) (Nat.le_of_ble_eq_true rfl) fun κ B Rt => ?_
  show Z κ 0 0 σ 0 [(0, .ref 0), (1, .int i), (2, .int j), (3, .int x)] []
  refine Z.aload_n B dX11_joined_0 (v := .ref 0) rfl rfl ?_
  refine Z.getR (σ := σ) B fX11_28_11 dX11_joined_1 (hl.n (k := 0) (by decide)) (hl.k (k := 0) (by decide)) (by decide) (j := 20) (hl.r (k := 0) (f := 2) (by decide) (by decide)) ?_
  refine Z.iload_n B dX11_joined_4 (x := i) rfl ?_
  refine Z.callVI (σ := σ) B (M' := mX1_wayAt) (as := [.int i]) (st := []) (v := .null) dX11_joined_5 wX1_wayAt iX1_wayAt sX1_wayAt kX11_102 (hl.n (k := 20) (by decide)) (hl.k (k := 20) (by decide)) (by decide) rfl rfl (t_X1_wayAt_out (σ := σ) H hi) rfl rfl (by decide) (by decide) (Nat.le_of_ble_eq_true rfl) (by decide) (by decide) ?_
  refine Z.astore B dX11_joined_8 (by decide) rfl (L' := [(0, .ref 0), (1, .int i), (2, .int j), (3, .int x), (4, .null)]) rfl ?_
  refine Z.aload_n B dX11_joined_10 (v := .ref 0) rfl rfl ?_
  refine Z.getR (σ := σ) B fX11_28_11 dX11_joined_11 (hl.n (k := 0) (by decide)) (hl.k (k := 0) (by decide)) (by decide) (j := 20) (hl.r (k := 0) (f := 2) (by decide) (by decide)) ?_
  refine Z.iload_n B dX11_joined_14 (x := j) rfl ?_
  refine Z.callVI (σ := σ) B (M' := mX1_wayAt) (as := [.int j]) (st := []) (v := .null) dX11_joined_15 wX1_wayAt iX1_wayAt sX1_wayAt kX11_102 (hl.n (k := 20) (by decide)) (hl.k (k := 20) (by decide)) (by decide) rfl rfl (t_X1_wayAt_out (σ := σ) H hj) rfl rfl (by decide) (by decide) (Nat.le_of_ble_eq_true rfl) (by decide) (by decide) ?_
  refine Z.astore B dX11_joined_18 (by decide) rfl (L' := [(0, .ref 0), (1, .int i), (2, .int j), (3, .int x), (4, .null), (5, .null)]) rfl ?_
  refine Z.aload B dX11_joined_20 (v := .null) rfl rfl ?_
  refine Z.ifnull_n B dX11_joined_22 (tgt := 30) rfl ?_
  refine Z.aload_n B dX11_joined_30 (v := .ref 0) rfl rfl ?_
  refine Z.iconst B dX11_joined_31 (v := nI 1) rfl ?_
  refine Z.callVI (σ := σ) B (M' := mX11_refuseFar) (as := [.int (nI 1)]) (st := []) (v := .int ((-nI 1) - nI 1000)) dX11_joined_32 wX11_refuseFar iX11_refuseFar sX11_refuseFar kX11_221 (hl.n (k := 0) (by decide)) (hl.k (k := 0) (by decide)) (by decide) rfl rfl (t_X11_refuseFar (σ := σ) hl (b := 1) (by decide)) rfl rfl (by decide) (by decide) (Nat.le_of_ble_eq_true rfl) (by decide) (by decide) ?_
  refine Z.eqσ (τ := (zuX σ 43 (upd (zX σ 43) 1 (zX σ 43 1 + nI 1)))) rfl ?_
  refine Z.iret B Rt dX11_joined_35 (ty := .int) rfl rfl (by decide) (by decide) ?_
  exact ⟨rfl, rfl⟩

theorem t_K_joined_2 {σ : zSt} (hl : Lay σ) {n a y : Nat} (H : zHd σ n a y) {i : Int32} (hi : zOut i y) {j q2 : Nat} {x : Int32} (hj : j < y) (hq2 : zR σ 24 j = some q2) : Dt mX11_joined [.ref 0, .int i, .int (nI j), .int x] σ (some (.int ((-nI 1) - nI 1000))) (zuX σ 43 (upd (zX σ 43) 1 (zX σ 43 1 + nI 1))) := by
  obtain ⟨-, hn, hn8, ha, ha4, hy, hy8⟩ := id H
  refine Dt.of (by decide) (Nat.le_of_ble_eq_true rfl) fun κ B Rt => ?_
  show Z κ 0 0 σ 0 [(0, .ref 0), (1, .int i), (2, .int (nI j)), (3, .int x)] []
  refine Z.aload_n B dX11_joined_0 (v := .ref 0) rfl rfl ?_
  refine Z.getR (σ := σ) B fX11_28_11 dX11_joined_1 (hl.n (k := 0) (by decide)) (hl.k (k := 0) (by decide)) (by decide) (j := 20) (hl.r (k := 0) (f := 2) (by decide) (by decide)) ?_
  refine Z.iload_n B dX11_joined_4 (x := i) rfl ?_
  refine Z.callVI (σ := σ) B (M' := mX1_wayAt) (as := [.int i]) (st := []) (v := .null) dX11_joined_5 wX1_wayAt iX1_wayAt sX1_wayAt kX11_102 (hl.n (k := 20) (by decide)) (hl.k (k := 20) (by decide)) (by decide) rfl rfl (t_X1_wayAt_out (σ := σ) H hi) rfl rfl (by decide) (by decide) (Nat.le_of_ble_eq_true rfl) (by decide) (by decide) ?_
  refine Z.astore B dX11_joined_8 (by decide) rfl (L' := [(0, .ref 0), (1, .int i), (2, .int (nI j)), (3, .int x), (4, .null)]) rfl ?_
  refine Z.aload_n B dX11_joined_10 (v := .ref 0) rfl rfl ?_
  refine Z.getR (σ := σ) B fX11_28_11 dX11_joined_11 (hl.n (k := 0) (by decide)) (hl.k (k := 0) (by decide)) (by decide) (j := 20) (hl.r (k := 0) (f := 2) (by decide) (by decide)) ?_
  refine Z.iload_n B dX11_joined_14 (x := nI j) rfl ?_
  refine Z.callVI (σ := σ) B (M' := mX1_wayAt) (as := [.int (nI j)]) (st := []) (v := .ref q2) dX11_joined_15 wX1_wayAt iX1_wayAt sX1_wayAt kX11_102 (hl.n (k := 20) (by decide)) (hl.k (k := 20) (by decide)) (by decide) rfl rfl (t_X1_wayAt_in (σ := σ) H hj hq2) rfl rfl (by decide) (by decide) (Nat.le_of_ble_eq_true rfl) (by decide) (by decide) ?_
  refine Z.astore B dX11_joined_18 (by decide) rfl (L' := [(0, .ref 0), (1, .int i), (2, .int (nI j)), (3, .int x), (4, .null), (5, .ref q2)]) rfl ?_
  refine Z.aload B dX11_joined_20 (v := .null) rfl rfl ?_
  refine Z.ifnull_n B dX11_joined_22 (tgt := 30) rfl ?_
  refine Z.aload_n B dX11_joined_30 (v := .ref 0) rfl rfl ?_
  refine Z.iconst B dX11_joined_31 (v := nI 1) rfl ?_
  refine Z.callVI (σ := σ) B (M' := mX11_refuseFar) (as := [.int (nI 1)]) (st := []) (v := .int ((-nI 1) - nI 1000)) dX11_joined_32 wX11_refuseFar iX11_refuseFar sX11_refuseFar kX11_221 (hl.n (k := 0) (by decide)) (hl.k (k := 0) (by decide)) (by decide) rfl rfl (t_X11_refuseFar (σ := σ) hl (b := 1) (by decide)) rfl rfl (by decide) (by decide) (Nat.le_of_ble_eq_true rfl) (by decide) (by decide) ?_
  refine Z.eqσ (τ := (zuX σ 43 (upd (zX σ 43) 1 (zX σ 43 1 + nI 1)))) rfl ?_
  refine Z.iret B Rt dX11_joined_35 (ty := .int) rfl rfl (by decide) (by decide) ?_
  exact ⟨rfl, rfl⟩

theorem t_K_joined_3 {σ : zSt} (hl : Lay σ) {n a y : Nat} (H : zHd σ n a y) {i q kd pa num : Nat} (hi : i < y) (hq : zR σ 24 i = some q) (hw : zWo σ q kd pa num) {j x : Int32} (hj : zOut j y) : Dt mX11_joined [.ref 0, .int (nI i), .int j, .int x] σ (some (.int ((-nI 1) - nI 1000))) (zuX σ 43 (upd (zX σ 43) 1 (zX σ 43 1 + nI 1))) := by
  obtain ⟨-, hn, hn8, ha, ha4, hy, hy8⟩ := id H
  refine Dt.of (by decide) (Nat.le_of_ble_eq_true rfl) fun κ B Rt => ?_
  show Z κ 0 0 σ 0 [(0, .ref 0), (1, .int (nI i)), (2, .int j), (3, .int x)] []
  refine Z.aload_n B dX11_joined_0 (v := .ref 0) rfl rfl ?_
  refine Z.getR (σ := σ) B fX11_28_11 dX11_joined_1 (hl.n (k := 0) (by decide)) (hl.k (k := 0) (by decide)) (by decide) (j := 20) (hl.r (k := 0) (f := 2) (by decide) (by decide)) ?_
  refine Z.iload_n B dX11_joined_4 (x := nI i) rfl ?_
  refine Z.callVI (σ := σ) B (M' := mX1_wayAt) (as := [.int (nI i)]) (st := []) (v := .ref q) dX11_joined_5 wX1_wayAt iX1_wayAt sX1_wayAt kX11_102 (hl.n (k := 20) (by decide)) (hl.k (k := 20) (by decide)) (by decide) rfl rfl (t_X1_wayAt_in (σ := σ) H hi hq) rfl rfl (by decide) (by decide) (Nat.le_of_ble_eq_true rfl) (by decide) (by decide) ?_
  refine Z.astore B dX11_joined_8 (by decide) rfl (L' := [(0, .ref 0), (1, .int (nI i)), (2, .int j), (3, .int x), (4, .ref q)]) rfl ?_
  refine Z.aload_n B dX11_joined_10 (v := .ref 0) rfl rfl ?_
  refine Z.getR (σ := σ) B fX11_28_11 dX11_joined_11 (hl.n (k := 0) (by decide)) (hl.k (k := 0) (by decide)) (by decide) (j := 20) (hl.r (k := 0) (f := 2) (by decide) (by decide)) ?_
  refine Z.iload_n B dX11_joined_14 (x := j) rfl ?_
  refine Z.callVI (σ := σ) B (M' := mX1_wayAt) (as := [.int j]) (st := []) (v := .null) dX11_joined_15 wX1_wayAt iX1_wayAt sX1_wayAt kX11_102 (hl.n (k := 20) (by decide)) (hl.k (k := 20) (by decide)) (by decide) rfl rfl (t_X1_wayAt_out (σ := σ) H hj) rfl rfl (by decide) (by decide) (Nat.le_of_ble_eq_true rfl) (by decide) (by decide) ?_
  refine Z.astore B dX11_joined_18 (by decide) rfl (L' := [(0, .ref 0), (1, .int (nI i)), (2, .int j), (3, .int x), (4, .ref q), (5, .null)]) rfl ?_
  refine Z.aload B dX11_joined_20 (v := .ref q) rfl rfl ?_
  refine Z.ifnull_r B dX11_joined_22 ?_
  refine Z.aload B dX11_joined_25 (v := .null) rfl rfl ?_
  refine Z.ifnonnull_n B dX11_joined_27 ?_
  refine Z.aload_n B dX11_joined_30 (v := .ref 0) rfl rfl ?_
  refine Z.iconst B dX11_joined_31 (v := nI 1) rfl ?_
  refine Z.callVI (σ := σ) B (M' := mX11_refuseFar) (as := [.int (nI 1)]) (st := []) (v := .int ((-nI 1) - nI 1000)) dX11_joined_32 wX11_refuseFar iX11_refuseFar sX11_refuseFar kX11_221 (hl.n (k := 0) (by decide)) (hl.k (k := 0) (by decide)) (by decide) rfl rfl (t_X11_refuseFar (σ := σ) hl (b := 1) (by decide)) rfl rfl (by decide) (by decide) (Nat.le_of_ble_eq_true rfl) (by decide) (by decide) ?_
  refine Z.eqσ (τ := (zuX σ 43 (upd (zX σ 43) 1 (zX σ 43 1 + nI 1)))) rfl ?_
  refine Z.iret B Rt dX11_joined_35 (ty := .int) rfl rfl (by decide) (by decide) ?_
  exact ⟨rfl, rfl⟩

theorem t_K_joined_6 {σ : zSt} (hl : Lay σ) {n a y : Nat} (H : zHd σ n a y) {i q kd pa num : Nat} (hi : i < y) (hq : zR σ 24 i = some q) (hw : zWo σ q kd pa num) {j q2 kd2 pa2 num2 : Nat} (hj : j < y) (hq2 : zR σ 24 j = some q2) (hw2 : zWo σ q2 kd2 pa2 num2) {x : Int32} (hx : zOut x 11) : Dt mX11_joined [.ref 0, .int (nI i), .int (nI j), .int x] σ (some (.int ((-nI 6) - nI 1000))) (zuX σ 43 (upd (zX σ 43) 6 (zX σ 43 6 + nI 1))) := by
  obtain ⟨-, hn, hn8, ha, ha4, hy, hy8⟩ := id H
  refine Dt.of (by decide) (Nat.le_of_ble_eq_true rfl) fun κ B Rt => ?_
  show Z κ 0 0 σ 0 [(0, .ref 0), (1, .int (nI i)), (2, .int (nI j)), (3, .int x)] []
  refine Z.aload_n B dX11_joined_0 (v := .ref 0) rfl rfl ?_
  refine Z.getR (σ := σ) B fX11_28_11 dX11_joined_1 (hl.n (k := 0) (by decide)) (hl.k (k := 0) (by decide)) (by decide) (j := 20) (hl.r (k := 0) (f := 2) (by decide) (by decide)) ?_
  refine Z.iload_n B dX11_joined_4 (x := nI i) rfl ?_
  refine Z.callVI (σ := σ) B (M' := mX1_wayAt) (as := [.int (nI i)]) (st := []) (v := .ref q) dX11_joined_5 wX1_wayAt iX1_wayAt sX1_wayAt kX11_102 (hl.n (k := 20) (by decide)) (hl.k (k := 20) (by decide)) (by decide) rfl rfl (t_X1_wayAt_in (σ := σ) H hi hq) rfl rfl (by decide) (by decide) (Nat.le_of_ble_eq_true rfl) (by decide) (by decide) ?_
  refine Z.astore B dX11_joined_8 (by decide) rfl (L' := [(0, .ref 0), (1, .int (nI i)), (2, .int (nI j)), (3, .int x), (4, .ref q)]) rfl ?_
  refine Z.aload_n B dX11_joined_10 (v := .ref 0) rfl rfl ?_
  refine Z.getR (σ := σ) B fX11_28_11 dX11_joined_11 (hl.n (k := 0) (by decide)) (hl.k (k := 0) (by decide)) (by decide) (j := 20) (hl.r (k := 0) (f := 2) (by decide) (by decide)) ?_
  refine Z.iload_n B dX11_joined_14 (x := nI j) rfl ?_
  refine Z.callVI (σ := σ) B (M' := mX1_wayAt) (as := [.int (nI j)]) (st := []) (v := .ref q2) dX11_joined_15 wX1_wayAt iX1_wayAt sX1_wayAt kX11_102 (hl.n (k := 20) (by decide)) (hl.k (k := 20) (by decide)) (by decide) rfl rfl (t_X1_wayAt_in (σ := σ) H hj hq2) rfl rfl (by decide) (by decide) (Nat.le_of_ble_eq_true rfl) (by decide) (by decide) ?_
  refine Z.astore B dX11_joined_18 (by decide) rfl (L' := [(0, .ref 0), (1, .int (nI i)), (2, .int (nI j)), (3, .int x), (4, .ref q), (5, .ref q2)]) rfl ?_
  refine Z.aload B dX11_joined_20 (v := .ref q) rfl rfl ?_
  refine Z.ifnull_r B dX11_joined_22 ?_
  refine Z.aload B dX11_joined_25 (v := .ref q2) rfl rfl ?_
  refine Z.ifnonnull_r B dX11_joined_27 (tgt := 36) rfl ?_
  refine Z.iload_n B dX11_joined_36 (x := x) rfl ?_
  refine Z.bipush B dX11_joined_37 (v := nI 10) rfl ?_
  refine Z.callSI (σ := σ) B (M' := mX11_isUpTo) (as := [.int x, .int (nI 10)]) (st := []) (v := .int (nI 0)) dX11_joined_39 wX11_isUpTo iX11_isUpTo kX11_127 (t_X11_isUpTo_out (σ := σ) (n := 10) hx (by decide)) rfl rfl (by decide) (by decide) (Nat.le_of_ble_eq_true rfl) (by decide) (by decide) ?_
  refine Z.if_eqN B dX11_joined_42 (tgt := 60) rfl (by omega) (fun h42 => ?_) (fun h42 => by exfalso; first | omega | contradiction | simp_all)
  refine Z.aload_n B dX11_joined_60 (v := .ref 0) rfl rfl ?_
  refine Z.bipush B dX11_joined_61 (v := nI 6) rfl ?_
  refine Z.callVI (σ := σ) B (M' := mX11_refuseFar) (as := [.int (nI 6)]) (st := []) (v := .int ((-nI 6) - nI 1000)) dX11_joined_63 wX11_refuseFar iX11_refuseFar sX11_refuseFar kX11_221 (hl.n (k := 0) (by decide)) (hl.k (k := 0) (by decide)) (by decide) rfl rfl (t_X11_refuseFar (σ := σ) hl (b := 6) (by decide)) rfl rfl (by decide) (by decide) (Nat.le_of_ble_eq_true rfl) (by decide) (by decide) ?_
  refine Z.eqσ (τ := (zuX σ 43 (upd (zX σ 43) 6 (zX σ 43 6 + nI 1)))) rfl ?_
  refine Z.iret B Rt dX11_joined_66 (ty := .int) rfl rfl (by decide) (by decide) ?_
  exact ⟨rfl, rfl⟩

theorem t_K_joined_0 {σ : zSt} (hl : Lay σ) {n a y : Nat} (H : zHd σ n a y) {od : Nat → Nat} (ho : zOd σ a od) {i q kd pa num : Nat} (hi : i < y) (hq : zR σ 24 i = some q) (hw : zWo σ q kd pa num) {j q2 kd2 pa2 num2 : Nat} (hj : j < y) (hq2 : zR σ 24 j = some q2) (hw2 : zWo σ q2 kd2 pa2 num2) {x : Nat} (hx : x ≤ 10) : Dt mX11_joined [.ref 0, .int (nI i), .int (nI j), .int (nI x)] σ (some (.int (tO (pt (zX σ 21) (fun c => nI x * (tf (zX σ 21) (zSc σ) (zLk σ) (zDr σ) true kd pa od a) c + (nI 10 - nI x) * (tf (zX σ 21) (zSc σ) (zLk σ) (zDr σ) true kd2 pa2 od a) c)) n))) (zuX (zuX σ 25 (fi n (fun c => nI x * (tf (zX σ 21) (zSc σ) (zLk σ) (zDr σ) true kd pa od a) c + (nI 10 - nI x) * (tf (zX σ 21) (zSc σ) (zLk σ) (zDr σ) true kd2 pa2 od a) c) (zX σ 25))) 26 (fi n (tf (zX σ 21) (zSc σ) (zLk σ) (zDr σ) true kd2 pa2 od a) (zX σ 26))) := by
  obtain ⟨-, hn, hn8, ha, ha4, hy, hy8⟩ := id H
  refine Dt.of (by decide) (Nat.le_of_ble_eq_true rfl) fun κ B Rt => ?_
  show Z κ 0 0 σ 0 [(0, .ref 0), (1, .int (nI i)), (2, .int (nI j)), (3, .int (nI x))] []
  refine Z.aload_n B dX11_joined_0 (v := .ref 0) rfl rfl ?_
  refine Z.getR (σ := σ) B fX11_28_11 dX11_joined_1 (hl.n (k := 0) (by decide)) (hl.k (k := 0) (by decide)) (by decide) (j := 20) (hl.r (k := 0) (f := 2) (by decide) (by decide)) ?_
  refine Z.iload_n B dX11_joined_4 (x := nI i) rfl ?_
  refine Z.callVI (σ := σ) B (M' := mX1_wayAt) (as := [.int (nI i)]) (st := []) (v := .ref q) dX11_joined_5 wX1_wayAt iX1_wayAt sX1_wayAt kX11_102 (hl.n (k := 20) (by decide)) (hl.k (k := 20) (by decide)) (by decide) rfl rfl (t_X1_wayAt_in (σ := σ) H hi hq) rfl rfl (by decide) (by decide) (Nat.le_of_ble_eq_true rfl) (by decide) (by decide) ?_
  refine Z.astore B dX11_joined_8 (by decide) rfl (L' := [(0, .ref 0), (1, .int (nI i)), (2, .int (nI j)), (3, .int (nI x)), (4, .ref q)]) rfl ?_
  refine Z.aload_n B dX11_joined_10 (v := .ref 0) rfl rfl ?_
  refine Z.getR (σ := σ) B fX11_28_11 dX11_joined_11 (hl.n (k := 0) (by decide)) (hl.k (k := 0) (by decide)) (by decide) (j := 20) (hl.r (k := 0) (f := 2) (by decide) (by decide)) ?_
  refine Z.iload_n B dX11_joined_14 (x := nI j) rfl ?_
  refine Z.callVI (σ := σ) B (M' := mX1_wayAt) (as := [.int (nI j)]) (st := []) (v := .ref q2) dX11_joined_15 wX1_wayAt iX1_wayAt sX1_wayAt kX11_102 (hl.n (k := 20) (by decide)) (hl.k (k := 20) (by decide)) (by decide) rfl rfl (t_X1_wayAt_in (σ := σ) H hj hq2) rfl rfl (by decide) (by decide) (Nat.le_of_ble_eq_true rfl) (by decide) (by decide) ?_
  refine Z.astore B dX11_joined_18 (by decide) rfl (L' := [(0, .ref 0), (1, .int (nI i)), (2, .int (nI j)), (3, .int (nI x)), (4, .ref q), (5, .ref q2)]) rfl ?_
  refine Z.aload B dX11_joined_20 (v := .ref q) rfl rfl ?_
  refine Z.ifnull_r B dX11_joined_22 ?_
  refine Z.aload B dX11_joined_25 (v := .ref q2) rfl rfl ?_
  refine Z.ifnonnull_r B dX11_joined_27 (tgt := 36) rfl ?_
  refine Z.iload_n B dX11_joined_36 (x := nI x) rfl ?_
  refine Z.bipush B dX11_joined_37 (v := nI 10) rfl ?_
  refine Z.callSI (σ := σ) B (M' := mX11_isUpTo) (as := [.int (nI x), .int (nI 10)]) (st := []) (v := .int (nI 1)) dX11_joined_39 wX11_isUpTo iX11_isUpTo kX11_127 (t_X11_isUpTo_in (σ := σ) hx (by decide)) rfl rfl (by decide) (by decide) (Nat.le_of_ble_eq_true rfl) (by decide) (by decide) ?_
  refine Z.if_eqN B dX11_joined_42 (tgt := 60) rfl (by omega) (fun h42 => by exfalso; first | omega | contradiction | simp_all) (fun h42 => ?_)
  refine Z.aload_n B dX11_joined_45 (v := .ref 0) rfl rfl ?_
  refine Z.getR (σ := σ) B fX11_28_11 dX11_joined_46 (hl.n (k := 0) (by decide)) (hl.k (k := 0) (by decide)) (by decide) (j := 20) (hl.r (k := 0) (f := 2) (by decide) (by decide)) ?_
  refine Z.aload B dX11_joined_49 (v := .ref q) rfl rfl ?_
  refine Z.aload B dX11_joined_51 (v := .ref q2) rfl rfl ?_
  refine Z.iload_n B dX11_joined_53 (x := nI x) rfl ?_
  refine Z.callVI (σ := σ) B (M' := mX1_joinedTells) (as := [.ref q, .ref q2, .int (nI x)]) (st := []) (v := .int (tO (pt (zX σ 21) (fun c => nI x * (tf (zX σ 21) (zSc σ) (zLk σ) (zDr σ) true kd pa od a) c + (nI 10 - nI x) * (tf (zX σ 21) (zSc σ) (zLk σ) (zDr σ) true kd2 pa2 od a) c)) n)) dX11_joined_54 wX1_joinedTells iX1_joinedTells sX1_joinedTells kX11_230 (hl.n (k := 20) (by decide)) (hl.k (k := 20) (by decide)) (by decide) rfl rfl (t_X1_joinedTells (σ := σ) H ho hw hw2) rfl rfl (by decide) (by decide) (Nat.le_of_ble_eq_true rfl) (by decide) (by decide) ?_
  refine Z.eqσ (τ := (zuX (zuX σ 25 (fi n (fun c => nI x * (tf (zX σ 21) (zSc σ) (zLk σ) (zDr σ) true kd pa od a) c + (nI 10 - nI x) * (tf (zX σ 21) (zSc σ) (zLk σ) (zDr σ) true kd2 pa2 od a) c) (zX σ 25))) 26 (fi n (tf (zX σ 21) (zSc σ) (zLk σ) (zDr σ) true kd2 pa2 od a) (zX σ 26)))) rfl ?_
  refine Z.goto B dX11_joined_57 (tgt := 66) rfl ?_
  refine Z.iret B Rt dX11_joined_66 (ty := .int) rfl rfl (by decide) (by decide) ?_
  exact ⟨rfl, rfl⟩

theorem t_K_weights_1 {σ : zSt} (hl : Lay σ) {n a y : Nat} (H : zHd σ n a y) {i : Int32} (hi : zOut i y) {j : Int32} (hj : zOut j y) : Dt mX11_weights [.ref 0, .int i, .int j] σ (some (.int (-nI 1))) (zuX σ 43 (upd (zX σ 43) 1 (zX σ 43 1 + nI 1))) := by
  obtain ⟨-, hn, hn8, ha, ha4, hy, hy8⟩ := id H
  refine Dt.of (by decide) (Nat.le_of_ble_eq_true rfl) fun κ B Rt => ?_
  show Z κ 0 0 σ 0 [(0, .ref 0), (1, .int i), (2, .int j)] []
  refine Z.aload_n B dX11_weights_0 (v := .ref 0) rfl rfl ?_
  refine Z.getR (σ := σ) B fX11_28_11 dX11_weights_1 (hl.n (k := 0) (by decide)) (hl.k (k := 0) (by decide)) (by decide) (j := 20) (hl.r (k := 0) (f := 2) (by decide) (by decide)) ?_
  refine Z.iload_n B dX11_weights_4 (x := i) rfl ?_
  refine Z.callVI (σ := σ) B (M' := mX1_wayAt) (as := [.int i]) (st := []) (v := .null) dX11_weights_5 wX1_wayAt iX1_wayAt sX1_wayAt kX11_102 (hl.n (k := 20) (by decide)) (hl.k (k := 20) (by decide)) (by decide) rfl rfl (t_X1_wayAt_out (σ := σ) H hi) rfl rfl (by decide) (by decide) (Nat.le_of_ble_eq_true rfl) (by decide) (by decide) ?_
  refine Z.astore_n B dX11_weights_8 (by decide) rfl (L' := [(0, .ref 0), (1, .int i), (2, .int j), (3, .null)]) rfl ?_
  refine Z.aload_n B dX11_weights_9 (v := .ref 0) rfl rfl ?_
  refine Z.getR (σ := σ) B fX11_28_11 dX11_weights_10 (hl.n (k := 0) (by decide)) (hl.k (k := 0) (by decide)) (by decide) (j := 20) (hl.r (k := 0) (f := 2) (by decide) (by decide)) ?_
  refine Z.iload_n B dX11_weights_13 (x := j) rfl ?_
  refine Z.callVI (σ := σ) B (M' := mX1_wayAt) (as := [.int j]) (st := []) (v := .null) dX11_weights_14 wX1_wayAt iX1_wayAt sX1_wayAt kX11_102 (hl.n (k := 20) (by decide)) (hl.k (k := 20) (by decide)) (by decide) rfl rfl (t_X1_wayAt_out (σ := σ) H hj) rfl rfl (by decide) (by decide) (Nat.le_of_ble_eq_true rfl) (by decide) (by decide) ?_
  refine Z.astore B dX11_weights_17 (by decide) rfl (L' := [(0, .ref 0), (1, .int i), (2, .int j), (3, .null), (4, .null)]) rfl ?_
  refine Z.aload_n B dX11_weights_19 (v := .null) rfl rfl ?_
  refine Z.ifnull_n B dX11_weights_20 (tgt := 28) rfl ?_
  refine Z.aload_n B dX11_weights_28 (v := .ref 0) rfl rfl ?_
  refine Z.iconst B dX11_weights_29 (v := nI 1) rfl ?_
  refine Z.callVI (σ := σ) B (M' := mX11_refuse) (as := [.int (nI 1)]) (st := []) (v := .int (-nI 1)) dX11_weights_30 wX11_refuse iX11_refuse sX11_refuse kX11_63 (hl.n (k := 0) (by decide)) (hl.k (k := 0) (by decide)) (by decide) rfl rfl (t_X11_refuse (σ := σ) hl (b := 1) (by decide)) rfl rfl (by decide) (by decide) (Nat.le_of_ble_eq_true rfl) (by decide) (by decide) ?_
  refine Z.eqσ (τ := (zuX σ 43 (upd (zX σ 43) 1 (zX σ 43 1 + nI 1)))) rfl ?_
  refine Z.iret B Rt dX11_weights_33 (ty := .int) rfl rfl (by decide) (by decide) ?_
  exact ⟨rfl, rfl⟩

theorem t_K_weights_2 {σ : zSt} (hl : Lay σ) {n a y : Nat} (H : zHd σ n a y) {i : Int32} (hi : zOut i y) {j q2 : Nat} (hj : j < y) (hq2 : zR σ 24 j = some q2) : Dt mX11_weights [.ref 0, .int i, .int (nI j)] σ (some (.int (-nI 1))) (zuX σ 43 (upd (zX σ 43) 1 (zX σ 43 1 + nI 1))) := by
  obtain ⟨-, hn, hn8, ha, ha4, hy, hy8⟩ := id H
  refine Dt.of (by decide) (Nat.le_of_ble_eq_true rfl) fun κ B Rt => ?_
  show Z κ 0 0 σ 0 [(0, .ref 0), (1, .int i), (2, .int (nI j))] []
  refine Z.aload_n B dX11_weights_0 (v := .ref 0) rfl rfl ?_
  refine Z.getR (σ := σ) B fX11_28_11 dX11_weights_1 (hl.n (k := 0) (by decide)) (hl.k (k := 0) (by decide)) (by decide) (j := 20) (hl.r (k := 0) (f := 2) (by decide) (by decide)) ?_
  refine Z.iload_n B dX11_weights_4 (x := i) rfl ?_
  refine Z.callVI (σ := σ) B (M' := mX1_wayAt) (as := [.int i]) (st := []) (v := .null) dX11_weights_5 wX1_wayAt iX1_wayAt sX1_wayAt kX11_102 (hl.n (k := 20) (by decide)) (hl.k (k := 20) (by decide)) (by decide) rfl rfl (t_X1_wayAt_out (σ := σ) H hi) rfl rfl (by decide) (by decide) (Nat.le_of_ble_eq_true rfl) (by decide) (by decide) ?_
  refine Z.astore_n B dX11_weights_8 (by decide) rfl (L' := [(0, .ref 0), (1, .int i), (2, .int (nI j)), (3, .null)]) rfl ?_
  refine Z.aload_n B dX11_weights_9 (v := .ref 0) rfl rfl ?_
  refine Z.getR (σ := σ) B fX11_28_11 dX11_weights_10 (hl.n (k := 0) (by decide)) (hl.k (k := 0) (by decide)) (by decide) (j := 20) (hl.r (k := 0) (f := 2) (by decide) (by decide)) ?_
  refine Z.iload_n B dX11_weights_13 (x := nI j) rfl ?_
  refine Z.callVI (σ := σ) B (M' := mX1_wayAt) (as := [.int (nI j)]) (st := []) (v := .ref q2) dX11_weights_14 wX1_wayAt iX1_wayAt sX1_wayAt kX11_102 (hl.n (k := 20) (by decide)) (hl.k (k := 20) (by decide)) (by decide) rfl rfl (t_X1_wayAt_in (σ := σ) H hj hq2) rfl rfl (by decide) (by decide) (Nat.le_of_ble_eq_true rfl) (by decide) (by decide) ?_
  refine Z.astore B dX11_weights_17 (by decide) rfl (L' := [(0, .ref 0), (1, .int i), (2, .int (nI j)), (3, .null), (4, .ref q2)]) rfl ?_
  refine Z.aload_n B dX11_weights_19 (v := .null) rfl rfl ?_
  refine Z.ifnull_n B dX11_weights_20 (tgt := 28) rfl ?_
  refine Z.aload_n B dX11_weights_28 (v := .ref 0) rfl rfl ?_
  refine Z.iconst B dX11_weights_29 (v := nI 1) rfl ?_
  refine Z.callVI (σ := σ) B (M' := mX11_refuse) (as := [.int (nI 1)]) (st := []) (v := .int (-nI 1)) dX11_weights_30 wX11_refuse iX11_refuse sX11_refuse kX11_63 (hl.n (k := 0) (by decide)) (hl.k (k := 0) (by decide)) (by decide) rfl rfl (t_X11_refuse (σ := σ) hl (b := 1) (by decide)) rfl rfl (by decide) (by decide) (Nat.le_of_ble_eq_true rfl) (by decide) (by decide) ?_
  refine Z.eqσ (τ := (zuX σ 43 (upd (zX σ 43) 1 (zX σ 43 1 + nI 1)))) rfl ?_
  refine Z.iret B Rt dX11_weights_33 (ty := .int) rfl rfl (by decide) (by decide) ?_
  exact ⟨rfl, rfl⟩

theorem t_K_weights_3 {σ : zSt} (hl : Lay σ) {n a y : Nat} (H : zHd σ n a y) {i q kd pa num : Nat} (hi : i < y) (hq : zR σ 24 i = some q) (hw : zWo σ q kd pa num) {j : Int32} (hj : zOut j y) : Dt mX11_weights [.ref 0, .int (nI i), .int j] σ (some (.int (-nI 1))) (zuX σ 43 (upd (zX σ 43) 1 (zX σ 43 1 + nI 1))) := by
  obtain ⟨-, hn, hn8, ha, ha4, hy, hy8⟩ := id H
  refine Dt.of (by decide) (Nat.le_of_ble_eq_true rfl) fun κ B Rt => ?_
  show Z κ 0 0 σ 0 [(0, .ref 0), (1, .int (nI i)), (2, .int j)] []
  refine Z.aload_n B dX11_weights_0 (v := .ref 0) rfl rfl ?_
  refine Z.getR (σ := σ) B fX11_28_11 dX11_weights_1 (hl.n (k := 0) (by decide)) (hl.k (k := 0) (by decide)) (by decide) (j := 20) (hl.r (k := 0) (f := 2) (by decide) (by decide)) ?_
  refine Z.iload_n B dX11_weights_4 (x := nI i) rfl ?_
  refine Z.callVI (σ := σ) B (M' := mX1_wayAt) (as := [.int (nI i)]) (st := []) (v := .ref q) dX11_weights_5 wX1_wayAt iX1_wayAt sX1_wayAt kX11_102 (hl.n (k := 20) (by decide)) (hl.k (k := 20) (by decide)) (by decide) rfl rfl (t_X1_wayAt_in (σ := σ) H hi hq) rfl rfl (by decide) (by decide) (Nat.le_of_ble_eq_true rfl) (by decide) (by decide) ?_
  refine Z.astore_n B dX11_weights_8 (by decide) rfl (L' := [(0, .ref 0), (1, .int (nI i)), (2, .int j), (3, .ref q)]) rfl ?_
  refine Z.aload_n B dX11_weights_9 (v := .ref 0) rfl rfl ?_
  refine Z.getR (σ := σ) B fX11_28_11 dX11_weights_10 (hl.n (k := 0) (by decide)) (hl.k (k := 0) (by decide)) (by decide) (j := 20) (hl.r (k := 0) (f := 2) (by decide) (by decide)) ?_
  refine Z.iload_n B dX11_weights_13 (x := j) rfl ?_
  refine Z.callVI (σ := σ) B (M' := mX1_wayAt) (as := [.int j]) (st := []) (v := .null) dX11_weights_14 wX1_wayAt iX1_wayAt sX1_wayAt kX11_102 (hl.n (k := 20) (by decide)) (hl.k (k := 20) (by decide)) (by decide) rfl rfl (t_X1_wayAt_out (σ := σ) H hj) rfl rfl (by decide) (by decide) (Nat.le_of_ble_eq_true rfl) (by decide) (by decide) ?_
  refine Z.astore B dX11_weights_17 (by decide) rfl (L' := [(0, .ref 0), (1, .int (nI i)), (2, .int j), (3, .ref q), (4, .null)]) rfl ?_
  refine Z.aload_n B dX11_weights_19 (v := .ref q) rfl rfl ?_
  refine Z.ifnull_r B dX11_weights_20 ?_
  refine Z.aload B dX11_weights_23 (v := .null) rfl rfl ?_
  refine Z.ifnonnull_n B dX11_weights_25 ?_
  refine Z.aload_n B dX11_weights_28 (v := .ref 0) rfl rfl ?_
  refine Z.iconst B dX11_weights_29 (v := nI 1) rfl ?_
  refine Z.callVI (σ := σ) B (M' := mX11_refuse) (as := [.int (nI 1)]) (st := []) (v := .int (-nI 1)) dX11_weights_30 wX11_refuse iX11_refuse sX11_refuse kX11_63 (hl.n (k := 0) (by decide)) (hl.k (k := 0) (by decide)) (by decide) rfl rfl (t_X11_refuse (σ := σ) hl (b := 1) (by decide)) rfl rfl (by decide) (by decide) (Nat.le_of_ble_eq_true rfl) (by decide) (by decide) ?_
  refine Z.eqσ (τ := (zuX σ 43 (upd (zX σ 43) 1 (zX σ 43 1 + nI 1)))) rfl ?_
  refine Z.iret B Rt dX11_weights_33 (ty := .int) rfl rfl (by decide) (by decide) ?_
  exact ⟨rfl, rfl⟩

theorem t_K_weights_0 {σ : zSt} (hl : Lay σ) {n a y : Nat} (H : zHd σ n a y) {od : Nat → Nat} (ho : zOd σ a od) {i q kd pa num : Nat} (hi : i < y) (hq : zR σ 24 i = some q) (hw : zWo σ q kd pa num) {j q2 kd2 pa2 num2 : Nat} (hj : j < y) (hq2 : zR σ 24 j = some q2) (hw2 : zWo σ q2 kd2 pa2 num2)  : Dt mX11_weights [.ref 0, .int (nI i), .int (nI j)] σ (some (.int (nI (ga (fun z => tO (pt (zX σ 21) (fun c => nI z * (tf (zX σ 21) (zSc σ) (zLk σ) (zDr σ) true kd pa od a) c + (nI 10 - nI z) * (tf (zX σ 21) (zSc σ) (zLk σ) (zDr σ) true kd2 pa2 od a) c)) n) 10)))) (zuX (zuX σ 25 (fi n (fun c => nI 10 * (tf (zX σ 21) (zSc σ) (zLk σ) (zDr σ) true kd pa od a) c + (nI 10 - nI 10) * (tf (zX σ 21) (zSc σ) (zLk σ) (zDr σ) true kd2 pa2 od a) c) (zX σ 25))) 26 (fi n (tf (zX σ 21) (zSc σ) (zLk σ) (zDr σ) true kd2 pa2 od a) (zX σ 26))) := by
  obtain ⟨-, hn, hn8, ha, ha4, hy, hy8⟩ := id H
  refine Dt.of (by decide) (Nat.le_of_ble_eq_true rfl) fun κ B Rt => ?_
  show Z κ 0 0 σ 0 [(0, .ref 0), (1, .int (nI i)), (2, .int (nI j))] []
  refine Z.aload_n B dX11_weights_0 (v := .ref 0) rfl rfl ?_
  refine Z.getR (σ := σ) B fX11_28_11 dX11_weights_1 (hl.n (k := 0) (by decide)) (hl.k (k := 0) (by decide)) (by decide) (j := 20) (hl.r (k := 0) (f := 2) (by decide) (by decide)) ?_
  refine Z.iload_n B dX11_weights_4 (x := nI i) rfl ?_
  refine Z.callVI (σ := σ) B (M' := mX1_wayAt) (as := [.int (nI i)]) (st := []) (v := .ref q) dX11_weights_5 wX1_wayAt iX1_wayAt sX1_wayAt kX11_102 (hl.n (k := 20) (by decide)) (hl.k (k := 20) (by decide)) (by decide) rfl rfl (t_X1_wayAt_in (σ := σ) H hi hq) rfl rfl (by decide) (by decide) (Nat.le_of_ble_eq_true rfl) (by decide) (by decide) ?_
  refine Z.astore_n B dX11_weights_8 (by decide) rfl (L' := [(0, .ref 0), (1, .int (nI i)), (2, .int (nI j)), (3, .ref q)]) rfl ?_
  refine Z.aload_n B dX11_weights_9 (v := .ref 0) rfl rfl ?_
  refine Z.getR (σ := σ) B fX11_28_11 dX11_weights_10 (hl.n (k := 0) (by decide)) (hl.k (k := 0) (by decide)) (by decide) (j := 20) (hl.r (k := 0) (f := 2) (by decide) (by decide)) ?_
  refine Z.iload_n B dX11_weights_13 (x := nI j) rfl ?_
  refine Z.callVI (σ := σ) B (M' := mX1_wayAt) (as := [.int (nI j)]) (st := []) (v := .ref q2) dX11_weights_14 wX1_wayAt iX1_wayAt sX1_wayAt kX11_102 (hl.n (k := 20) (by decide)) (hl.k (k := 20) (by decide)) (by decide) rfl rfl (t_X1_wayAt_in (σ := σ) H hj hq2) rfl rfl (by decide) (by decide) (Nat.le_of_ble_eq_true rfl) (by decide) (by decide) ?_
  refine Z.astore B dX11_weights_17 (by decide) rfl (L' := [(0, .ref 0), (1, .int (nI i)), (2, .int (nI j)), (3, .ref q), (4, .ref q2)]) rfl ?_
  refine Z.aload_n B dX11_weights_19 (v := .ref q) rfl rfl ?_
  refine Z.ifnull_r B dX11_weights_20 ?_
  refine Z.aload B dX11_weights_23 (v := .ref q2) rfl rfl ?_
  refine Z.ifnonnull_r B dX11_weights_25 (tgt := 34) rfl ?_
  refine Z.iconst B dX11_weights_34 (v := nI 0) rfl ?_
  refine Z.istore B dX11_weights_35 (by decide) (L' := [(0, .ref 0), (1, .int (nI i)), (2, .int (nI j)), (3, .ref q), (4, .ref q2), (5, .int (nI 0))]) rfl ?_
  refine Z.aload_n B dX11_weights_37 (v := .ref 0) rfl rfl ?_
  refine Z.getR (σ := σ) B fX11_28_11 dX11_weights_38 (hl.n (k := 0) (by decide)) (hl.k (k := 0) (by decide)) (by decide) (j := 20) (hl.r (k := 0) (f := 2) (by decide) (by decide)) ?_
  refine Z.aload_n B dX11_weights_41 (v := .ref q) rfl rfl ?_
  refine Z.aload B dX11_weights_42 (v := .ref q2) rfl rfl ?_
  refine Z.iconst B dX11_weights_44 (v := nI 0) rfl ?_
  refine Z.callVI (σ := σ) B (M' := mX1_joinedTells) (as := [.ref q, .ref q2, .int (nI 0)]) (st := []) (v := .int (tO (pt (zX σ 21) (fun c => nI 0 * (tf (zX σ 21) (zSc σ) (zLk σ) (zDr σ) true kd pa od a) c + (nI 10 - nI 0) * (tf (zX σ 21) (zSc σ) (zLk σ) (zDr σ) true kd2 pa2 od a) c)) n)) dX11_weights_45 wX1_joinedTells iX1_joinedTells sX1_joinedTells kX11_230 (hl.n (k := 20) (by decide)) (hl.k (k := 20) (by decide)) (by decide) rfl rfl (t_X1_joinedTells (σ := σ) H ho hw hw2) rfl rfl (by decide) (by decide) (Nat.le_of_ble_eq_true rfl) (by decide) (by decide) ?_
  refine Z.eqσ (τ := (zuX (zuX σ 25 (fi n (fun c => nI 0 * (tf (zX σ 21) (zSc σ) (zLk σ) (zDr σ) true kd pa od a) c + (nI 10 - nI 0) * (tf (zX σ 21) (zSc σ) (zLk σ) (zDr σ) true kd2 pa2 od a) c) (zX σ 25))) 26 (fi n (tf (zX σ 21) (zSc σ) (zLk σ) (zDr σ) true kd2 pa2 od a) (zX σ 26)))) rfl ?_
  refine Z.istore B dX11_weights_48 (by decide) (L' := [(0, .ref 0), (1, .int (nI i)), (2, .int (nI j)), (3, .ref q), (4, .ref q2), (5, .int (nI 0)), (6, .int (tO (pt (zX σ 21) (fun c => nI 0 * (tf (zX σ 21) (zSc σ) (zLk σ) (zDr σ) true kd pa od a) c + (nI 10 - nI 0) * (tf (zX σ 21) (zSc σ) (zLk σ) (zDr σ) true kd2 pa2 od a) c)) n))]) rfl ?_
  refine Z.iconst B dX11_weights_50 (v := nI 1) rfl ?_
  refine Z.istore B dX11_weights_51 (by decide) (L' := [(0, .ref 0), (1, .int (nI i)), (2, .int (nI j)), (3, .ref q), (4, .ref q2), (5, .int (nI 0)), (6, .int (tO (pt (zX σ 21) (fun c => nI 0 * (tf (zX σ 21) (zSc σ) (zLk σ) (zDr σ) true kd pa od a) c + (nI 10 - nI 0) * (tf (zX σ 21) (zSc σ) (zLk σ) (zDr σ) true kd2 pa2 od a) c)) n)), (7, .int (nI 1))]) rfl ?_
  have hloop53 : ∀ x : Nat, x ≤ 10 → Z κ 0 0 (zuX (zuX σ 25 (fi n (fun c => nI x * (tf (zX σ 21) (zSc σ) (zLk σ) (zDr σ) true kd pa od a) c + (nI 10 - nI x) * (tf (zX σ 21) (zSc σ) (zLk σ) (zDr σ) true kd2 pa2 od a) c) (zX σ 25))) 26 (fi n (tf (zX σ 21) (zSc σ) (zLk σ) (zDr σ) true kd2 pa2 od a) (zX σ 26))) 53 [(0, .ref 0), (1, .int (nI i)), (2, .int (nI j)), (3, .ref q), (4, .ref q2), (5, .int (nI (ga (fun z => tO (pt (zX σ 21) (fun c => nI z * (tf (zX σ 21) (zSc σ) (zLk σ) (zDr σ) true kd pa od a) c + (nI 10 - nI z) * (tf (zX σ 21) (zSc σ) (zLk σ) (zDr σ) true kd2 pa2 od a) c)) n) x))), (6, .int ((fun z => tO (pt (zX σ 21) (fun c => nI z * (tf (zX σ 21) (zSc σ) (zLk σ) (zDr σ) true kd pa od a) c + (nI 10 - nI z) * (tf (zX σ 21) (zSc σ) (zLk σ) (zDr σ) true kd2 pa2 od a) c)) n) (ga (fun z => tO (pt (zX σ 21) (fun c => nI z * (tf (zX σ 21) (zSc σ) (zLk σ) (zDr σ) true kd pa od a) c + (nI 10 - nI z) * (tf (zX σ 21) (zSc σ) (zLk σ) (zDr σ) true kd2 pa2 od a) c)) n) x))), (7, .int (nI (x + 1)))] [] := by
    refine z_loop (fun x => 10 - x) (fun x ih hx => ?_)
    refine Z.iload B dX11_weights_53 (x := nI (x + 1)) rfl ?_
    refine Z.bipush B dX11_weights_55 (v := nI 10) rfl ?_
    refine Z.icmp_gtN B dX11_weights_57 (tgt := 95) rfl (by omega) (by omega) (fun h57 => ?_) (fun h57 => ?_)
    · skip
      obtain rfl : 10 = x := by omega
      refine Z.iload B dX11_weights_95 (x := nI (ga (fun z => tO (pt (zX σ 21) (fun c => nI z * (tf (zX σ 21) (zSc σ) (zLk σ) (zDr σ) true kd pa od a) c + (nI 10 - nI z) * (tf (zX σ 21) (zSc σ) (zLk σ) (zDr σ) true kd2 pa2 od a) c)) n) 10)) rfl ?_
      refine Z.iret B Rt dX11_weights_97 (ty := .int) rfl rfl (by decide) (by decide) ?_
      exact ⟨rfl, rfl⟩
    · skip
      refine Z.aload_n B dX11_weights_60 (v := .ref 0) rfl rfl ?_
      refine Z.getR (σ := (zuX (zuX σ 25 (fi n (fun c => nI x * (tf (zX σ 21) (zSc σ) (zLk σ) (zDr σ) true kd pa od a) c + (nI 10 - nI x) * (tf (zX σ 21) (zSc σ) (zLk σ) (zDr σ) true kd2 pa2 od a) c) (zX σ 25))) 26 (fi n (tf (zX σ 21) (zSc σ) (zLk σ) (zDr σ) true kd2 pa2 od a) (zX σ 26)))) B fX11_28_11 dX11_weights_61 (hl.n (k := 0) (by decide)) (hl.k (k := 0) (by decide)) (by decide) (j := 20) (hl.r (k := 0) (f := 2) (by decide) (by decide)) ?_
      refine Z.aload_n B dX11_weights_64 (v := .ref q) rfl rfl ?_
      refine Z.aload B dX11_weights_65 (v := .ref q2) rfl rfl ?_
      refine Z.iload B dX11_weights_67 (x := nI (x + 1)) rfl ?_
      refine Z.callVI (σ := (zuX (zuX σ 25 (fi n (fun c => nI x * (tf (zX σ 21) (zSc σ) (zLk σ) (zDr σ) true kd pa od a) c + (nI 10 - nI x) * (tf (zX σ 21) (zSc σ) (zLk σ) (zDr σ) true kd2 pa2 od a) c) (zX σ 25))) 26 (fi n (tf (zX σ 21) (zSc σ) (zLk σ) (zDr σ) true kd2 pa2 od a) (zX σ 26)))) B (M' := mX1_joinedTells) (as := [.ref q, .ref q2, .int (nI (x + 1))]) (st := []) (v := .int ((fun z => tO (pt (zX σ 21) (fun c => nI z * (tf (zX σ 21) (zSc σ) (zLk σ) (zDr σ) true kd pa od a) c + (nI 10 - nI z) * (tf (zX σ 21) (zSc σ) (zLk σ) (zDr σ) true kd2 pa2 od a) c)) n) (x + 1))) dX11_weights_69 wX1_joinedTells iX1_joinedTells sX1_joinedTells kX11_230 (hl.n (k := 20) (by decide)) (hl.k (k := 20) (by decide)) (by decide) rfl rfl (t_X1_joinedTells (σ := (zuX (zuX σ 25 (fi n (fun c => nI x * (tf (zX σ 21) (zSc σ) (zLk σ) (zDr σ) true kd pa od a) c + (nI 10 - nI x) * (tf (zX σ 21) (zSc σ) (zLk σ) (zDr σ) true kd2 pa2 od a) c) (zX σ 25))) 26 (fi n (tf (zX σ 21) (zSc σ) (zLk σ) (zDr σ) true kd2 pa2 od a) (zX σ 26)))) H ho ((hw.uX (by decide)).uX (by decide)) ((hw2.uX (by decide)).uX (by decide)) (x := x + 1)) rfl rfl (by decide) (by decide) (Nat.le_of_ble_eq_true rfl) (by decide) (by decide) ?_
      refine Z.eqσ (τ := (zuX (zuX σ 25 (fi n (fun c => nI (x + 1) * (tf (zX σ 21) (zSc σ) (zLk σ) (zDr σ) true kd pa od a) c + (nI 10 - nI (x + 1)) * (tf (zX σ 21) (zSc σ) (zLk σ) (zDr σ) true kd2 pa2 od a) c) (zX σ 25))) 26 (fi n (tf (zX σ 21) (zSc σ) (zLk σ) (zDr σ) true kd2 pa2 od a) (zX σ 26)))) (by rw [show zX (zuX (zuX σ 25 (fi n (fun c => nI x * (tf (zX σ 21) (zSc σ) (zLk σ) (zDr σ) true kd pa od a) c + (nI 10 - nI x) * (tf (zX σ 21) (zSc σ) (zLk σ) (zDr σ) true kd2 pa2 od a) c) (zX σ 25))) 26 (fi n (tf (zX σ 21) (zSc σ) (zLk σ) (zDr σ) true kd2 pa2 od a) (zX σ 26))) 25 = fi n (fun c => nI x * (tf (zX σ 21) (zSc σ) (zLk σ) (zDr σ) true kd pa od a) c + (nI 10 - nI x) * (tf (zX σ 21) (zSc σ) (zLk σ) (zDr σ) true kd2 pa2 od a) c) (zX σ 25) from rfl, show zX (zuX (zuX σ 25 (fi n (fun c => nI x * (tf (zX σ 21) (zSc σ) (zLk σ) (zDr σ) true kd pa od a) c + (nI 10 - nI x) * (tf (zX σ 21) (zSc σ) (zLk σ) (zDr σ) true kd2 pa2 od a) c) (zX σ 25))) 26 (fi n (tf (zX σ 21) (zSc σ) (zLk σ) (zDr σ) true kd2 pa2 od a) (zX σ 26))) 26 = fi n (tf (zX σ 21) (zSc σ) (zLk σ) (zDr σ) true kd2 pa2 od a) (zX σ 26) from rfl, fi_fi, fi_fi, zuX_sw (by decide), zuX_sw (by decide)]; try rfl) ?_
      refine Z.istore B dX11_weights_72 (by decide) (L' := [(0, .ref 0), (1, .int (nI i)), (2, .int (nI j)), (3, .ref q), (4, .ref q2), (5, .int (nI (ga (fun z => tO (pt (zX σ 21) (fun c => nI z * (tf (zX σ 21) (zSc σ) (zLk σ) (zDr σ) true kd pa od a) c + (nI 10 - nI z) * (tf (zX σ 21) (zSc σ) (zLk σ) (zDr σ) true kd2 pa2 od a) c)) n) x))), (6, .int ((fun z => tO (pt (zX σ 21) (fun c => nI z * (tf (zX σ 21) (zSc σ) (zLk σ) (zDr σ) true kd pa od a) c + (nI 10 - nI z) * (tf (zX σ 21) (zSc σ) (zLk σ) (zDr σ) true kd2 pa2 od a) c)) n) (ga (fun z => tO (pt (zX σ 21) (fun c => nI z * (tf (zX σ 21) (zSc σ) (zLk σ) (zDr σ) true kd pa od a) c + (nI 10 - nI z) * (tf (zX σ 21) (zSc σ) (zLk σ) (zDr σ) true kd2 pa2 od a) c)) n) x))), (7, .int (nI (x + 1))), (8, .int ((fun z => tO (pt (zX σ 21) (fun c => nI z * (tf (zX σ 21) (zSc σ) (zLk σ) (zDr σ) true kd pa od a) c + (nI 10 - nI z) * (tf (zX σ 21) (zSc σ) (zLk σ) (zDr σ) true kd2 pa2 od a) c)) n) (x + 1)))]) rfl ?_
      refine Z.iload B dX11_weights_74 (x := ((fun z => tO (pt (zX σ 21) (fun c => nI z * (tf (zX σ 21) (zSc σ) (zLk σ) (zDr σ) true kd pa od a) c + (nI 10 - nI z) * (tf (zX σ 21) (zSc σ) (zLk σ) (zDr σ) true kd2 pa2 od a) c)) n) (x + 1))) rfl ?_
      refine Z.iload B dX11_weights_76 (x := (fun z => tO (pt (zX σ 21) (fun c => nI z * (tf (zX σ 21) (zSc σ) (zLk σ) (zDr σ) true kd pa od a) c + (nI 10 - nI z) * (tf (zX σ 21) (zSc σ) (zLk σ) (zDr σ) true kd2 pa2 od a) c)) n) (ga (fun z => tO (pt (zX σ 21) (fun c => nI z * (tf (zX σ 21) (zSc σ) (zLk σ) (zDr σ) true kd pa od a) c + (nI 10 - nI z) * (tf (zX σ 21) (zSc σ) (zLk σ) (zDr σ) true kd2 pa2 od a) c)) n) x)) rfl ?_
      refine Z.icmp_le B dX11_weights_78 (tgt := 89) rfl (fun h78 => ?_) (fun h78 => ?_)
      · skip
        have h78 : ¬ (fun z => tO (pt (zX σ 21) (fun c => nI z * (tf (zX σ 21) (zSc σ) (zLk σ) (zDr σ) true kd pa od a) c + (nI 10 - nI z) * (tf (zX σ 21) (zSc σ) (zLk σ) (zDr σ) true kd2 pa2 od a) c)) n) (ga (fun z => tO (pt (zX σ 21) (fun c => nI z * (tf (zX σ 21) (zSc σ) (zLk σ) (zDr σ) true kd pa od a) c + (nI 10 - nI z) * (tf (zX σ 21) (zSc σ) (zLk σ) (zDr σ) true kd2 pa2 od a) c)) n) x) < (fun z => tO (pt (zX σ 21) (fun c => nI z * (tf (zX σ 21) (zSc σ) (zLk σ) (zDr σ) true kd pa od a) c + (nI 10 - nI z) * (tf (zX σ 21) (zSc σ) (zLk σ) (zDr σ) true kd2 pa2 od a) c)) n) (x + 1) := by rw [zlt_iff]; rw [zle_iff] at h78; omega
        refine Z.iincN B dX11_weights_89 (by decide) (a := x + 1) rfl (L' := [(0, .ref 0), (1, .int (nI i)), (2, .int (nI j)), (3, .ref q), (4, .ref q2), (5, .int (nI (ga (fun z => tO (pt (zX σ 21) (fun c => nI z * (tf (zX σ 21) (zSc σ) (zLk σ) (zDr σ) true kd pa od a) c + (nI 10 - nI z) * (tf (zX σ 21) (zSc σ) (zLk σ) (zDr σ) true kd2 pa2 od a) c)) n) x))), (6, .int ((fun z => tO (pt (zX σ 21) (fun c => nI z * (tf (zX σ 21) (zSc σ) (zLk σ) (zDr σ) true kd pa od a) c + (nI 10 - nI z) * (tf (zX σ 21) (zSc σ) (zLk σ) (zDr σ) true kd2 pa2 od a) c)) n) (ga (fun z => tO (pt (zX σ 21) (fun c => nI z * (tf (zX σ 21) (zSc σ) (zLk σ) (zDr σ) true kd pa od a) c + (nI 10 - nI z) * (tf (zX σ 21) (zSc σ) (zLk σ) (zDr σ) true kd2 pa2 od a) c)) n) x))), (7, .int (nI (x + 1 + 1))), (8, .int ((fun z => tO (pt (zX σ 21) (fun c => nI z * (tf (zX σ 21) (zSc σ) (zLk σ) (zDr σ) true kd pa od a) c + (nI 10 - nI z) * (tf (zX σ 21) (zSc σ) (zLk σ) (zDr σ) true kd2 pa2 od a) c)) n) (x + 1)))]) rfl ?_
        refine Z.goto B dX11_weights_92 (tgt := 53) rfl ?_
        refine Z.drop 8 (L' := [(0, .ref 0), (1, .int (nI i)), (2, .int (nI j)), (3, .ref q), (4, .ref q2), (5, .int (nI (ga (fun z => tO (pt (zX σ 21) (fun c => nI z * (tf (zX σ 21) (zSc σ) (zLk σ) (zDr σ) true kd pa od a) c + (nI 10 - nI z) * (tf (zX σ 21) (zSc σ) (zLk σ) (zDr σ) true kd2 pa2 od a) c)) n) x))), (6, .int ((fun z => tO (pt (zX σ 21) (fun c => nI z * (tf (zX σ 21) (zSc σ) (zLk σ) (zDr σ) true kd pa od a) c + (nI 10 - nI z) * (tf (zX σ 21) (zSc σ) (zLk σ) (zDr σ) true kd2 pa2 od a) c)) n) (ga (fun z => tO (pt (zX σ 21) (fun c => nI z * (tf (zX σ 21) (zSc σ) (zLk σ) (zDr σ) true kd pa od a) c + (nI 10 - nI z) * (tf (zX σ 21) (zSc σ) (zLk σ) (zDr σ) true kd2 pa2 od a) c)) n) x))), (7, .int (nI (x + 1 + 1)))]) rfl ?_
        have e := ih (x + 1) (by omega) (by omega)
        simp only [ga] at e
        first | (rw [if_pos h78] at e; exact e) | (rw [if_neg h78] at e; exact e)
      · skip
        have h78 : (fun z => tO (pt (zX σ 21) (fun c => nI z * (tf (zX σ 21) (zSc σ) (zLk σ) (zDr σ) true kd pa od a) c + (nI 10 - nI z) * (tf (zX σ 21) (zSc σ) (zLk σ) (zDr σ) true kd2 pa2 od a) c)) n) (ga (fun z => tO (pt (zX σ 21) (fun c => nI z * (tf (zX σ 21) (zSc σ) (zLk σ) (zDr σ) true kd pa od a) c + (nI 10 - nI z) * (tf (zX σ 21) (zSc σ) (zLk σ) (zDr σ) true kd2 pa2 od a) c)) n) x) < (fun z => tO (pt (zX σ 21) (fun c => nI z * (tf (zX σ 21) (zSc σ) (zLk σ) (zDr σ) true kd pa od a) c + (nI 10 - nI z) * (tf (zX σ 21) (zSc σ) (zLk σ) (zDr σ) true kd2 pa2 od a) c)) n) (x + 1) := by rw [zlt_iff]; rw [zle_iff] at h78; omega
        refine Z.iload B dX11_weights_81 (x := nI (x + 1)) rfl ?_
        refine Z.istore B dX11_weights_83 (by decide) (L' := [(0, .ref 0), (1, .int (nI i)), (2, .int (nI j)), (3, .ref q), (4, .ref q2), (5, .int (nI (x + 1))), (6, .int ((fun z => tO (pt (zX σ 21) (fun c => nI z * (tf (zX σ 21) (zSc σ) (zLk σ) (zDr σ) true kd pa od a) c + (nI 10 - nI z) * (tf (zX σ 21) (zSc σ) (zLk σ) (zDr σ) true kd2 pa2 od a) c)) n) (ga (fun z => tO (pt (zX σ 21) (fun c => nI z * (tf (zX σ 21) (zSc σ) (zLk σ) (zDr σ) true kd pa od a) c + (nI 10 - nI z) * (tf (zX σ 21) (zSc σ) (zLk σ) (zDr σ) true kd2 pa2 od a) c)) n) x))), (7, .int (nI (x + 1))), (8, .int ((fun z => tO (pt (zX σ 21) (fun c => nI z * (tf (zX σ 21) (zSc σ) (zLk σ) (zDr σ) true kd pa od a) c + (nI 10 - nI z) * (tf (zX σ 21) (zSc σ) (zLk σ) (zDr σ) true kd2 pa2 od a) c)) n) (x + 1)))]) rfl ?_
        refine Z.iload B dX11_weights_85 (x := ((fun z => tO (pt (zX σ 21) (fun c => nI z * (tf (zX σ 21) (zSc σ) (zLk σ) (zDr σ) true kd pa od a) c + (nI 10 - nI z) * (tf (zX σ 21) (zSc σ) (zLk σ) (zDr σ) true kd2 pa2 od a) c)) n) (x + 1))) rfl ?_
        refine Z.istore B dX11_weights_87 (by decide) (L' := [(0, .ref 0), (1, .int (nI i)), (2, .int (nI j)), (3, .ref q), (4, .ref q2), (5, .int (nI (x + 1))), (6, .int ((fun z => tO (pt (zX σ 21) (fun c => nI z * (tf (zX σ 21) (zSc σ) (zLk σ) (zDr σ) true kd pa od a) c + (nI 10 - nI z) * (tf (zX σ 21) (zSc σ) (zLk σ) (zDr σ) true kd2 pa2 od a) c)) n) (x + 1))), (7, .int (nI (x + 1))), (8, .int ((fun z => tO (pt (zX σ 21) (fun c => nI z * (tf (zX σ 21) (zSc σ) (zLk σ) (zDr σ) true kd pa od a) c + (nI 10 - nI z) * (tf (zX σ 21) (zSc σ) (zLk σ) (zDr σ) true kd2 pa2 od a) c)) n) (x + 1)))]) rfl ?_
        refine Z.iincN B dX11_weights_89 (by decide) (a := x + 1) rfl (L' := [(0, .ref 0), (1, .int (nI i)), (2, .int (nI j)), (3, .ref q), (4, .ref q2), (5, .int (nI (x + 1))), (6, .int ((fun z => tO (pt (zX σ 21) (fun c => nI z * (tf (zX σ 21) (zSc σ) (zLk σ) (zDr σ) true kd pa od a) c + (nI 10 - nI z) * (tf (zX σ 21) (zSc σ) (zLk σ) (zDr σ) true kd2 pa2 od a) c)) n) (x + 1))), (7, .int (nI (x + 1 + 1))), (8, .int ((fun z => tO (pt (zX σ 21) (fun c => nI z * (tf (zX σ 21) (zSc σ) (zLk σ) (zDr σ) true kd pa od a) c + (nI 10 - nI z) * (tf (zX σ 21) (zSc σ) (zLk σ) (zDr σ) true kd2 pa2 od a) c)) n) (x + 1)))]) rfl ?_
        refine Z.goto B dX11_weights_92 (tgt := 53) rfl ?_
        refine Z.drop 8 (L' := [(0, .ref 0), (1, .int (nI i)), (2, .int (nI j)), (3, .ref q), (4, .ref q2), (5, .int (nI (x + 1))), (6, .int ((fun z => tO (pt (zX σ 21) (fun c => nI z * (tf (zX σ 21) (zSc σ) (zLk σ) (zDr σ) true kd pa od a) c + (nI 10 - nI z) * (tf (zX σ 21) (zSc σ) (zLk σ) (zDr σ) true kd2 pa2 od a) c)) n) (x + 1))), (7, .int (nI (x + 1 + 1)))]) rfl ?_
        have e := ih (x + 1) (by omega) (by omega)
        simp only [ga] at e
        first | (rw [if_pos h78] at e; exact e) | (rw [if_neg h78] at e; exact e)
  exact hloop53 0 (by decide)

theorem t_K_heads_1 {σ : zSt} (hl : Lay σ) {n a y : Nat} (H : zHd σ n a y) {b : Int32} (hb : zOut b a)  : Dt mX11_heads [.ref 0, .int b] σ (some (.int (-nI 1))) (zuX σ 43 (upd (zX σ 43) 1 (zX σ 43 1 + nI 1))) := by
  obtain ⟨-, hn, hn8, ha, ha4, hy, hy8⟩ := id H
  refine Dt.of (by decide) (Nat.le_of_ble_eq_true rfl) fun κ B Rt => ?_
  show Z κ 0 0 σ 0 [(0, .ref 0), (1, .int b)] []
  refine Z.aload_n B dX11_heads_0 (v := .ref 0) rfl rfl ?_
  refine Z.getR (σ := σ) B fX11_28_11 dX11_heads_1 (hl.n (k := 0) (by decide)) (hl.k (k := 0) (by decide)) (by decide) (j := 20) (hl.r (k := 0) (f := 2) (by decide) (by decide)) ?_
  refine Z.iload_n B dX11_heads_4 (x := b) rfl ?_
  refine Z.callVI (σ := σ) B (M' := mX1_hasAsker) (as := [.int b]) (st := []) (v := .int (nI 0)) dX11_heads_5 wX1_hasAsker iX1_hasAsker sX1_hasAsker kX11_158 (hl.n (k := 20) (by decide)) (hl.k (k := 20) (by decide)) (by decide) rfl rfl (t_X1_hasAsker_out (σ := σ) H hb) rfl rfl (by decide) (by decide) (Nat.le_of_ble_eq_true rfl) (by decide) (by decide) ?_
  refine Z.if_eqN B dX11_heads_8 (tgt := 22) rfl (by omega) (fun h8 => ?_) (fun h8 => by exfalso; first | omega | contradiction | simp_all)
  refine Z.aload_n B dX11_heads_22 (v := .ref 0) rfl rfl ?_
  refine Z.iconst B dX11_heads_23 (v := nI 1) rfl ?_
  refine Z.callVI (σ := σ) B (M' := mX11_refuse) (as := [.int (nI 1)]) (st := []) (v := .int (-nI 1)) dX11_heads_24 wX11_refuse iX11_refuse sX11_refuse kX11_63 (hl.n (k := 0) (by decide)) (hl.k (k := 0) (by decide)) (by decide) rfl rfl (t_X11_refuse (σ := σ) hl (b := 1) (by decide)) rfl rfl (by decide) (by decide) (Nat.le_of_ble_eq_true rfl) (by decide) (by decide) ?_
  refine Z.eqσ (τ := (zuX σ 43 (upd (zX σ 43) 1 (zX σ 43 1 + nI 1)))) rfl ?_
  refine Z.iret B Rt dX11_heads_27 (ty := .int) rfl rfl (by decide) (by decide) ?_
  exact ⟨rfl, rfl⟩

theorem t_K_heads_0 {σ : zSt} (hl : Lay σ) {n a y : Nat} (H : zHd σ n a y) {od : Nat → Nat} (ho : zOd σ a od) {b p : Nat} (hp : p < a) (hpb : od p = b) (hmin : ∀ j, j < p → od j ≠ b)  : Dt mX11_heads [.ref 0, .int (nI b)] σ (some (.int (hH (nI 1000 * (if p = 0 then nI 10 else nI 10 - zDr σ b)) (dd (zDr σ) od) p (a - p - 1)))) σ := by
  obtain ⟨-, hn, hn8, ha, ha4, hy, hy8⟩ := id H
  refine Dt.of (by decide) (Nat.le_of_ble_eq_true rfl) fun κ B Rt => ?_
  show Z κ 0 0 σ 0 [(0, .ref 0), (1, .int (nI b))] []
  have hb : b < a := hpb ▸ (ho p hp).2
  refine Z.aload_n B dX11_heads_0 (v := .ref 0) rfl rfl ?_
  refine Z.getR (σ := σ) B fX11_28_11 dX11_heads_1 (hl.n (k := 0) (by decide)) (hl.k (k := 0) (by decide)) (by decide) (j := 20) (hl.r (k := 0) (f := 2) (by decide) (by decide)) ?_
  refine Z.iload_n B dX11_heads_4 (x := nI b) rfl ?_
  refine Z.callVI (σ := σ) B (M' := mX1_hasAsker) (as := [.int (nI b)]) (st := []) (v := .int (nI 1)) dX11_heads_5 wX1_hasAsker iX1_hasAsker sX1_hasAsker kX11_158 (hl.n (k := 20) (by decide)) (hl.k (k := 20) (by decide)) (by decide) rfl rfl (t_X1_hasAsker_in (σ := σ) H hb) rfl rfl (by decide) (by decide) (Nat.le_of_ble_eq_true rfl) (by decide) (by decide) ?_
  refine Z.if_eqN B dX11_heads_8 (tgt := 22) rfl (by omega) (fun h8 => by exfalso; first | omega | contradiction | simp_all) (fun h8 => ?_)
  refine Z.aload_n B dX11_heads_11 (v := .ref 0) rfl rfl ?_
  refine Z.getR (σ := σ) B fX11_28_11 dX11_heads_12 (hl.n (k := 0) (by decide)) (hl.k (k := 0) (by decide)) (by decide) (j := 20) (hl.r (k := 0) (f := 2) (by decide) (by decide)) ?_
  refine Z.iload_n B dX11_heads_15 (x := nI b) rfl ?_
  refine Z.callVI (σ := σ) B (M' := mX1_headsOf) (as := [.int (nI b)]) (st := []) (v := .int (hH (nI 1000 * (if p = 0 then nI 10 else nI 10 - zDr σ b)) (dd (zDr σ) od) p (a - p - 1))) dX11_heads_16 wX1_headsOf iX1_headsOf sX1_headsOf kX11_234 (hl.n (k := 20) (by decide)) (hl.k (k := 20) (by decide)) (by decide) rfl rfl (t_X1_headsOf (σ := σ) H ho hp hpb hmin) rfl rfl (by decide) (by decide) (Nat.le_of_ble_eq_true rfl) (by decide) (by decide) ?_
  refine Z.goto B dX11_heads_19 (tgt := 27) rfl ?_
  refine Z.iret B Rt dX11_heads_27 (ty := .int) rfl rfl (by decide) (by decide) ?_
  exact ⟨rfl, rfl⟩

theorem t_K_agree_1 {σ : zSt} (hl : Lay σ) {n a y : Nat} (H : zHd σ n a y) {i : Int32} (hi : zOut i y)  : Dt mX11_agree [.ref 0, .int i] σ (some (.int (-nI 1))) (zuX σ 43 (upd (zX σ 43) 1 (zX σ 43 1 + nI 1))) := by
  obtain ⟨-, hn, hn8, ha, ha4, hy, hy8⟩ := id H
  refine Dt.of (by decide) (Nat.le_of_ble_eq_true rfl) fun κ B Rt => ?_
  show Z κ 0 0 σ 0 [(0, .ref 0), (1, .int i)] []
  refine Z.aload_n B dX11_agree_0 (v := .ref 0) rfl rfl ?_
  refine Z.getR (σ := σ) B fX11_28_11 dX11_agree_1 (hl.n (k := 0) (by decide)) (hl.k (k := 0) (by decide)) (by decide) (j := 20) (hl.r (k := 0) (f := 2) (by decide) (by decide)) ?_
  refine Z.iload_n B dX11_agree_4 (x := i) rfl ?_
  refine Z.callVI (σ := σ) B (M' := mX1_wayAt) (as := [.int i]) (st := []) (v := .null) dX11_agree_5 wX1_wayAt iX1_wayAt sX1_wayAt kX11_102 (hl.n (k := 20) (by decide)) (hl.k (k := 20) (by decide)) (by decide) rfl rfl (t_X1_wayAt_out (σ := σ) H hi) rfl rfl (by decide) (by decide) (Nat.le_of_ble_eq_true rfl) (by decide) (by decide) ?_
  refine Z.astore_n B dX11_agree_8 (by decide) rfl (L' := [(0, .ref 0), (1, .int i), (2, .null)]) rfl ?_
  refine Z.aload_n B dX11_agree_9 (v := .null) rfl rfl ?_
  refine Z.ifnonnull_n B dX11_agree_10 ?_
  refine Z.aload_n B dX11_agree_13 (v := .ref 0) rfl rfl ?_
  refine Z.iconst B dX11_agree_14 (v := nI 1) rfl ?_
  refine Z.callVI (σ := σ) B (M' := mX11_refuse) (as := [.int (nI 1)]) (st := []) (v := .int (-nI 1)) dX11_agree_15 wX11_refuse iX11_refuse sX11_refuse kX11_63 (hl.n (k := 0) (by decide)) (hl.k (k := 0) (by decide)) (by decide) rfl rfl (t_X11_refuse (σ := σ) hl (b := 1) (by decide)) rfl rfl (by decide) (by decide) (Nat.le_of_ble_eq_true rfl) (by decide) (by decide) ?_
  refine Z.eqσ (τ := (zuX σ 43 (upd (zX σ 43) 1 (zX σ 43 1 + nI 1)))) rfl ?_
  refine Z.iret B Rt dX11_agree_18 (ty := .int) rfl rfl (by decide) (by decide) ?_
  exact ⟨rfl, rfl⟩

theorem t_K_agree_5 {σ : zSt} (hl : Lay σ) {n a y : Nat} (H : zHd σ n a y) {i q kd pa num : Nat} (hi : i < y) (hq : zR σ 24 i = some q) (hw : zWo σ q kd pa num) (h0 : n = 0) : Dt mX11_agree [.ref 0, .int (nI i)] σ (some (.int (-nI 5))) (zuX σ 43 (upd (zX σ 43) 5 (zX σ 43 5 + nI 1))) := by
  obtain ⟨-, hn, hn8, ha, ha4, hy, hy8⟩ := id H
  refine Dt.of (by decide) (Nat.le_of_ble_eq_true rfl) fun κ B Rt => ?_
  show Z κ 0 0 σ 0 [(0, .ref 0), (1, .int (nI i))] []
  refine Z.aload_n B dX11_agree_0 (v := .ref 0) rfl rfl ?_
  refine Z.getR (σ := σ) B fX11_28_11 dX11_agree_1 (hl.n (k := 0) (by decide)) (hl.k (k := 0) (by decide)) (by decide) (j := 20) (hl.r (k := 0) (f := 2) (by decide) (by decide)) ?_
  refine Z.iload_n B dX11_agree_4 (x := nI i) rfl ?_
  refine Z.callVI (σ := σ) B (M' := mX1_wayAt) (as := [.int (nI i)]) (st := []) (v := .ref q) dX11_agree_5 wX1_wayAt iX1_wayAt sX1_wayAt kX11_102 (hl.n (k := 20) (by decide)) (hl.k (k := 20) (by decide)) (by decide) rfl rfl (t_X1_wayAt_in (σ := σ) H hi hq) rfl rfl (by decide) (by decide) (Nat.le_of_ble_eq_true rfl) (by decide) (by decide) ?_
  refine Z.astore_n B dX11_agree_8 (by decide) rfl (L' := [(0, .ref 0), (1, .int (nI i)), (2, .ref q)]) rfl ?_
  refine Z.aload_n B dX11_agree_9 (v := .ref q) rfl rfl ?_
  refine Z.ifnonnull_r B dX11_agree_10 (tgt := 19) rfl ?_
  refine Z.aload_n B dX11_agree_19 (v := .ref 0) rfl rfl ?_
  refine Z.getR (σ := σ) B fX11_28_11 dX11_agree_20 (hl.n (k := 0) (by decide)) (hl.k (k := 0) (by decide)) (by decide) (j := 20) (hl.r (k := 0) (f := 2) (by decide) (by decide)) ?_
  refine Z.iconst B dX11_agree_23 (v := nI 0) rfl ?_
  refine Z.callVI (σ := σ) B (M' := mX1_hasComer) (as := [.int (nI 0)]) (st := []) (v := .int (nI 0)) dX11_agree_24 wX1_hasComer iX1_hasComer sX1_hasComer kX11_152 (hl.n (k := 20) (by decide)) (hl.k (k := 20) (by decide)) (by decide) rfl rfl (t_X1_hasComer_far (σ := σ) H (c := nI 0) (by decide) (by rw [h0]; decide)) rfl rfl (by decide) (by decide) (Nat.le_of_ble_eq_true rfl) (by decide) (by decide) ?_
  refine Z.if_neN B dX11_agree_27 (tgt := 36) rfl (by omega) (fun h27 => by exfalso; first | omega | contradiction | simp_all) (fun h27 => ?_)
  refine Z.aload_n B dX11_agree_30 (v := .ref 0) rfl rfl ?_
  refine Z.iconst B dX11_agree_31 (v := nI 5) rfl ?_
  refine Z.callVI (σ := σ) B (M' := mX11_refuse) (as := [.int (nI 5)]) (st := []) (v := .int (-nI 5)) dX11_agree_32 wX11_refuse iX11_refuse sX11_refuse kX11_63 (hl.n (k := 0) (by decide)) (hl.k (k := 0) (by decide)) (by decide) rfl rfl (t_X11_refuse (σ := σ) hl (b := 5) (by decide)) rfl rfl (by decide) (by decide) (Nat.le_of_ble_eq_true rfl) (by decide) (by decide) ?_
  refine Z.eqσ (τ := (zuX σ 43 (upd (zX σ 43) 5 (zX σ 43 5 + nI 1)))) rfl ?_
  refine Z.iret B Rt dX11_agree_35 (ty := .int) rfl rfl (by decide) (by decide) ?_
  exact ⟨rfl, rfl⟩

theorem t_K_agree_0 {σ : zSt} (hl : Lay σ) {n a y : Nat} (H : zHd σ n a y) {od : Nat → Nat} (ho : zOd σ a od) {i q kd pa num : Nat} (hi : i < y) (hq : zR σ 24 i = some q) (hw : zWo σ q kd pa num) (h0 : 0 < n) : Dt mX11_agree [.ref 0, .int (nI i)] σ (some (.int (ct (fun b => decide (gI ((fun b c => shW (zX σ 21) (zSc σ) (zLk σ) kd pa b c) b) n = gI (tf (zX σ 21) (zSc σ) (zLk σ) (zDr σ) false kd pa od a) n)) a))) (zuX σ 25 (fl (fun b c => shW (zX σ 21) (zSc σ) (zLk σ) kd pa b c) n (fi n (tf (zX σ 21) (zSc σ) (zLk σ) (zDr σ) false kd pa od a) (zX σ 25)) a)) := by
  obtain ⟨-, hn, hn8, ha, ha4, hy, hy8⟩ := id H
  refine Dt.of (by decide) (Nat.le_of_ble_eq_true rfl) fun κ B Rt => ?_
  show Z κ 0 0 σ 0 [(0, .ref 0), (1, .int (nI i))] []
  refine Z.aload_n B dX11_agree_0 (v := .ref 0) rfl rfl ?_
  refine Z.getR (σ := σ) B fX11_28_11 dX11_agree_1 (hl.n (k := 0) (by decide)) (hl.k (k := 0) (by decide)) (by decide) (j := 20) (hl.r (k := 0) (f := 2) (by decide) (by decide)) ?_
  refine Z.iload_n B dX11_agree_4 (x := nI i) rfl ?_
  refine Z.callVI (σ := σ) B (M' := mX1_wayAt) (as := [.int (nI i)]) (st := []) (v := .ref q) dX11_agree_5 wX1_wayAt iX1_wayAt sX1_wayAt kX11_102 (hl.n (k := 20) (by decide)) (hl.k (k := 20) (by decide)) (by decide) rfl rfl (t_X1_wayAt_in (σ := σ) H hi hq) rfl rfl (by decide) (by decide) (Nat.le_of_ble_eq_true rfl) (by decide) (by decide) ?_
  refine Z.astore_n B dX11_agree_8 (by decide) rfl (L' := [(0, .ref 0), (1, .int (nI i)), (2, .ref q)]) rfl ?_
  refine Z.aload_n B dX11_agree_9 (v := .ref q) rfl rfl ?_
  refine Z.ifnonnull_r B dX11_agree_10 (tgt := 19) rfl ?_
  refine Z.aload_n B dX11_agree_19 (v := .ref 0) rfl rfl ?_
  refine Z.getR (σ := σ) B fX11_28_11 dX11_agree_20 (hl.n (k := 0) (by decide)) (hl.k (k := 0) (by decide)) (by decide) (j := 20) (hl.r (k := 0) (f := 2) (by decide) (by decide)) ?_
  refine Z.iconst B dX11_agree_23 (v := nI 0) rfl ?_
  refine Z.callVI (σ := σ) B (M' := mX1_hasComer) (as := [.int (nI 0)]) (st := []) (v := .int (nI 1)) dX11_agree_24 wX1_hasComer iX1_hasComer sX1_hasComer kX11_152 (hl.n (k := 20) (by decide)) (hl.k (k := 20) (by decide)) (by decide) rfl rfl (t_X1_hasComer_in (σ := σ) H h0) rfl rfl (by decide) (by decide) (Nat.le_of_ble_eq_true rfl) (by decide) (by decide) ?_
  refine Z.if_neN B dX11_agree_27 (tgt := 36) rfl (by omega) (fun h27 => ?_) (fun h27 => by exfalso; first | omega | contradiction | simp_all)
  refine Z.aload_n B dX11_agree_36 (v := .ref 0) rfl rfl ?_
  refine Z.getR (σ := σ) B fX11_28_11 dX11_agree_37 (hl.n (k := 0) (by decide)) (hl.k (k := 0) (by decide)) (by decide) (j := 20) (hl.r (k := 0) (f := 2) (by decide) (by decide)) ?_
  refine Z.aload_n B dX11_agree_40 (v := .ref q) rfl rfl ?_
  refine Z.aload_n B dX11_agree_41 (v := .ref 0) rfl rfl ?_
  refine Z.getR (σ := σ) B fX11_28_11 dX11_agree_42 (hl.n (k := 0) (by decide)) (hl.k (k := 0) (by decide)) (by decide) (j := 20) (hl.r (k := 0) (f := 2) (by decide) (by decide)) ?_
  refine Z.aload_n B dX11_agree_45 (v := .ref q) rfl rfl ?_
  refine Z.iconst B dX11_agree_46 (v := nI 0) rfl ?_
  have efalse : nI 0 = zb false := rfl
  refine Z.callVI (σ := σ) B (M' := mX1_takenBy) (as := [.ref q, .int (zb false)]) (st := [.ref q, .ref 20]) (v := .int (gI (tf (zX σ 21) (zSc σ) (zLk σ) (zDr σ) false kd pa od a) n)) dX11_agree_47 wX1_takenBy iX1_takenBy sX1_takenBy kX11_214 (hl.n (k := 20) (by decide)) (hl.k (k := 20) (by decide)) (by decide) rfl rfl (t_X1_takenBy (σ := σ) H ho hw (sl := false)) rfl rfl (by decide) (by decide) (Nat.le_of_ble_eq_true rfl) (by decide) (by decide) ?_
  refine Z.eqσ (τ := (zuX σ 25 (fi n (tf (zX σ 21) (zSc σ) (zLk σ) (zDr σ) false kd pa od a) (zX σ 25)))) rfl ?_
  refine Z.callVI (σ := (zuX σ 25 (fi n (tf (zX σ 21) (zSc σ) (zLk σ) (zDr σ) false kd pa od a) (zX σ 25)))) B (M' := mX1_agreeing) (as := [.ref q, .int (gI (tf (zX σ 21) (zSc σ) (zLk σ) (zDr σ) false kd pa od a) n)]) (st := []) (v := .int (ct (fun b => decide (gI ((fun b c => shW (zX σ 21) (zSc σ) (zLk σ) kd pa b c) b) n = gI (tf (zX σ 21) (zSc σ) (zLk σ) (zDr σ) false kd pa od a) n)) a)) dX11_agree_50 wX1_agreeing iX1_agreeing sX1_agreeing kX11_237 (hl.n (k := 20) (by decide)) (hl.k (k := 20) (by decide)) (by decide) rfl rfl (t_X1_agreeing (σ := (zuX σ 25 (fi n (tf (zX σ 21) (zSc σ) (zLk σ) (zDr σ) false kd pa od a) (zX σ 25)))) H (hw.uX (by decide))) rfl rfl (by decide) (by decide) (Nat.le_of_ble_eq_true rfl) (by decide) (by decide) ?_
  refine Z.eqσ (τ := (zuX σ 25 (fl (fun b c => shW (zX σ 21) (zSc σ) (zLk σ) kd pa b c) n (fi n (tf (zX σ 21) (zSc σ) (zLk σ) (zDr σ) false kd pa od a) (zX σ 25)) a))) (by rw [zX_self, zuX_uX]; rfl) ?_
  refine Z.iret B Rt dX11_agree_53 (ty := .int) rfl rfl (by decide) (by decide) ?_
  exact ⟨rfl, rfl⟩

theorem t_K_wrong_1 {σ : zSt} (hl : Lay σ) {n a y : Nat} (H : zHd σ n a y) {i : Int32} (hi : zOut i y) {sl : Bool} : Dt mX11_wrong [.ref 0, .int i, .int (zb sl)] σ (some (.int (-nI 1))) (zuX σ 43 (upd (zX σ 43) 1 (zX σ 43 1 + nI 1))) := by
  obtain ⟨-, hn, hn8, ha, ha4, hy, hy8⟩ := id H
  refine Dt.of (by decide) (Nat.le_of_ble_eq_true rfl) fun κ B Rt => ?_
  show Z κ 0 0 σ 0 [(0, .ref 0), (1, .int i), (2, .int (zb sl))] []
  refine Z.aload_n B dX11_wrong_0 (v := .ref 0) rfl rfl ?_
  refine Z.getR (σ := σ) B fX11_28_11 dX11_wrong_1 (hl.n (k := 0) (by decide)) (hl.k (k := 0) (by decide)) (by decide) (j := 20) (hl.r (k := 0) (f := 2) (by decide) (by decide)) ?_
  refine Z.iload_n B dX11_wrong_4 (x := i) rfl ?_
  refine Z.callVI (σ := σ) B (M' := mX1_wayAt) (as := [.int i]) (st := []) (v := .null) dX11_wrong_5 wX1_wayAt iX1_wayAt sX1_wayAt kX11_102 (hl.n (k := 20) (by decide)) (hl.k (k := 20) (by decide)) (by decide) rfl rfl (t_X1_wayAt_out (σ := σ) H hi) rfl rfl (by decide) (by decide) (Nat.le_of_ble_eq_true rfl) (by decide) (by decide) ?_
  refine Z.astore_n B dX11_wrong_8 (by decide) rfl (L' := [(0, .ref 0), (1, .int i), (2, .int (zb sl)), (3, .null)]) rfl ?_
  refine Z.aload_n B dX11_wrong_9 (v := .null) rfl rfl ?_
  refine Z.ifnonnull_n B dX11_wrong_10 ?_
  refine Z.aload_n B dX11_wrong_13 (v := .ref 0) rfl rfl ?_
  refine Z.iconst B dX11_wrong_14 (v := nI 1) rfl ?_
  refine Z.callVI (σ := σ) B (M' := mX11_refuse) (as := [.int (nI 1)]) (st := []) (v := .int (-nI 1)) dX11_wrong_15 wX11_refuse iX11_refuse sX11_refuse kX11_63 (hl.n (k := 0) (by decide)) (hl.k (k := 0) (by decide)) (by decide) rfl rfl (t_X11_refuse (σ := σ) hl (b := 1) (by decide)) rfl rfl (by decide) (by decide) (Nat.le_of_ble_eq_true rfl) (by decide) (by decide) ?_
  refine Z.eqσ (τ := (zuX σ 43 (upd (zX σ 43) 1 (zX σ 43 1 + nI 1)))) rfl ?_
  refine Z.iret B Rt dX11_wrong_18 (ty := .int) rfl rfl (by decide) (by decide) ?_
  exact ⟨rfl, rfl⟩

theorem t_K_wrong_5 {σ : zSt} (hl : Lay σ) {n a y : Nat} (H : zHd σ n a y) {i q kd pa num : Nat} (hi : i < y) (hq : zR σ 24 i = some q) (hw : zWo σ q kd pa num) {sl : Bool} (h0 : n = 0) : Dt mX11_wrong [.ref 0, .int (nI i), .int (zb sl)] σ (some (.int (-nI 5))) (zuX σ 43 (upd (zX σ 43) 5 (zX σ 43 5 + nI 1))) := by
  obtain ⟨-, hn, hn8, ha, ha4, hy, hy8⟩ := id H
  refine Dt.of (by decide) (Nat.le_of_ble_eq_true rfl) fun κ B Rt => ?_
  show Z κ 0 0 σ 0 [(0, .ref 0), (1, .int (nI i)), (2, .int (zb sl))] []
  refine Z.aload_n B dX11_wrong_0 (v := .ref 0) rfl rfl ?_
  refine Z.getR (σ := σ) B fX11_28_11 dX11_wrong_1 (hl.n (k := 0) (by decide)) (hl.k (k := 0) (by decide)) (by decide) (j := 20) (hl.r (k := 0) (f := 2) (by decide) (by decide)) ?_
  refine Z.iload_n B dX11_wrong_4 (x := nI i) rfl ?_
  refine Z.callVI (σ := σ) B (M' := mX1_wayAt) (as := [.int (nI i)]) (st := []) (v := .ref q) dX11_wrong_5 wX1_wayAt iX1_wayAt sX1_wayAt kX11_102 (hl.n (k := 20) (by decide)) (hl.k (k := 20) (by decide)) (by decide) rfl rfl (t_X1_wayAt_in (σ := σ) H hi hq) rfl rfl (by decide) (by decide) (Nat.le_of_ble_eq_true rfl) (by decide) (by decide) ?_
  refine Z.astore_n B dX11_wrong_8 (by decide) rfl (L' := [(0, .ref 0), (1, .int (nI i)), (2, .int (zb sl)), (3, .ref q)]) rfl ?_
  refine Z.aload_n B dX11_wrong_9 (v := .ref q) rfl rfl ?_
  refine Z.ifnonnull_r B dX11_wrong_10 (tgt := 19) rfl ?_
  refine Z.aload_n B dX11_wrong_19 (v := .ref 0) rfl rfl ?_
  refine Z.getR (σ := σ) B fX11_28_11 dX11_wrong_20 (hl.n (k := 0) (by decide)) (hl.k (k := 0) (by decide)) (by decide) (j := 20) (hl.r (k := 0) (f := 2) (by decide) (by decide)) ?_
  refine Z.iconst B dX11_wrong_23 (v := nI 0) rfl ?_
  refine Z.callVI (σ := σ) B (M' := mX1_hasComer) (as := [.int (nI 0)]) (st := []) (v := .int (nI 0)) dX11_wrong_24 wX1_hasComer iX1_hasComer sX1_hasComer kX11_152 (hl.n (k := 20) (by decide)) (hl.k (k := 20) (by decide)) (by decide) rfl rfl (t_X1_hasComer_far (σ := σ) H (c := nI 0) (by decide) (by rw [h0]; decide)) rfl rfl (by decide) (by decide) (Nat.le_of_ble_eq_true rfl) (by decide) (by decide) ?_
  refine Z.if_neN B dX11_wrong_27 (tgt := 36) rfl (by omega) (fun h27 => by exfalso; first | omega | contradiction | simp_all) (fun h27 => ?_)
  refine Z.aload_n B dX11_wrong_30 (v := .ref 0) rfl rfl ?_
  refine Z.iconst B dX11_wrong_31 (v := nI 5) rfl ?_
  refine Z.callVI (σ := σ) B (M' := mX11_refuse) (as := [.int (nI 5)]) (st := []) (v := .int (-nI 5)) dX11_wrong_32 wX11_refuse iX11_refuse sX11_refuse kX11_63 (hl.n (k := 0) (by decide)) (hl.k (k := 0) (by decide)) (by decide) rfl rfl (t_X11_refuse (σ := σ) hl (b := 5) (by decide)) rfl rfl (by decide) (by decide) (Nat.le_of_ble_eq_true rfl) (by decide) (by decide) ?_
  refine Z.eqσ (τ := (zuX σ 43 (upd (zX σ 43) 5 (zX σ 43 5 + nI 1)))) rfl ?_
  refine Z.iret B Rt dX11_wrong_35 (ty := .int) rfl rfl (by decide) (by decide) ?_
  exact ⟨rfl, rfl⟩

theorem t_K_wrong_0 {σ : zSt} (hl : Lay σ) {n a y : Nat} (H : zHd σ n a y) {od : Nat → Nat} (ho : zOd σ a od) {i q kd pa num : Nat} (hi : i < y) (hq : zR σ 24 i = some q) (hw : zWo σ q kd pa num) {sl : Bool} (h0 : 0 < n) : Dt mX11_wrong [.ref 0, .int (nI i), .int (zb sl)] σ (some (.int (cn (zX σ 21) (ga (fun c => cn (zX σ 21) c 6) (n - 1)) 6 - cn (zX σ 21) (ga (tf (zX σ 21) (zSc σ) (zLk σ) (zDr σ) sl kd pa od a) (n - 1)) 6))) (zuX σ 25 (fi n (tf (zX σ 21) (zSc σ) (zLk σ) (zDr σ) sl kd pa od a) (zX σ 25))) := by
  obtain ⟨-, hn, hn8, ha, ha4, hy, hy8⟩ := id H
  refine Dt.of (by decide) (Nat.le_of_ble_eq_true rfl) fun κ B Rt => ?_
  show Z κ 0 0 σ 0 [(0, .ref 0), (1, .int (nI i)), (2, .int (zb sl))] []
  refine Z.aload_n B dX11_wrong_0 (v := .ref 0) rfl rfl ?_
  refine Z.getR (σ := σ) B fX11_28_11 dX11_wrong_1 (hl.n (k := 0) (by decide)) (hl.k (k := 0) (by decide)) (by decide) (j := 20) (hl.r (k := 0) (f := 2) (by decide) (by decide)) ?_
  refine Z.iload_n B dX11_wrong_4 (x := nI i) rfl ?_
  refine Z.callVI (σ := σ) B (M' := mX1_wayAt) (as := [.int (nI i)]) (st := []) (v := .ref q) dX11_wrong_5 wX1_wayAt iX1_wayAt sX1_wayAt kX11_102 (hl.n (k := 20) (by decide)) (hl.k (k := 20) (by decide)) (by decide) rfl rfl (t_X1_wayAt_in (σ := σ) H hi hq) rfl rfl (by decide) (by decide) (Nat.le_of_ble_eq_true rfl) (by decide) (by decide) ?_
  refine Z.astore_n B dX11_wrong_8 (by decide) rfl (L' := [(0, .ref 0), (1, .int (nI i)), (2, .int (zb sl)), (3, .ref q)]) rfl ?_
  refine Z.aload_n B dX11_wrong_9 (v := .ref q) rfl rfl ?_
  refine Z.ifnonnull_r B dX11_wrong_10 (tgt := 19) rfl ?_
  refine Z.aload_n B dX11_wrong_19 (v := .ref 0) rfl rfl ?_
  refine Z.getR (σ := σ) B fX11_28_11 dX11_wrong_20 (hl.n (k := 0) (by decide)) (hl.k (k := 0) (by decide)) (by decide) (j := 20) (hl.r (k := 0) (f := 2) (by decide) (by decide)) ?_
  refine Z.iconst B dX11_wrong_23 (v := nI 0) rfl ?_
  refine Z.callVI (σ := σ) B (M' := mX1_hasComer) (as := [.int (nI 0)]) (st := []) (v := .int (nI 1)) dX11_wrong_24 wX1_hasComer iX1_hasComer sX1_hasComer kX11_152 (hl.n (k := 20) (by decide)) (hl.k (k := 20) (by decide)) (by decide) rfl rfl (t_X1_hasComer_in (σ := σ) H h0) rfl rfl (by decide) (by decide) (Nat.le_of_ble_eq_true rfl) (by decide) (by decide) ?_
  refine Z.if_neN B dX11_wrong_27 (tgt := 36) rfl (by omega) (fun h27 => ?_) (fun h27 => by exfalso; first | omega | contradiction | simp_all)
  refine Z.aload_n B dX11_wrong_36 (v := .ref 0) rfl rfl ?_
  refine Z.getR (σ := σ) B fX11_28_11 dX11_wrong_37 (hl.n (k := 0) (by decide)) (hl.k (k := 0) (by decide)) (by decide) (j := 20) (hl.r (k := 0) (f := 2) (by decide) (by decide)) ?_
  refine Z.callVI (σ := σ) B (M' := mX1_bestSum) (as := []) (st := []) (v := .int (cn (zX σ 21) (ga (fun c => cn (zX σ 21) c 6) (n - 1)) 6)) dX11_wrong_40 wX1_bestSum iX1_bestSum sX1_bestSum kX11_240 (hl.n (k := 20) (by decide)) (hl.k (k := 20) (by decide)) (by decide) rfl rfl (t_X1_bestSum (σ := σ) H h0) rfl rfl (by decide) (by decide) (Nat.le_of_ble_eq_true rfl) (by decide) (by decide) ?_
  refine Z.eqσ (τ := (zuX σ 25 (fi n (fun c => cn (zX σ 21) c 6) (zX σ 25)))) rfl ?_
  refine Z.aload_n B dX11_wrong_43 (v := .ref 0) rfl rfl ?_
  refine Z.getR (σ := (zuX σ 25 (fi n (fun c => cn (zX σ 21) c 6) (zX σ 25)))) B fX11_28_11 dX11_wrong_44 (hl.n (k := 0) (by decide)) (hl.k (k := 0) (by decide)) (by decide) (j := 20) (hl.r (k := 0) (f := 2) (by decide) (by decide)) ?_
  refine Z.aload_n B dX11_wrong_47 (v := .ref 0) rfl rfl ?_
  refine Z.getR (σ := (zuX σ 25 (fi n (fun c => cn (zX σ 21) c 6) (zX σ 25)))) B fX11_28_11 dX11_wrong_48 (hl.n (k := 0) (by decide)) (hl.k (k := 0) (by decide)) (by decide) (j := 20) (hl.r (k := 0) (f := 2) (by decide) (by decide)) ?_
  refine Z.aload_n B dX11_wrong_51 (v := .ref q) rfl rfl ?_
  refine Z.iload_n B dX11_wrong_52 (x := zb sl) rfl ?_
  refine Z.callVI (σ := (zuX σ 25 (fi n (fun c => cn (zX σ 21) c 6) (zX σ 25)))) B (M' := mX1_takenBy) (as := [.ref q, .int (zb sl)]) (st := [.ref 20, .int (cn (zX σ 21) (ga (fun c => cn (zX σ 21) c 6) (n - 1)) 6)]) (v := .int (gI (tf (zX σ 21) (zSc σ) (zLk σ) (zDr σ) sl kd pa od a) n)) dX11_wrong_53 wX1_takenBy iX1_takenBy sX1_takenBy kX11_214 (hl.n (k := 20) (by decide)) (hl.k (k := 20) (by decide)) (by decide) rfl rfl (t_X1_takenBy (σ := (zuX σ 25 (fi n (fun c => cn (zX σ 21) c 6) (zX σ 25)))) H ho (hw.uX (by decide))) rfl rfl (by decide) (by decide) (Nat.le_of_ble_eq_true rfl) (by decide) (by decide) ?_
  refine Z.eqσ (τ := (zuX σ 25 (fi n (tf (zX σ 21) (zSc σ) (zLk σ) (zDr σ) sl kd pa od a) (zX σ 25)))) (by rw [zX_self, zuX_uX, fi_fi]; rfl) ?_
  refine Z.bipush B dX11_wrong_56 (v := nI 6) rfl ?_
  rw [gI_pos h0]
  refine Z.callVI (σ := (zuX σ 25 (fi n (tf (zX σ 21) (zSc σ) (zLk σ) (zDr σ) sl kd pa od a) (zX σ 25)))) B (M' := mX1_comerNumber) (as := [.int (nI (ga (tf (zX σ 21) (zSc σ) (zLk σ) (zDr σ) sl kd pa od a) (n - 1))), .int (nI 6)]) (st := [.int (cn (zX σ 21) (ga (fun c => cn (zX σ 21) c 6) (n - 1)) 6)]) (v := .int (cn (zX σ 21) (ga (tf (zX σ 21) (zSc σ) (zLk σ) (zDr σ) sl kd pa od a) (n - 1)) 6)) dX11_wrong_58 wX1_comerNumber iX1_comerNumber sX1_comerNumber kX11_155 (hl.n (k := 20) (by decide)) (hl.k (k := 20) (by decide)) (by decide) rfl rfl (t_X1_comerNumber (σ := (zuX σ 25 (fi n (tf (zX σ 21) (zSc σ) (zLk σ) (zDr σ) sl kd pa od a) (zX σ 25)))) H (ga_lt h0) (by decide)) rfl rfl (by decide) (by decide) (Nat.le_of_ble_eq_true rfl) (by decide) (by decide) ?_
  refine Z.isub B dX11_wrong_61 ?_
  refine Z.iret B Rt dX11_wrong_62 (ty := .int) rfl rfl (by decide) (by decide) ?_
  exact ⟨rfl, rfl⟩

theorem t_K_lost_1 {σ : zSt} (hl : Lay σ) {n a y : Nat} (H : zHd σ n a y) {i : Int32} (hi : zOut i y) {k : Int32} : Dt mX11_lost [.ref 0, .int i, .int k] σ (some (.int (-nI 1))) (zuX σ 43 (upd (zX σ 43) 1 (zX σ 43 1 + nI 1))) := by
  obtain ⟨-, hn, hn8, ha, ha4, hy, hy8⟩ := id H
  refine Dt.of (by decide) (Nat.le_of_ble_eq_true rfl) fun κ B Rt => ?_
  show Z κ 0 0 σ 0 [(0, .ref 0), (1, .int i), (2, .int k)] []
  refine Z.aload_n B dX11_lost_0 (v := .ref 0) rfl rfl ?_
  refine Z.getR (σ := σ) B fX11_28_11 dX11_lost_1 (hl.n (k := 0) (by decide)) (hl.k (k := 0) (by decide)) (by decide) (j := 20) (hl.r (k := 0) (f := 2) (by decide) (by decide)) ?_
  refine Z.iload_n B dX11_lost_4 (x := i) rfl ?_
  refine Z.callVI (σ := σ) B (M' := mX1_wayAt) (as := [.int i]) (st := []) (v := .null) dX11_lost_5 wX1_wayAt iX1_wayAt sX1_wayAt kX11_102 (hl.n (k := 20) (by decide)) (hl.k (k := 20) (by decide)) (by decide) rfl rfl (t_X1_wayAt_out (σ := σ) H hi) rfl rfl (by decide) (by decide) (Nat.le_of_ble_eq_true rfl) (by decide) (by decide) ?_
  refine Z.astore_n B dX11_lost_8 (by decide) rfl (L' := [(0, .ref 0), (1, .int i), (2, .int k), (3, .null)]) rfl ?_
  refine Z.aload_n B dX11_lost_9 (v := .null) rfl rfl ?_
  refine Z.ifnonnull_n B dX11_lost_10 ?_
  refine Z.aload_n B dX11_lost_13 (v := .ref 0) rfl rfl ?_
  refine Z.iconst B dX11_lost_14 (v := nI 1) rfl ?_
  refine Z.callVI (σ := σ) B (M' := mX11_refuse) (as := [.int (nI 1)]) (st := []) (v := .int (-nI 1)) dX11_lost_15 wX11_refuse iX11_refuse sX11_refuse kX11_63 (hl.n (k := 0) (by decide)) (hl.k (k := 0) (by decide)) (by decide) rfl rfl (t_X11_refuse (σ := σ) hl (b := 1) (by decide)) rfl rfl (by decide) (by decide) (Nat.le_of_ble_eq_true rfl) (by decide) (by decide) ?_
  refine Z.eqσ (τ := (zuX σ 43 (upd (zX σ 43) 1 (zX σ 43 1 + nI 1)))) rfl ?_
  refine Z.iret B Rt dX11_lost_18 (ty := .int) rfl rfl (by decide) (by decide) ?_
  exact ⟨rfl, rfl⟩

theorem t_K_lost_5 {σ : zSt} (hl : Lay σ) {n a y : Nat} (H : zHd σ n a y) {i q kd pa num : Nat} (hi : i < y) (hq : zR σ 24 i = some q) (hw : zWo σ q kd pa num) {k : Int32} (hk : nI n < k) : Dt mX11_lost [.ref 0, .int (nI i), .int k] σ (some (.int (-nI 5))) (zuX σ 43 (upd (zX σ 43) 5 (zX σ 43 5 + nI 1))) := by
  obtain ⟨-, hn, hn8, ha, ha4, hy, hy8⟩ := id H
  refine Dt.of (by decide) (Nat.le_of_ble_eq_true rfl) fun κ B Rt => ?_
  show Z κ 0 0 σ 0 [(0, .ref 0), (1, .int (nI i)), (2, .int k)] []
  refine Z.aload_n B dX11_lost_0 (v := .ref 0) rfl rfl ?_
  refine Z.getR (σ := σ) B fX11_28_11 dX11_lost_1 (hl.n (k := 0) (by decide)) (hl.k (k := 0) (by decide)) (by decide) (j := 20) (hl.r (k := 0) (f := 2) (by decide) (by decide)) ?_
  refine Z.iload_n B dX11_lost_4 (x := nI i) rfl ?_
  refine Z.callVI (σ := σ) B (M' := mX1_wayAt) (as := [.int (nI i)]) (st := []) (v := .ref q) dX11_lost_5 wX1_wayAt iX1_wayAt sX1_wayAt kX11_102 (hl.n (k := 20) (by decide)) (hl.k (k := 20) (by decide)) (by decide) rfl rfl (t_X1_wayAt_in (σ := σ) H hi hq) rfl rfl (by decide) (by decide) (Nat.le_of_ble_eq_true rfl) (by decide) (by decide) ?_
  refine Z.astore_n B dX11_lost_8 (by decide) rfl (L' := [(0, .ref 0), (1, .int (nI i)), (2, .int k), (3, .ref q)]) rfl ?_
  refine Z.aload_n B dX11_lost_9 (v := .ref q) rfl rfl ?_
  refine Z.ifnonnull_r B dX11_lost_10 (tgt := 19) rfl ?_
  refine Z.iload_n B dX11_lost_19 (x := k) rfl ?_
  refine Z.aload_n B dX11_lost_20 (v := .ref 0) rfl rfl ?_
  refine Z.getR (σ := σ) B fX11_28_11 dX11_lost_21 (hl.n (k := 0) (by decide)) (hl.k (k := 0) (by decide)) (by decide) (j := 20) (hl.r (k := 0) (f := 2) (by decide) (by decide)) ?_
  refine Z.callVI (σ := σ) B (M' := mX1_comerCount) (as := []) (st := [.int k]) (v := .int (nI n)) dX11_lost_24 wX1_comerCount iX1_comerCount sX1_comerCount kX11_243 (hl.n (k := 20) (by decide)) (hl.k (k := 20) (by decide)) (by decide) rfl rfl (t_X1_comerCount (σ := σ) H) rfl rfl (by decide) (by decide) (Nat.le_of_ble_eq_true rfl) (by decide) (by decide) ?_
  refine Z.icmp_le B dX11_lost_27 (tgt := 36) rfl (fun h27 => (by exfalso; rw [zle_iff] at h27; rw [zlt_iff] at hk; omega)) (fun h27 => ?_)
  refine Z.aload_n B dX11_lost_30 (v := .ref 0) rfl rfl ?_
  refine Z.iconst B dX11_lost_31 (v := nI 5) rfl ?_
  refine Z.callVI (σ := σ) B (M' := mX11_refuse) (as := [.int (nI 5)]) (st := []) (v := .int (-nI 5)) dX11_lost_32 wX11_refuse iX11_refuse sX11_refuse kX11_63 (hl.n (k := 0) (by decide)) (hl.k (k := 0) (by decide)) (by decide) rfl rfl (t_X11_refuse (σ := σ) hl (b := 5) (by decide)) rfl rfl (by decide) (by decide) (Nat.le_of_ble_eq_true rfl) (by decide) (by decide) ?_
  refine Z.eqσ (τ := (zuX σ 43 (upd (zX σ 43) 5 (zX σ 43 5 + nI 1)))) rfl ?_
  refine Z.iret B Rt dX11_lost_35 (ty := .int) rfl rfl (by decide) (by decide) ?_
  exact ⟨rfl, rfl⟩

theorem t_K_lost_6 {σ : zSt} (hl : Lay σ) {n a y : Nat} (H : zHd σ n a y) {i q kd pa num : Nat} (hi : i < y) (hq : zR σ 24 i = some q) (hw : zWo σ q kd pa num) {k : Int32} (hk : ¬ nI n < k) (hk1 : k < nI 1) : Dt mX11_lost [.ref 0, .int (nI i), .int k] σ (some (.int (-nI 6))) (zuX σ 43 (upd (zX σ 43) 6 (zX σ 43 6 + nI 1))) := by
  obtain ⟨-, hn, hn8, ha, ha4, hy, hy8⟩ := id H
  refine Dt.of (by decide) (Nat.le_of_ble_eq_true rfl) fun κ B Rt => ?_
  show Z κ 0 0 σ 0 [(0, .ref 0), (1, .int (nI i)), (2, .int k)] []
  refine Z.aload_n B dX11_lost_0 (v := .ref 0) rfl rfl ?_
  refine Z.getR (σ := σ) B fX11_28_11 dX11_lost_1 (hl.n (k := 0) (by decide)) (hl.k (k := 0) (by decide)) (by decide) (j := 20) (hl.r (k := 0) (f := 2) (by decide) (by decide)) ?_
  refine Z.iload_n B dX11_lost_4 (x := nI i) rfl ?_
  refine Z.callVI (σ := σ) B (M' := mX1_wayAt) (as := [.int (nI i)]) (st := []) (v := .ref q) dX11_lost_5 wX1_wayAt iX1_wayAt sX1_wayAt kX11_102 (hl.n (k := 20) (by decide)) (hl.k (k := 20) (by decide)) (by decide) rfl rfl (t_X1_wayAt_in (σ := σ) H hi hq) rfl rfl (by decide) (by decide) (Nat.le_of_ble_eq_true rfl) (by decide) (by decide) ?_
  refine Z.astore_n B dX11_lost_8 (by decide) rfl (L' := [(0, .ref 0), (1, .int (nI i)), (2, .int k), (3, .ref q)]) rfl ?_
  refine Z.aload_n B dX11_lost_9 (v := .ref q) rfl rfl ?_
  refine Z.ifnonnull_r B dX11_lost_10 (tgt := 19) rfl ?_
  refine Z.iload_n B dX11_lost_19 (x := k) rfl ?_
  refine Z.aload_n B dX11_lost_20 (v := .ref 0) rfl rfl ?_
  refine Z.getR (σ := σ) B fX11_28_11 dX11_lost_21 (hl.n (k := 0) (by decide)) (hl.k (k := 0) (by decide)) (by decide) (j := 20) (hl.r (k := 0) (f := 2) (by decide) (by decide)) ?_
  refine Z.callVI (σ := σ) B (M' := mX1_comerCount) (as := []) (st := [.int k]) (v := .int (nI n)) dX11_lost_24 wX1_comerCount iX1_comerCount sX1_comerCount kX11_243 (hl.n (k := 20) (by decide)) (hl.k (k := 20) (by decide)) (by decide) rfl rfl (t_X1_comerCount (σ := σ) H) rfl rfl (by decide) (by decide) (Nat.le_of_ble_eq_true rfl) (by decide) (by decide) ?_
  refine Z.icmp_le B dX11_lost_27 (tgt := 36) rfl (fun h27 => ?_) (fun h27 => (by exfalso; rw [zle_iff] at h27; rw [zlt_iff] at hk; omega))
  refine Z.iload_n B dX11_lost_36 (x := k) rfl ?_
  refine Z.iconst B dX11_lost_37 (v := nI 1) rfl ?_
  refine Z.icmp_ge B dX11_lost_38 (tgt := 50) rfl (fun h38 => (by exfalso; rw [zle_iff] at h38; rw [zlt_iff] at hk1; omega)) (fun h38 => ?_)
  refine Z.aload_n B dX11_lost_41 (v := .ref 0) rfl rfl ?_
  refine Z.bipush B dX11_lost_42 (v := nI 6) rfl ?_
  refine Z.callVI (σ := σ) B (M' := mX11_refuse) (as := [.int (nI 6)]) (st := []) (v := .int (-nI 6)) dX11_lost_44 wX11_refuse iX11_refuse sX11_refuse kX11_63 (hl.n (k := 0) (by decide)) (hl.k (k := 0) (by decide)) (by decide) rfl rfl (t_X11_refuse (σ := σ) hl (b := 6) (by decide)) rfl rfl (by decide) (by decide) (Nat.le_of_ble_eq_true rfl) (by decide) (by decide) ?_
  refine Z.eqσ (τ := (zuX σ 43 (upd (zX σ 43) 6 (zX σ 43 6 + nI 1)))) rfl ?_
  refine Z.goto B dX11_lost_47 (tgt := 59) rfl ?_
  refine Z.iret B Rt dX11_lost_59 (ty := .int) rfl rfl (by decide) (by decide) ?_
  exact ⟨rfl, rfl⟩

theorem t_K_lost_0 {σ : zSt} (hl : Lay σ) {n a y : Nat} (H : zHd σ n a y) {od : Nat → Nat} (ho : zOd σ a od) {i q kd pa num : Nat} (hi : i < y) (hq : zR σ 24 i = some q) (hw : zWo σ q kd pa num) {k : Nat} (hk : k ≤ n) (hk1 : 1 ≤ k) : Dt mX11_lost [.ref 0, .int (nI i), .int (nI k)] σ (some (.int (smm (nI k * (cn (zX σ 21) (ga (fun c => cn (zX σ 21) c 6) (n - 1)) 6)) (loF (zX σ 21) (tf (zX σ 21) (zSc σ) (zLk σ) (zDr σ) true kd pa od a) n k) n))) (zuX σ 25 (fi n (tf (zX σ 21) (zSc σ) (zLk σ) (zDr σ) true kd pa od a) (zX σ 25))) := by
  obtain ⟨-, hn, hn8, ha, ha4, hy, hy8⟩ := id H
  refine Dt.of (by decide) (Nat.le_of_ble_eq_true rfl) fun κ B Rt => ?_
  show Z κ 0 0 σ 0 [(0, .ref 0), (1, .int (nI i)), (2, .int (nI k))] []
  refine Z.aload_n B dX11_lost_0 (v := .ref 0) rfl rfl ?_
  refine Z.getR (σ := σ) B fX11_28_11 dX11_lost_1 (hl.n (k := 0) (by decide)) (hl.k (k := 0) (by decide)) (by decide) (j := 20) (hl.r (k := 0) (f := 2) (by decide) (by decide)) ?_
  refine Z.iload_n B dX11_lost_4 (x := nI i) rfl ?_
  refine Z.callVI (σ := σ) B (M' := mX1_wayAt) (as := [.int (nI i)]) (st := []) (v := .ref q) dX11_lost_5 wX1_wayAt iX1_wayAt sX1_wayAt kX11_102 (hl.n (k := 20) (by decide)) (hl.k (k := 20) (by decide)) (by decide) rfl rfl (t_X1_wayAt_in (σ := σ) H hi hq) rfl rfl (by decide) (by decide) (Nat.le_of_ble_eq_true rfl) (by decide) (by decide) ?_
  refine Z.astore_n B dX11_lost_8 (by decide) rfl (L' := [(0, .ref 0), (1, .int (nI i)), (2, .int (nI k)), (3, .ref q)]) rfl ?_
  refine Z.aload_n B dX11_lost_9 (v := .ref q) rfl rfl ?_
  refine Z.ifnonnull_r B dX11_lost_10 (tgt := 19) rfl ?_
  refine Z.iload_n B dX11_lost_19 (x := nI k) rfl ?_
  refine Z.aload_n B dX11_lost_20 (v := .ref 0) rfl rfl ?_
  refine Z.getR (σ := σ) B fX11_28_11 dX11_lost_21 (hl.n (k := 0) (by decide)) (hl.k (k := 0) (by decide)) (by decide) (j := 20) (hl.r (k := 0) (f := 2) (by decide) (by decide)) ?_
  refine Z.callVI (σ := σ) B (M' := mX1_comerCount) (as := []) (st := [.int (nI k)]) (v := .int (nI n)) dX11_lost_24 wX1_comerCount iX1_comerCount sX1_comerCount kX11_243 (hl.n (k := 20) (by decide)) (hl.k (k := 20) (by decide)) (by decide) rfl rfl (t_X1_comerCount (σ := σ) H) rfl rfl (by decide) (by decide) (Nat.le_of_ble_eq_true rfl) (by decide) (by decide) ?_
  refine Z.icmp_leN B dX11_lost_27 (tgt := 36) rfl (by omega) (by omega) (fun h27 => ?_) (fun h27 => by exfalso; first | omega | contradiction | simp_all)
  refine Z.iload_n B dX11_lost_36 (x := nI k) rfl ?_
  refine Z.iconst B dX11_lost_37 (v := nI 1) rfl ?_
  refine Z.icmp_geN B dX11_lost_38 (tgt := 50) rfl (by omega) (by omega) (fun h38 => ?_) (fun h38 => by exfalso; first | omega | contradiction | simp_all)
  refine Z.aload_n B dX11_lost_50 (v := .ref 0) rfl rfl ?_
  refine Z.getR (σ := σ) B fX11_28_11 dX11_lost_51 (hl.n (k := 0) (by decide)) (hl.k (k := 0) (by decide)) (by decide) (j := 20) (hl.r (k := 0) (f := 2) (by decide) (by decide)) ?_
  refine Z.aload_n B dX11_lost_54 (v := .ref q) rfl rfl ?_
  refine Z.iload_n B dX11_lost_55 (x := nI k) rfl ?_
  refine Z.callVI (σ := σ) B (M' := mX1_lostBy) (as := [.ref q, .int (nI k)]) (st := []) (v := .int (smm (nI k * (cn (zX σ 21) (ga (fun c => cn (zX σ 21) c 6) (n - 1)) 6)) (loF (zX σ 21) (tf (zX σ 21) (zSc σ) (zLk σ) (zDr σ) true kd pa od a) n k) n)) dX11_lost_56 wX1_lostBy iX1_lostBy sX1_lostBy kX11_246 (hl.n (k := 20) (by decide)) (hl.k (k := 20) (by decide)) (by decide) rfl rfl (t_X1_lostBy (σ := σ) H ho hw (by omega) (by omega)) rfl rfl (by decide) (by decide) (Nat.le_of_ble_eq_true rfl) (by decide) (by decide) ?_
  refine Z.eqσ (τ := (zuX σ 25 (fi n (tf (zX σ 21) (zSc σ) (zLk σ) (zDr σ) true kd pa od a) (zX σ 25)))) rfl ?_
  refine Z.iret B Rt dX11_lost_59 (ty := .int) rfl rfl (by decide) (by decide) ?_
  exact ⟨rfl, rfl⟩

theorem t_K_turned_1 {σ : zSt} (hl : Lay σ) {n a y : Nat} (H : zHd σ n a y) {i : Int32} (hi : zOut i y)  : Dt mX11_turned [.ref 0, .int i] σ (some (.int (-nI 1))) (zuX σ 43 (upd (zX σ 43) 1 (zX σ 43 1 + nI 1))) := by
  obtain ⟨-, hn, hn8, ha, ha4, hy, hy8⟩ := id H
  refine Dt.of (by decide) (Nat.le_of_ble_eq_true rfl) fun κ B Rt => ?_
  show Z κ 0 0 σ 0 [(0, .ref 0), (1, .int i)] []
  refine Z.aload_n B dX11_turned_0 (v := .ref 0) rfl rfl ?_
  refine Z.getR (σ := σ) B fX11_28_11 dX11_turned_1 (hl.n (k := 0) (by decide)) (hl.k (k := 0) (by decide)) (by decide) (j := 20) (hl.r (k := 0) (f := 2) (by decide) (by decide)) ?_
  refine Z.iload_n B dX11_turned_4 (x := i) rfl ?_
  refine Z.callVI (σ := σ) B (M' := mX1_wayAt) (as := [.int i]) (st := []) (v := .null) dX11_turned_5 wX1_wayAt iX1_wayAt sX1_wayAt kX11_102 (hl.n (k := 20) (by decide)) (hl.k (k := 20) (by decide)) (by decide) rfl rfl (t_X1_wayAt_out (σ := σ) H hi) rfl rfl (by decide) (by decide) (Nat.le_of_ble_eq_true rfl) (by decide) (by decide) ?_
  refine Z.astore_n B dX11_turned_8 (by decide) rfl (L' := [(0, .ref 0), (1, .int i), (2, .null)]) rfl ?_
  refine Z.aload_n B dX11_turned_9 (v := .null) rfl rfl ?_
  refine Z.ifnonnull_n B dX11_turned_10 ?_
  refine Z.aload_n B dX11_turned_13 (v := .ref 0) rfl rfl ?_
  refine Z.iconst B dX11_turned_14 (v := nI 1) rfl ?_
  refine Z.callVI (σ := σ) B (M' := mX11_refuse) (as := [.int (nI 1)]) (st := []) (v := .int (-nI 1)) dX11_turned_15 wX11_refuse iX11_refuse sX11_refuse kX11_63 (hl.n (k := 0) (by decide)) (hl.k (k := 0) (by decide)) (by decide) rfl rfl (t_X11_refuse (σ := σ) hl (b := 1) (by decide)) rfl rfl (by decide) (by decide) (Nat.le_of_ble_eq_true rfl) (by decide) (by decide) ?_
  refine Z.eqσ (τ := (zuX σ 43 (upd (zX σ 43) 1 (zX σ 43 1 + nI 1)))) rfl ?_
  refine Z.goto B dX11_turned_18 (tgt := 29) rfl ?_
  refine Z.iret B Rt dX11_turned_29 (ty := .int) rfl rfl (by decide) (by decide) ?_
  exact ⟨rfl, rfl⟩

theorem t_K_turned_0 {σ : zSt} (hl : Lay σ) {n a y : Nat} (H : zHd σ n a y) {od : Nat → Nat} (ho : zOd σ a od) {i q kd pa num : Nat} (hi : i < y) (hq : zR σ 24 i = some q) (hw : zWo σ q kd pa num)  : Dt mX11_turned [.ref 0, .int (nI i)] σ (some (.int (tn n (fun b c => (tf (zX σ 21) (zSc σ) (zLk σ) (zDr σ) true kd pa od a) c - shW (zX σ 21) (zSc σ) (zLk σ) kd pa b c) a))) (zuX (zuX σ 26 (fi n (tf (zX σ 21) (zSc σ) (zLk σ) (zDr σ) true kd pa od a) (zX σ 26))) 25 (fl (fun b c => (tf (zX σ 21) (zSc σ) (zLk σ) (zDr σ) true kd pa od a) c - shW (zX σ 21) (zSc σ) (zLk σ) kd pa b c) n (zX σ 25) a)) := by
  obtain ⟨-, hn, hn8, ha, ha4, hy, hy8⟩ := id H
  refine Dt.of (by decide) (Nat.le_of_ble_eq_true rfl) fun κ B Rt => ?_
  show Z κ 0 0 σ 0 [(0, .ref 0), (1, .int (nI i))] []
  refine Z.aload_n B dX11_turned_0 (v := .ref 0) rfl rfl ?_
  refine Z.getR (σ := σ) B fX11_28_11 dX11_turned_1 (hl.n (k := 0) (by decide)) (hl.k (k := 0) (by decide)) (by decide) (j := 20) (hl.r (k := 0) (f := 2) (by decide) (by decide)) ?_
  refine Z.iload_n B dX11_turned_4 (x := nI i) rfl ?_
  refine Z.callVI (σ := σ) B (M' := mX1_wayAt) (as := [.int (nI i)]) (st := []) (v := .ref q) dX11_turned_5 wX1_wayAt iX1_wayAt sX1_wayAt kX11_102 (hl.n (k := 20) (by decide)) (hl.k (k := 20) (by decide)) (by decide) rfl rfl (t_X1_wayAt_in (σ := σ) H hi hq) rfl rfl (by decide) (by decide) (Nat.le_of_ble_eq_true rfl) (by decide) (by decide) ?_
  refine Z.astore_n B dX11_turned_8 (by decide) rfl (L' := [(0, .ref 0), (1, .int (nI i)), (2, .ref q)]) rfl ?_
  refine Z.aload_n B dX11_turned_9 (v := .ref q) rfl rfl ?_
  refine Z.ifnonnull_r B dX11_turned_10 (tgt := 21) rfl ?_
  refine Z.aload_n B dX11_turned_21 (v := .ref 0) rfl rfl ?_
  refine Z.getR (σ := σ) B fX11_28_11 dX11_turned_22 (hl.n (k := 0) (by decide)) (hl.k (k := 0) (by decide)) (by decide) (j := 20) (hl.r (k := 0) (f := 2) (by decide) (by decide)) ?_
  refine Z.aload_n B dX11_turned_25 (v := .ref q) rfl rfl ?_
  refine Z.callVI (σ := σ) B (M' := mX1_turnedBy) (as := [.ref q]) (st := []) (v := .int (tn n (fun b c => (tf (zX σ 21) (zSc σ) (zLk σ) (zDr σ) true kd pa od a) c - shW (zX σ 21) (zSc σ) (zLk σ) kd pa b c) a)) dX11_turned_26 wX1_turnedBy iX1_turnedBy sX1_turnedBy kX11_249 (hl.n (k := 20) (by decide)) (hl.k (k := 20) (by decide)) (by decide) rfl rfl (t_X1_turnedBy (σ := σ) H ho hw) rfl rfl (by decide) (by decide) (Nat.le_of_ble_eq_true rfl) (by decide) (by decide) ?_
  refine Z.eqσ (τ := (zuX (zuX σ 26 (fi n (tf (zX σ 21) (zSc σ) (zLk σ) (zDr σ) true kd pa od a) (zX σ 26))) 25 (fl (fun b c => (tf (zX σ 21) (zSc σ) (zLk σ) (zDr σ) true kd pa od a) c - shW (zX σ 21) (zSc σ) (zLk σ) kd pa b c) n (zX σ 25) a))) rfl ?_
  refine Z.iret B Rt dX11_turned_29 (ty := .int) rfl rfl (by decide) (by decide) ?_
  exact ⟨rfl, rfl⟩

theorem t_K_piece_0 {σ : zSt} (hl : Lay σ) {n a y : Nat} (H : zHd σ n a y)  : Dt mX11_piece [.ref 0] σ (some (.int (nI (ga (fun l => tO (pt (zX σ 21) (fun c => cn (zX σ 21) c l)) n) 2)))) (zuX σ 25 (fi n (fun c => cn (zX σ 21) c 2) (zX σ 25))) := by
  obtain ⟨-, hn, hn8, ha, ha4, hy, hy8⟩ := id H
  refine Dt.of (by decide) (Nat.le_of_ble_eq_true rfl) fun κ B Rt => ?_
  show Z κ 0 0 σ 0 [(0, .ref 0)] []
  refine Z.iconst B dX11_piece_0 (v := nI 0) rfl ?_
  refine Z.istore_n B dX11_piece_1 (by decide) (L' := [(0, .ref 0), (1, .int (nI 0))]) rfl ?_
  refine Z.aload_n B dX11_piece_2 (v := .ref 0) rfl rfl ?_
  refine Z.getR (σ := σ) B fX11_28_11 dX11_piece_3 (hl.n (k := 0) (by decide)) (hl.k (k := 0) (by decide)) (by decide) (j := 20) (hl.r (k := 0) (f := 2) (by decide) (by decide)) ?_
  refine Z.iconst B dX11_piece_6 (v := nI 0) rfl ?_
  refine Z.callVI (σ := σ) B (M' := mX1_tellsOfNumber) (as := [.int (nI 0)]) (st := []) (v := .int ((fun l => tO (pt (zX σ 21) (fun c => cn (zX σ 21) c l)) n) 0)) dX11_piece_7 wX1_tellsOfNumber iX1_tellsOfNumber sX1_tellsOfNumber kX11_253 (hl.n (k := 20) (by decide)) (hl.k (k := 20) (by decide)) (by decide) rfl rfl (t_X1_tellsOfNumber (σ := σ) H (wt := 0) (by decide)) rfl rfl (by decide) (by decide) (Nat.le_of_ble_eq_true rfl) (by decide) (by decide) ?_
  refine Z.eqσ (τ := (zuX σ 25 (fi n (fun c => cn (zX σ 21) c 0) (zX σ 25)))) rfl ?_
  refine Z.istore_n B dX11_piece_10 (by decide) (L' := [(0, .ref 0), (1, .int (nI 0)), (2, .int ((fun l => tO (pt (zX σ 21) (fun c => cn (zX σ 21) c l)) n) 0))]) rfl ?_
  refine Z.iconst B dX11_piece_11 (v := nI 1) rfl ?_
  refine Z.istore_n B dX11_piece_12 (by decide) (L' := [(0, .ref 0), (1, .int (nI 0)), (2, .int ((fun l => tO (pt (zX σ 21) (fun c => cn (zX σ 21) c l)) n) 0)), (3, .int (nI 1))]) rfl ?_
  have hloop13 : ∀ x : Nat, x ≤ 2 → Z κ 0 0 (zuX σ 25 (fi n (fun c => cn (zX σ 21) c x) (zX σ 25))) 13 [(0, .ref 0), (1, .int (nI (ga (fun l => tO (pt (zX σ 21) (fun c => cn (zX σ 21) c l)) n) x))), (2, .int ((fun l => tO (pt (zX σ 21) (fun c => cn (zX σ 21) c l)) n) (ga (fun l => tO (pt (zX σ 21) (fun c => cn (zX σ 21) c l)) n) x))), (3, .int (nI (x + 1)))] [] := by
    refine z_loop (fun x => 2 - x) (fun x ih hx => ?_)
    refine Z.iload_n B dX11_piece_13 (x := nI (x + 1)) rfl ?_
    refine Z.iconst B dX11_piece_14 (v := nI 3) rfl ?_
    refine Z.icmp_geN B dX11_piece_15 (tgt := 45) rfl (by omega) (by omega) (fun h15 => ?_) (fun h15 => ?_)
    · skip
      obtain rfl : 2 = x := by omega
      refine Z.iload_n B dX11_piece_45 (x := nI (ga (fun l => tO (pt (zX σ 21) (fun c => cn (zX σ 21) c l)) n) 2)) rfl ?_
      refine Z.iret B Rt dX11_piece_46 (ty := .int) rfl rfl (by decide) (by decide) ?_
      exact ⟨rfl, rfl⟩
    · skip
      refine Z.aload_n B dX11_piece_18 (v := .ref 0) rfl rfl ?_
      refine Z.getR (σ := (zuX σ 25 (fi n (fun c => cn (zX σ 21) c x) (zX σ 25)))) B fX11_28_11 dX11_piece_19 (hl.n (k := 0) (by decide)) (hl.k (k := 0) (by decide)) (by decide) (j := 20) (hl.r (k := 0) (f := 2) (by decide) (by decide)) ?_
      refine Z.iload_n B dX11_piece_22 (x := nI (x + 1)) rfl ?_
      refine Z.callVI (σ := (zuX σ 25 (fi n (fun c => cn (zX σ 21) c x) (zX σ 25)))) B (M' := mX1_tellsOfNumber) (as := [.int (nI (x + 1))]) (st := []) (v := .int ((fun l => tO (pt (zX σ 21) (fun c => cn (zX σ 21) c l)) n) (x + 1))) dX11_piece_23 wX1_tellsOfNumber iX1_tellsOfNumber sX1_tellsOfNumber kX11_253 (hl.n (k := 20) (by decide)) (hl.k (k := 20) (by decide)) (by decide) rfl rfl (t_X1_tellsOfNumber (σ := (zuX σ 25 (fi n (fun c => cn (zX σ 21) c x) (zX σ 25)))) H (wt := x + 1) (by omega)) rfl rfl (by decide) (by decide) (Nat.le_of_ble_eq_true rfl) (by decide) (by decide) ?_
      refine Z.eqσ (τ := (zuX σ 25 (fi n (fun c => cn (zX σ 21) c (x + 1)) (zX σ 25)))) (by rw [zX_self, zuX_uX, fi_fi]; rfl) ?_
      refine Z.istore B dX11_piece_26 (by decide) (L' := [(0, .ref 0), (1, .int (nI (ga (fun l => tO (pt (zX σ 21) (fun c => cn (zX σ 21) c l)) n) x))), (2, .int ((fun l => tO (pt (zX σ 21) (fun c => cn (zX σ 21) c l)) n) (ga (fun l => tO (pt (zX σ 21) (fun c => cn (zX σ 21) c l)) n) x))), (3, .int (nI (x + 1))), (4, .int ((fun l => tO (pt (zX σ 21) (fun c => cn (zX σ 21) c l)) n) (x + 1)))]) rfl ?_
      refine Z.iload B dX11_piece_28 (x := ((fun l => tO (pt (zX σ 21) (fun c => cn (zX σ 21) c l)) n) (x + 1))) rfl ?_
      refine Z.iload_n B dX11_piece_30 (x := (fun l => tO (pt (zX σ 21) (fun c => cn (zX σ 21) c l)) n) (ga (fun l => tO (pt (zX σ 21) (fun c => cn (zX σ 21) c l)) n) x)) rfl ?_
      refine Z.icmp_le B dX11_piece_31 (tgt := 39) rfl (fun h31 => ?_) (fun h31 => ?_)
      · skip
        have h31 : ¬ (fun l => tO (pt (zX σ 21) (fun c => cn (zX σ 21) c l)) n) (ga (fun l => tO (pt (zX σ 21) (fun c => cn (zX σ 21) c l)) n) x) < (fun l => tO (pt (zX σ 21) (fun c => cn (zX σ 21) c l)) n) (x + 1) := by rw [zlt_iff]; rw [zle_iff] at h31; omega
        refine Z.iincN B dX11_piece_39 (by decide) (a := x + 1) rfl (L' := [(0, .ref 0), (1, .int (nI (ga (fun l => tO (pt (zX σ 21) (fun c => cn (zX σ 21) c l)) n) x))), (2, .int ((fun l => tO (pt (zX σ 21) (fun c => cn (zX σ 21) c l)) n) (ga (fun l => tO (pt (zX σ 21) (fun c => cn (zX σ 21) c l)) n) x))), (3, .int (nI (x + 1 + 1))), (4, .int ((fun l => tO (pt (zX σ 21) (fun c => cn (zX σ 21) c l)) n) (x + 1)))]) rfl ?_
        refine Z.goto B dX11_piece_42 (tgt := 13) rfl ?_
        refine Z.drop 4 (L' := [(0, .ref 0), (1, .int (nI (ga (fun l => tO (pt (zX σ 21) (fun c => cn (zX σ 21) c l)) n) x))), (2, .int ((fun l => tO (pt (zX σ 21) (fun c => cn (zX σ 21) c l)) n) (ga (fun l => tO (pt (zX σ 21) (fun c => cn (zX σ 21) c l)) n) x))), (3, .int (nI (x + 1 + 1)))]) rfl ?_
        have e := ih (x + 1) (by omega) (by omega)
        simp only [ga] at e
        first | (rw [if_pos h31] at e; exact e) | (rw [if_neg h31] at e; exact e)
      · skip
        have h31 : (fun l => tO (pt (zX σ 21) (fun c => cn (zX σ 21) c l)) n) (ga (fun l => tO (pt (zX σ 21) (fun c => cn (zX σ 21) c l)) n) x) < (fun l => tO (pt (zX σ 21) (fun c => cn (zX σ 21) c l)) n) (x + 1) := by rw [zlt_iff]; rw [zle_iff] at h31; omega
        refine Z.iload_n B dX11_piece_34 (x := nI (x + 1)) rfl ?_
        refine Z.istore_n B dX11_piece_35 (by decide) (L' := [(0, .ref 0), (1, .int (nI (x + 1))), (2, .int ((fun l => tO (pt (zX σ 21) (fun c => cn (zX σ 21) c l)) n) (ga (fun l => tO (pt (zX σ 21) (fun c => cn (zX σ 21) c l)) n) x))), (3, .int (nI (x + 1))), (4, .int ((fun l => tO (pt (zX σ 21) (fun c => cn (zX σ 21) c l)) n) (x + 1)))]) rfl ?_
        refine Z.iload B dX11_piece_36 (x := ((fun l => tO (pt (zX σ 21) (fun c => cn (zX σ 21) c l)) n) (x + 1))) rfl ?_
        refine Z.istore_n B dX11_piece_38 (by decide) (L' := [(0, .ref 0), (1, .int (nI (x + 1))), (2, .int ((fun l => tO (pt (zX σ 21) (fun c => cn (zX σ 21) c l)) n) (x + 1))), (3, .int (nI (x + 1))), (4, .int ((fun l => tO (pt (zX σ 21) (fun c => cn (zX σ 21) c l)) n) (x + 1)))]) rfl ?_
        refine Z.iincN B dX11_piece_39 (by decide) (a := x + 1) rfl (L' := [(0, .ref 0), (1, .int (nI (x + 1))), (2, .int ((fun l => tO (pt (zX σ 21) (fun c => cn (zX σ 21) c l)) n) (x + 1))), (3, .int (nI (x + 1 + 1))), (4, .int ((fun l => tO (pt (zX σ 21) (fun c => cn (zX σ 21) c l)) n) (x + 1)))]) rfl ?_
        refine Z.goto B dX11_piece_42 (tgt := 13) rfl ?_
        refine Z.drop 4 (L' := [(0, .ref 0), (1, .int (nI (x + 1))), (2, .int ((fun l => tO (pt (zX σ 21) (fun c => cn (zX σ 21) c l)) n) (x + 1))), (3, .int (nI (x + 1 + 1)))]) rfl ?_
        have e := ih (x + 1) (by omega) (by omega)
        simp only [ga] at e
        first | (rw [if_pos h31] at e; exact e) | (rw [if_neg h31] at e; exact e)
  exact hloop13 0 (by decide)

theorem t_X11_factorial {σ : zSt} {m : Nat} (hm : m ≤ 7) : Dt mX11_factorial [.int (nI m)] σ (some (.int (fc (m - 1)))) σ := by
  refine Dt.of (by decide) (Nat.le_of_ble_eq_true rfl) fun κ B Rt => ?_
  show Z κ 0 0 σ 0 [(0, .int (nI m))] []
  refine Z.iconst B dX11_factorial_0 (v := nI 1) rfl ?_
  refine Z.istore_n B dX11_factorial_1 (by decide) (L' := [(0, .int (nI m)), (1, .int (nI 1))]) rfl ?_
  refine Z.iconst B dX11_factorial_2 (v := nI 2) rfl ?_
  refine Z.istore_n B dX11_factorial_3 (by decide) (L' := [(0, .int (nI m)), (1, .int (nI 1)), (2, .int (nI 2))]) rfl ?_
  have hloop4 : ∀ i : Nat, i ≤ m - 1 → Z κ 0 0 σ 4 [(0, .int (nI m)), (1, .int (fc i)), (2, .int (nI (i + 2)))] [] := by
    refine z_loop (fun i => m - i) (fun i ih hi => ?_)
    refine Z.iload_n B dX11_factorial_4 (x := nI (i + 2)) rfl ?_
    refine Z.iload_n B dX11_factorial_5 (x := nI m) rfl ?_
    refine Z.icmp_gtN B dX11_factorial_6 (tgt := 25) rfl (by omega) (by omega) (fun h6 => ?_) (fun h6 => ?_)
    · skip
      obtain rfl : (m - 1) = i := by omega
      refine Z.iload_n B dX11_factorial_25 (x := fc (m - 1)) rfl ?_
      refine Z.iret B Rt dX11_factorial_26 (ty := .int) rfl rfl (by decide) (by decide) ?_
      exact ⟨rfl, rfl⟩
    · skip
      refine Z.iload_n B dX11_factorial_9 (x := nI (i + 2)) rfl ?_
      refine Z.bipush B dX11_factorial_10 (v := nI 8) rfl ?_
      refine Z.icmp_gtN B dX11_factorial_12 (tgt := 25) rfl (by omega) (by omega) (fun h12 => by exfalso; first | omega | contradiction | simp_all) (fun h12 => ?_)
      refine Z.iload_n B dX11_factorial_15 (x := fc i) rfl ?_
      refine Z.iload_n B dX11_factorial_16 (x := nI (i + 2)) rfl ?_
      refine Z.imul B dX11_factorial_17 ?_
      refine Z.istore_n B dX11_factorial_18 (by decide) (L' := [(0, .int (nI m)), (1, .int ((fc i) * (nI (i + 2)))), (2, .int (nI (i + 2)))]) rfl ?_
      refine Z.iincN B dX11_factorial_19 (by decide) (a := i + 2) rfl (L' := [(0, .int (nI m)), (1, .int ((fc i) * (nI (i + 2)))), (2, .int (nI (i + 2 + 1)))]) rfl ?_
      refine Z.goto B dX11_factorial_22 (tgt := 4) rfl ?_
      exact ih (i + 1) (by omega) (by omega)
  exact hloop4 0 (Nat.zero_le _)

theorem t_X11_ordersWon {σ : zSt} {n r : Nat} (hn : n ≤ 8) (h1 : 1 ≤ n) (hr : r < n) : Dt mX11_ordersWon [.int (nI n), .int (nI r)] σ (some (.int (cb n r))) σ := by
  refine Dt.of (by decide) (Nat.le_of_ble_eq_true rfl) fun κ B Rt => ?_
  show Z κ 0 0 σ 0 [(0, .int (nI n)), (1, .int (nI r))] []
  refine Z.iload_n B dX11_ordersWon_0 (x := nI n) rfl ?_
  refine Z.iconst B dX11_ordersWon_1 (v := nI 1) rfl ?_
  refine Z.isubN B dX11_ordersWon_2 (a := n) (b := 1) (by omega) ?_
  refine Z.callSI (σ := σ) B (M' := mX11_factorial) (as := [.int (nI (n - 1))]) (st := []) (v := .int (fc (n - 2))) dX11_ordersWon_3 wX11_factorial iX11_factorial kX11_334 (t_X11_factorial (σ := σ) (m := n - 1) (by omega)) rfl rfl (by decide) (by decide) (Nat.le_of_ble_eq_true rfl) (by decide) (by decide) ?_
  refine Z.istore_n B dX11_ordersWon_6 (by decide) (L' := [(0, .int (nI n)), (1, .int (nI r)), (2, .int (fc (n - 2)))]) rfl ?_
  refine Z.iload_n B dX11_ordersWon_7 (x := nI r) rfl ?_
  refine Z.if_neN B dX11_ordersWon_8 (tgt := 13) rfl (by omega) (fun h8 => ?_) (fun h8 => ?_)
  · skip
    refine Z.iconst B dX11_ordersWon_13 (v := nI 0) rfl ?_
    refine Z.istore_n B dX11_ordersWon_14 (by decide) (L' := [(0, .int (nI n)), (1, .int (nI r)), (2, .int (fc (n - 2))), (3, .int (nI 0))]) rfl ?_
    refine Z.iload_n B dX11_ordersWon_15 (x := nI r) rfl ?_
    refine Z.istore B dX11_ordersWon_16 (by decide) (L' := [(0, .int (nI n)), (1, .int (nI r)), (2, .int (fc (n - 2))), (3, .int (nI 0)), (4, .int (nI r))]) rfl ?_
    have hloop18 : ∀ i : Nat, i ≤ n - r → Z κ 0 0 σ 18 [(0, .int (nI n)), (1, .int (nI r)), (2, .int (fc (n - 2))), (3, .int (cs (fc (n - 2)) r i)), (4, .int (nI (r + i)))] [] := by
      refine z_loop (fun i => n - i) (fun i ih hi => ?_)
      refine Z.iload B dX11_ordersWon_18 (x := nI (r + i)) rfl ?_
      refine Z.iload_n B dX11_ordersWon_20 (x := nI n) rfl ?_
      refine Z.icmp_geN B dX11_ordersWon_21 (tgt := 48) rfl (by omega) (by omega) (fun h21 => ?_) (fun h21 => ?_)
      · skip
        obtain rfl : (n - r) = i := by omega
        refine Z.iload_n B dX11_ordersWon_48 (x := cs (fc (n - 2)) r (n - r)) rfl ?_
        refine Z.iret B Rt dX11_ordersWon_49 (ty := .int) rfl rfl (by decide) (by decide) ?_
        exact ⟨by unfold cb; rw [if_neg h8], rfl⟩
      · skip
        refine Z.iload_n B dX11_ordersWon_24 (x := cs (fc (n - 2)) r i) rfl ?_
        refine Z.iload B dX11_ordersWon_25 (x := nI (r + i)) rfl ?_
        refine Z.if_leN B dX11_ordersWon_27 (tgt := 39) rfl (by omega) (fun h27 => by exfalso; first | omega | contradiction | simp_all) (fun h27 => ?_)
        refine Z.iload_n B dX11_ordersWon_30 (x := fc (n - 2)) rfl ?_
        refine Z.iload B dX11_ordersWon_31 (x := nI (r + i)) rfl ?_
        refine Z.idiv B dX11_ordersWon_33 (nI_ne0 (by omega) (by omega)) ?_
        refine Z.iload_n B dX11_ordersWon_34 (x := nI r) rfl ?_
        refine Z.imul B dX11_ordersWon_35 ?_
        refine Z.goto B dX11_ordersWon_36 (tgt := 40) rfl ?_
        refine Z.iadd B dX11_ordersWon_40 ?_
        refine Z.istore_n B dX11_ordersWon_41 (by decide) (L' := [(0, .int (nI n)), (1, .int (nI r)), (2, .int (fc (n - 2))), (3, .int ((cs (fc (n - 2)) r i) + (((fc (n - 2)) / (nI (r + i))) * (nI r)))), (4, .int (nI (r + i)))]) rfl ?_
        refine Z.iincN B dX11_ordersWon_42 (by decide) (a := r + i) rfl (L' := [(0, .int (nI n)), (1, .int (nI r)), (2, .int (fc (n - 2))), (3, .int ((cs (fc (n - 2)) r i) + (((fc (n - 2)) / (nI (r + i))) * (nI r)))), (4, .int (nI (r + i + 1)))]) rfl ?_
        refine Z.goto B dX11_ordersWon_45 (tgt := 18) rfl ?_
        exact ih (i + 1) (by omega) (by omega)
    exact hloop18 0 (Nat.zero_le _)
  · skip
    refine Z.iload_n B dX11_ordersWon_11 (x := fc (n - 2)) rfl ?_
    refine Z.iret B Rt dX11_ordersWon_12 (ty := .int) rfl rfl (by decide) (by decide) ?_
    exact ⟨by unfold cb; rw [if_pos h8], rfl⟩

theorem t_K_comes_1 {σ : zSt} (hl : Lay σ) {n r : Int32} (hn : n < nI 1 ∨ nI 8 < n) : Dt mX11_comes [.ref 0, .int n, .int r] σ (some (.int (-nI 6))) (zuX σ 43 (upd (zX σ 43) 6 (zX σ 43 6 + nI 1))) := by
  refine Dt.of (by decide) (Nat.le_of_ble_eq_true rfl) fun κ B Rt => ?_
  show Z κ 0 0 σ 0 [(0, .ref 0), (1, .int n), (2, .int r)] []
  refine Z.iload_n B dX11_comes_0 (x := n) rfl ?_
  refine Z.callSI (σ := σ) B (M' := mX11_isNumberOfComers) (as := [.int n]) (st := []) (v := .int (nI 0)) dX11_comes_1 wX11_isNumberOfComers iX11_isNumberOfComers kX11_256 (t_X11_isNumberOfComers_out (σ := σ) hn) rfl rfl (by decide) (by decide) (Nat.le_of_ble_eq_true rfl) (by decide) (by decide) ?_
  refine Z.if_eqN B dX11_comes_4 (tgt := 24) rfl (by omega) (fun h4 => ?_) (fun h4 => by exfalso; first | omega | contradiction | simp_all)
  refine Z.aload_n B dX11_comes_24 (v := .ref 0) rfl rfl ?_
  refine Z.bipush B dX11_comes_25 (v := nI 6) rfl ?_
  refine Z.callVI (σ := σ) B (M' := mX11_refuse) (as := [.int (nI 6)]) (st := []) (v := .int (-nI 6)) dX11_comes_27 wX11_refuse iX11_refuse sX11_refuse kX11_63 (hl.n (k := 0) (by decide)) (hl.k (k := 0) (by decide)) (by decide) rfl rfl (t_X11_refuse (σ := σ) hl (b := 6) (by decide)) rfl rfl (by decide) (by decide) (Nat.le_of_ble_eq_true rfl) (by decide) (by decide) ?_
  refine Z.eqσ (τ := (zuX σ 43 (upd (zX σ 43) 6 (zX σ 43 6 + nI 1)))) rfl ?_
  refine Z.iret B Rt dX11_comes_30 (ty := .int) rfl rfl (by decide) (by decide) ?_
  exact ⟨rfl, rfl⟩

theorem t_K_comes_2 {σ : zSt} (hl : Lay σ) {n : Nat} {r : Int32} (hn : n ≤ 8) (h1 : 1 ≤ n) (hr : zOut r n) : Dt mX11_comes [.ref 0, .int (nI n), .int r] σ (some (.int (-nI 6))) (zuX σ 43 (upd (zX σ 43) 6 (zX σ 43 6 + nI 1))) := by
  refine Dt.of (by decide) (Nat.le_of_ble_eq_true rfl) fun κ B Rt => ?_
  show Z κ 0 0 σ 0 [(0, .ref 0), (1, .int (nI n)), (2, .int r)] []
  refine Z.iload_n B dX11_comes_0 (x := nI n) rfl ?_
  refine Z.callSI (σ := σ) B (M' := mX11_isNumberOfComers) (as := [.int (nI n)]) (st := []) (v := .int (nI 1)) dX11_comes_1 wX11_isNumberOfComers iX11_isNumberOfComers kX11_256 (t_X11_isNumberOfComers_in (σ := σ) hn h1) rfl rfl (by decide) (by decide) (Nat.le_of_ble_eq_true rfl) (by decide) (by decide) ?_
  refine Z.if_eqN B dX11_comes_4 (tgt := 24) rfl (by omega) (fun h4 => by exfalso; first | omega | contradiction | simp_all) (fun h4 => ?_)
  refine Z.iload_n B dX11_comes_7 (x := r) rfl ?_
  refine Z.if_lt B dX11_comes_8 (tgt := 24) rfl (fun h8 => ?_) (fun h8 => ?_)
  · skip
    refine Z.aload_n B dX11_comes_24 (v := .ref 0) rfl rfl ?_
    refine Z.bipush B dX11_comes_25 (v := nI 6) rfl ?_
    refine Z.callVI (σ := σ) B (M' := mX11_refuse) (as := [.int (nI 6)]) (st := []) (v := .int (-nI 6)) dX11_comes_27 wX11_refuse iX11_refuse sX11_refuse kX11_63 (hl.n (k := 0) (by decide)) (hl.k (k := 0) (by decide)) (by decide) rfl rfl (t_X11_refuse (σ := σ) hl (b := 6) (by decide)) rfl rfl (by decide) (by decide) (Nat.le_of_ble_eq_true rfl) (by decide) (by decide) ?_
    refine Z.eqσ (τ := (zuX σ 43 (upd (zX σ 43) 6 (zX σ 43 6 + nI 1)))) rfl ?_
    refine Z.iret B Rt dX11_comes_30 (ty := .int) rfl rfl (by decide) (by decide) ?_
    exact ⟨rfl, rfl⟩
  · skip
    refine Z.iload_n B dX11_comes_11 (x := r) rfl ?_
    refine Z.iload_n B dX11_comes_12 (x := nI n) rfl ?_
    refine Z.icmp_ge B dX11_comes_13 (tgt := 24) rfl (fun h13 => ?_) (fun h13 => (by exfalso; exact zo_lt hr h8 (by rw [zlt_iff]; rw [zle_iff] at h13; omega)))
    refine Z.aload_n B dX11_comes_24 (v := .ref 0) rfl rfl ?_
    refine Z.bipush B dX11_comes_25 (v := nI 6) rfl ?_
    refine Z.callVI (σ := σ) B (M' := mX11_refuse) (as := [.int (nI 6)]) (st := []) (v := .int (-nI 6)) dX11_comes_27 wX11_refuse iX11_refuse sX11_refuse kX11_63 (hl.n (k := 0) (by decide)) (hl.k (k := 0) (by decide)) (by decide) rfl rfl (t_X11_refuse (σ := σ) hl (b := 6) (by decide)) rfl rfl (by decide) (by decide) (Nat.le_of_ble_eq_true rfl) (by decide) (by decide) ?_
    refine Z.eqσ (τ := (zuX σ 43 (upd (zX σ 43) 6 (zX σ 43 6 + nI 1)))) rfl ?_
    refine Z.iret B Rt dX11_comes_30 (ty := .int) rfl rfl (by decide) (by decide) ?_
    exact ⟨rfl, rfl⟩

theorem t_K_comes_0 {σ : zSt} (hl : Lay σ) {n r : Nat} (hn : n ≤ 8) (h1 : 1 ≤ n) (hr : r < n) : Dt mX11_comes [.ref 0, .int (nI n), .int (nI r)] σ (some (.int (cb n r))) σ := by
  refine Dt.of (by decide) (Nat.le_of_ble_eq_true rfl) fun κ B Rt => ?_
  show Z κ 0 0 σ 0 [(0, .ref 0), (1, .int (nI n)), (2, .int (nI r))] []
  refine Z.iload_n B dX11_comes_0 (x := nI n) rfl ?_
  refine Z.callSI (σ := σ) B (M' := mX11_isNumberOfComers) (as := [.int (nI n)]) (st := []) (v := .int (nI 1)) dX11_comes_1 wX11_isNumberOfComers iX11_isNumberOfComers kX11_256 (t_X11_isNumberOfComers_in (σ := σ) hn h1) rfl rfl (by decide) (by decide) (Nat.le_of_ble_eq_true rfl) (by decide) (by decide) ?_
  refine Z.if_eqN B dX11_comes_4 (tgt := 24) rfl (by omega) (fun h4 => by exfalso; first | omega | contradiction | simp_all) (fun h4 => ?_)
  refine Z.iload_n B dX11_comes_7 (x := nI r) rfl ?_
  refine Z.if_ltN B dX11_comes_8 (tgt := 24) rfl (by omega) ?_
  refine Z.iload_n B dX11_comes_11 (x := nI r) rfl ?_
  refine Z.iload_n B dX11_comes_12 (x := nI n) rfl ?_
  refine Z.icmp_geN B dX11_comes_13 (tgt := 24) rfl (by omega) (by omega) (fun h13 => by exfalso; first | omega | contradiction | simp_all) (fun h13 => ?_)
  refine Z.iload_n B dX11_comes_16 (x := nI n) rfl ?_
  refine Z.iload_n B dX11_comes_17 (x := nI r) rfl ?_
  refine Z.callSI (σ := σ) B (M' := mX11_ordersWon) (as := [.int (nI n), .int (nI r)]) (st := []) (v := .int (cb n r)) dX11_comes_18 wX11_ordersWon iX11_ordersWon kX11_259 (t_X11_ordersWon (σ := σ) hn h1 hr) rfl rfl (by decide) (by decide) (Nat.le_of_ble_eq_true rfl) (by decide) (by decide) ?_
  refine Z.goto B dX11_comes_21 (tgt := 30) rfl ?_
  refine Z.iret B Rt dX11_comes_30 (ty := .int) rfl rfl (by decide) (by decide) ?_
  exact ⟨rfl, rfl⟩

theorem t_K_lets_1 {σ : zSt} (hl : Lay σ) {n : Int32} (hn : n < nI 1 ∨ nI 8 < n) : Dt mX11_lets [.ref 0, .int n] σ (some (.int (-nI 6))) (zuX σ 43 (upd (zX σ 43) 6 (zX σ 43 6 + nI 1))) := by
  refine Dt.of (by decide) (Nat.le_of_ble_eq_true rfl) fun κ B Rt => ?_
  show Z κ 0 0 σ 0 [(0, .ref 0), (1, .int n)] []
  refine Z.iload_n B dX11_lets_0 (x := n) rfl ?_
  refine Z.callSI (σ := σ) B (M' := mX11_isNumberOfComers) (as := [.int n]) (st := []) (v := .int (nI 0)) dX11_lets_1 wX11_isNumberOfComers iX11_isNumberOfComers kX11_256 (t_X11_isNumberOfComers_out (σ := σ) hn) rfl rfl (by decide) (by decide) (Nat.le_of_ble_eq_true rfl) (by decide) (by decide) ?_
  refine Z.if_neN B dX11_lets_4 (tgt := 14) rfl (by omega) (fun h4 => by exfalso; first | omega | contradiction | simp_all) (fun h4 => ?_)
  refine Z.aload_n B dX11_lets_7 (v := .ref 0) rfl rfl ?_
  refine Z.bipush B dX11_lets_8 (v := nI 6) rfl ?_
  refine Z.callVI (σ := σ) B (M' := mX11_refuse) (as := [.int (nI 6)]) (st := []) (v := .int (-nI 6)) dX11_lets_10 wX11_refuse iX11_refuse sX11_refuse kX11_63 (hl.n (k := 0) (by decide)) (hl.k (k := 0) (by decide)) (by decide) rfl rfl (t_X11_refuse (σ := σ) hl (b := 6) (by decide)) rfl rfl (by decide) (by decide) (Nat.le_of_ble_eq_true rfl) (by decide) (by decide) ?_
  refine Z.eqσ (τ := (zuX σ 43 (upd (zX σ 43) 6 (zX σ 43 6 + nI 1)))) rfl ?_
  refine Z.iret B Rt dX11_lets_13 (ty := .int) rfl rfl (by decide) (by decide) ?_
  exact ⟨rfl, rfl⟩

theorem t_K_lets_0 {σ : zSt} (hl : Lay σ) {n : Nat} (hn : n ≤ 8) (h1 : 1 ≤ n) : Dt mX11_lets [.ref 0, .int (nI n)] σ (some (.int (nI (ga (cb n) (n - 1))))) σ := by
  refine Dt.of (by decide) (Nat.le_of_ble_eq_true rfl) fun κ B Rt => ?_
  show Z κ 0 0 σ 0 [(0, .ref 0), (1, .int (nI n))] []
  refine Z.iload_n B dX11_lets_0 (x := nI n) rfl ?_
  refine Z.callSI (σ := σ) B (M' := mX11_isNumberOfComers) (as := [.int (nI n)]) (st := []) (v := .int (nI 1)) dX11_lets_1 wX11_isNumberOfComers iX11_isNumberOfComers kX11_256 (t_X11_isNumberOfComers_in (σ := σ) hn h1) rfl rfl (by decide) (by decide) (Nat.le_of_ble_eq_true rfl) (by decide) (by decide) ?_
  refine Z.if_neN B dX11_lets_4 (tgt := 14) rfl (by omega) (fun h4 => ?_) (fun h4 => by exfalso; first | omega | contradiction | simp_all)
  refine Z.iconst B dX11_lets_14 (v := nI 0) rfl ?_
  refine Z.istore_n B dX11_lets_15 (by decide) (L' := [(0, .ref 0), (1, .int (nI n)), (2, .int (nI 0))]) rfl ?_
  refine Z.iconst B dX11_lets_16 (v := nI 1) rfl ?_
  refine Z.istore_n B dX11_lets_17 (by decide) (L' := [(0, .ref 0), (1, .int (nI n)), (2, .int (nI 0)), (3, .int (nI 1))]) rfl ?_
  have hloop18 : ∀ i : Nat, i ≤ n - 1 → Z κ 0 0 σ 18 [(0, .ref 0), (1, .int (nI n)), (2, .int (nI (ga (cb n) i))), (3, .int (nI (i + 1)))] [] := by
    refine z_loop (fun i => n - i) (fun i ih hi => ?_)
    refine Z.iload_n B dX11_lets_18 (x := nI (i + 1)) rfl ?_
    refine Z.iload_n B dX11_lets_19 (x := nI n) rfl ?_
    refine Z.icmp_geN B dX11_lets_20 (tgt := 44) rfl (by omega) (by omega) (fun h20 => ?_) (fun h20 => ?_)
    · skip
      obtain rfl : (n - 1) = i := by omega
      refine Z.iload_n B dX11_lets_44 (x := nI (ga (cb n) (n - 1))) rfl ?_
      refine Z.iret B Rt dX11_lets_45 (ty := .int) rfl rfl (by decide) (by decide) ?_
      exact ⟨rfl, rfl⟩
    · skip
      refine Z.iload_n B dX11_lets_23 (x := nI n) rfl ?_
      refine Z.iload_n B dX11_lets_24 (x := nI (i + 1)) rfl ?_
      refine Z.callSI (σ := σ) B (M' := mX11_ordersWon) (as := [.int (nI n), .int (nI (i + 1))]) (st := []) (v := .int (cb n (i + 1))) dX11_lets_25 wX11_ordersWon iX11_ordersWon kX11_259 (t_X11_ordersWon (σ := σ) hn h1 (r := i + 1) (by omega)) rfl rfl (by decide) (by decide) (Nat.le_of_ble_eq_true rfl) (by decide) (by decide) ?_
      refine Z.iload_n B dX11_lets_28 (x := nI n) rfl ?_
      refine Z.iload_n B dX11_lets_29 (x := nI (ga (cb n) i)) rfl ?_
      have hga := ga_le (cb n) i
      refine Z.callSI (σ := σ) B (M' := mX11_ordersWon) (as := [.int (nI n), .int (nI (ga (cb n) i))]) (st := [.int (cb n (i + 1))]) (v := .int (cb n (ga (cb n) i))) dX11_lets_30 wX11_ordersWon iX11_ordersWon kX11_259 (t_X11_ordersWon (σ := σ) hn h1 (r := ga (cb n) i) (by omega)) rfl rfl (by decide) (by decide) (Nat.le_of_ble_eq_true rfl) (by decide) (by decide) ?_
      refine Z.icmp_le B dX11_lets_33 (tgt := 38) rfl (fun h33 => ?_) (fun h33 => ?_)
      · skip
        have h33 : ¬ cb n (ga (cb n) i) < cb n (i + 1) := by rw [zlt_iff]; rw [zle_iff] at h33; omega
        refine Z.iincN B dX11_lets_38 (by decide) (a := i + 1) rfl (L' := [(0, .ref 0), (1, .int (nI n)), (2, .int (nI (ga (cb n) i))), (3, .int (nI (i + 1 + 1)))]) rfl ?_
        refine Z.goto B dX11_lets_41 (tgt := 18) rfl ?_
        have e := ih (i + 1) (by omega) (by omega)
        simp only [ga] at e
        first | (rw [if_pos h33] at e; exact e) | (rw [if_neg h33] at e; exact e)
      · skip
        have h33 : cb n (ga (cb n) i) < cb n (i + 1) := by rw [zlt_iff]; rw [zle_iff] at h33; omega
        refine Z.iload_n B dX11_lets_36 (x := nI (i + 1)) rfl ?_
        refine Z.istore_n B dX11_lets_37 (by decide) (L' := [(0, .ref 0), (1, .int (nI n)), (2, .int (nI (i + 1))), (3, .int (nI (i + 1)))]) rfl ?_
        refine Z.iincN B dX11_lets_38 (by decide) (a := i + 1) rfl (L' := [(0, .ref 0), (1, .int (nI n)), (2, .int (nI (i + 1))), (3, .int (nI (i + 1 + 1)))]) rfl ?_
        refine Z.goto B dX11_lets_41 (tgt := 18) rfl ?_
        have e := ih (i + 1) (by omega) (by omega)
        simp only [ga] at e
        first | (rw [if_pos h33] at e; exact e) | (rw [if_neg h33] at e; exact e)
  exact hloop18 0 (Nat.zero_le _)

theorem t_K_clear_0 {σ : zSt} (hl : Lay σ) {n a y : Nat} (H : zHd σ n a y)  : Dt mX11_clear [.ref 0] σ (some (.int (nI n))) (zuX σ 20 (upd (zX σ 20) 2 (nI 0))) := by
  obtain ⟨-, hn, hn8, ha, ha4, hy, hy8⟩ := id H
  refine Dt.of (by decide) (Nat.le_of_ble_eq_true rfl) fun κ B Rt => ?_
  show Z κ 0 0 σ 0 [(0, .ref 0)] []
  refine Z.aload_n B dX11_clear_0 (v := .ref 0) rfl rfl ?_
  refine Z.getR (σ := σ) B fX11_28_11 dX11_clear_1 (hl.n (k := 0) (by decide)) (hl.k (k := 0) (by decide)) (by decide) (j := 20) (hl.r (k := 0) (f := 2) (by decide) (by decide)) ?_
  refine Z.callVI (σ := σ) B (M' := mX1_letComersGo) (as := []) (st := []) (v := .int (nI n)) dX11_clear_4 wX1_letComersGo iX1_letComersGo sX1_letComersGo kX11_271 (hl.n (k := 20) (by decide)) (hl.k (k := 20) (by decide)) (by decide) rfl rfl (t_X1_letComersGo (σ := σ) H) rfl rfl (by decide) (by decide) (Nat.le_of_ble_eq_true rfl) (by decide) (by decide) ?_
  refine Z.eqσ (τ := (zuX σ 20 (upd (zX σ 20) 2 (nI 0)))) rfl ?_
  refine Z.iret B Rt dX11_clear_7 (ty := .int) rfl rfl (by decide) (by decide) ?_
  exact ⟨rfl, rfl⟩

theorem t_K_seed_0 {σ : zSt} (hl : Lay σ) {v : Int32} : Dt mX11_seed [.ref 0, .int v] σ (some (.int (zX σ 20 8))) (zuX σ 20 (upd (zX σ 20) 8 v)) := by
  refine Dt.of (by decide) (Nat.le_of_ble_eq_true rfl) fun κ B Rt => ?_
  show Z κ 0 0 σ 0 [(0, .ref 0), (1, .int v)] []
  refine Z.aload_n B dX11_seed_0 (v := .ref 0) rfl rfl ?_
  refine Z.getR (σ := σ) B fX11_28_11 dX11_seed_1 (hl.n (k := 0) (by decide)) (hl.k (k := 0) (by decide)) (by decide) (j := 20) (hl.r (k := 0) (f := 2) (by decide) (by decide)) ?_
  refine Z.callVI (σ := σ) B (M' := mX1_seedNow) (as := []) (st := []) (v := .int (zX σ 20 8)) dX11_seed_4 wX1_seedNow iX1_seedNow sX1_seedNow kX11_274 (hl.n (k := 20) (by decide)) (hl.k (k := 20) (by decide)) (by decide) rfl rfl (t_X1_seedNow (σ := σ) hl) rfl rfl (by decide) (by decide) (Nat.le_of_ble_eq_true rfl) (by decide) (by decide) ?_
  refine Z.istore_n B dX11_seed_7 (by decide) (L' := [(0, .ref 0), (1, .int v), (2, .int (zX σ 20 8))]) rfl ?_
  refine Z.aload_n B dX11_seed_8 (v := .ref 0) rfl rfl ?_
  refine Z.getR (σ := σ) B fX11_28_11 dX11_seed_9 (hl.n (k := 0) (by decide)) (hl.k (k := 0) (by decide)) (by decide) (j := 20) (hl.r (k := 0) (f := 2) (by decide) (by decide)) ?_
  refine Z.iload_n B dX11_seed_12 (x := v) rfl ?_
  refine Z.callVN (σ := σ) B (M' := mX1_putSeed) (as := [.int v]) (st := []) dX11_seed_13 wX1_putSeed iX1_putSeed sX1_putSeed kX11_277 (hl.n (k := 20) (by decide)) (hl.k (k := 20) (by decide)) (by decide) rfl rfl (t_X1_putSeed (σ := σ) hl) rfl rfl (by decide) (by decide) (Nat.le_of_ble_eq_true rfl) (by decide) (by decide) ?_
  refine Z.eqσ (τ := (zuX σ 20 (upd (zX σ 20) 8 v))) rfl ?_
  refine Z.iload_n B dX11_seed_16 (x := zX σ 20 8) rfl ?_
  refine Z.iret B Rt dX11_seed_17 (ty := .int) rfl rfl (by decide) (by decide) ?_
  exact ⟨rfl, rfl⟩

theorem t_K_trace_0 {σ : zSt} (hl : Lay σ) {r i : Nat} (hr : zX σ 18 1 = nI r) (hr3 : r < 2 ^ 31) (hi : i < r) (hi20 : i < 20) : Dt mX11_trace [.ref 0, .int (nI i)] σ (some (.int (zX σ 19 i))) σ := by
  refine Dt.of (by decide) (Nat.le_of_ble_eq_true rfl) fun κ B Rt => ?_
  show Z κ 0 0 σ 0 [(0, .ref 0), (1, .int (nI i))] []
  refine Z.aload_n B dX11_trace_0 (v := .ref 0) rfl rfl ?_
  refine Z.getR (σ := σ) B fX11_19_11 dX11_trace_1 (hl.n (k := 0) (by decide)) (hl.k (k := 0) (by decide)) (by decide) (j := 18) (hl.r (k := 0) (f := 1) (by decide) (by decide)) ?_
  refine Z.iload_n B dX11_trace_4 (x := nI i) rfl ?_
  refine Z.callVI (σ := σ) B (M' := mX8_bodyAt) (as := [.int (nI i)]) (st := []) (v := .int (zX σ 19 i)) dX11_trace_5 wX8_bodyAt iX8_bodyAt sX8_bodyAt kX11_292 (hl.n (k := 18) (by decide)) (hl.k (k := 18) (by decide)) (by decide) rfl rfl (t_X8_bodyAt_in (σ := σ) hl hr hr3 hi hi20) rfl rfl (by decide) (by decide) (Nat.le_of_ble_eq_true rfl) (by decide) (by decide) ?_
  refine Z.iret B Rt dX11_trace_8 (ty := .int) rfl rfl (by decide) (by decide) ?_
  exact ⟨rfl, rfl⟩

theorem t_K_trace_n {σ : zSt} (hl : Lay σ) {i : Int32} (hi : i < 0) : Dt mX11_trace [.ref 0, .int i] σ (some (.int (-1))) σ := by
  refine Dt.of (by decide) (Nat.le_of_ble_eq_true rfl) fun κ B Rt => ?_
  show Z κ 0 0 σ 0 [(0, .ref 0), (1, .int i)] []
  refine Z.aload_n B dX11_trace_0 (v := .ref 0) rfl rfl ?_
  refine Z.getR (σ := σ) B fX11_19_11 dX11_trace_1 (hl.n (k := 0) (by decide)) (hl.k (k := 0) (by decide)) (by decide) (j := 18) (hl.r (k := 0) (f := 1) (by decide) (by decide)) ?_
  refine Z.iload_n B dX11_trace_4 (x := i) rfl ?_
  refine Z.callVI (σ := σ) B (M' := mX8_bodyAt) (as := [.int i]) (st := []) (v := .int (-1)) dX11_trace_5 wX8_bodyAt iX8_bodyAt sX8_bodyAt kX11_292 (hl.n (k := 18) (by decide)) (hl.k (k := 18) (by decide)) (by decide) rfl rfl (t_X8_bodyAt_neg (σ := σ) hl hi) rfl rfl (by decide) (by decide) (Nat.le_of_ble_eq_true rfl) (by decide) (by decide) ?_
  refine Z.iret B Rt dX11_trace_8 (ty := .int) rfl rfl (by decide) (by decide) ?_
  exact ⟨rfl, rfl⟩

theorem t_K_trace_f {σ : zSt} (hl : Lay σ) {r : Nat} {i : Int32} (hr : zX σ 18 1 = nI r) (hi0 : ¬ i < 0) (hi : nI r ≤ i) : Dt mX11_trace [.ref 0, .int i] σ (some (.int (-1))) σ := by
  refine Dt.of (by decide) (Nat.le_of_ble_eq_true rfl) fun κ B Rt => ?_
  show Z κ 0 0 σ 0 [(0, .ref 0), (1, .int i)] []
  refine Z.aload_n B dX11_trace_0 (v := .ref 0) rfl rfl ?_
  refine Z.getR (σ := σ) B fX11_19_11 dX11_trace_1 (hl.n (k := 0) (by decide)) (hl.k (k := 0) (by decide)) (by decide) (j := 18) (hl.r (k := 0) (f := 1) (by decide) (by decide)) ?_
  refine Z.iload_n B dX11_trace_4 (x := i) rfl ?_
  refine Z.callVI (σ := σ) B (M' := mX8_bodyAt) (as := [.int i]) (st := []) (v := .int (-1)) dX11_trace_5 wX8_bodyAt iX8_bodyAt sX8_bodyAt kX11_292 (hl.n (k := 18) (by decide)) (hl.k (k := 18) (by decide)) (by decide) rfl rfl (t_X8_bodyAt_far (σ := σ) hl hr hi0 hi) rfl rfl (by decide) (by decide) (Nat.le_of_ble_eq_true rfl) (by decide) (by decide) ?_
  refine Z.iret B Rt dX11_trace_8 (ty := .int) rfl rfl (by decide) (by decide) ?_
  exact ⟨rfl, rfl⟩

theorem t_K_trace_f2 {σ : zSt} (hl : Lay σ) {i : Int32} (hi0 : ¬ i < 0) (hi : nI 20 ≤ i) : Dt mX11_trace [.ref 0, .int i] σ (some (.int (-1))) σ := by
  refine Dt.of (by decide) (Nat.le_of_ble_eq_true rfl) fun κ B Rt => ?_
  show Z κ 0 0 σ 0 [(0, .ref 0), (1, .int i)] []
  refine Z.aload_n B dX11_trace_0 (v := .ref 0) rfl rfl ?_
  refine Z.getR (σ := σ) B fX11_19_11 dX11_trace_1 (hl.n (k := 0) (by decide)) (hl.k (k := 0) (by decide)) (by decide) (j := 18) (hl.r (k := 0) (f := 1) (by decide) (by decide)) ?_
  refine Z.iload_n B dX11_trace_4 (x := i) rfl ?_
  refine Z.callVI (σ := σ) B (M' := mX8_bodyAt) (as := [.int i]) (st := []) (v := .int (-1)) dX11_trace_5 wX8_bodyAt iX8_bodyAt sX8_bodyAt kX11_292 (hl.n (k := 18) (by decide)) (hl.k (k := 18) (by decide)) (by decide) rfl rfl (t_X8_bodyAt_far2 (σ := σ) hl hi0 hi) rfl rfl (by decide) (by decide) (Nat.le_of_ble_eq_true rfl) (by decide) (by decide) ?_
  refine Z.iret B Rt dX11_trace_8 (ty := .int) rfl rfl (by decide) (by decide) ?_
  exact ⟨rfl, rfl⟩

theorem t_K_status_0 {σ : zSt} (hl : Lay σ) {n a y : Nat} (H : zHd σ n a y)  : Dt mX11_status [.ref 0, .int (nI 0)] σ (some (.int (nI n))) σ := by
  obtain ⟨-, hn, hn8, ha, ha4, hy, hy8⟩ := id H
  refine Dt.of (by decide) (Nat.le_of_ble_eq_true rfl) fun κ B Rt => ?_
  show Z κ 0 0 σ 0 [(0, .ref 0), (1, .int (nI 0))] []
  refine Z.iload_n B dX11_status_0 (x := nI 0) rfl ?_
  refine Z.tabIn B dX11_status_1 (by decide) (by decide) (off := 43) (by decide) (tgt := 44) rfl ?_
  refine Z.aload_n B dX11_status_44 (v := .ref 0) rfl rfl ?_
  refine Z.getR (σ := σ) B fX11_28_11 dX11_status_45 (hl.n (k := 0) (by decide)) (hl.k (k := 0) (by decide)) (by decide) (j := 20) (hl.r (k := 0) (f := 2) (by decide) (by decide)) ?_
  refine Z.callVI (σ := σ) B (M' := mX1_comerCount) (as := []) (st := []) (v := .int (nI n)) dX11_status_48 wX1_comerCount iX1_comerCount sX1_comerCount kX11_243 (hl.n (k := 20) (by decide)) (hl.k (k := 20) (by decide)) (by decide) rfl rfl (t_X1_comerCount (σ := σ) H) rfl rfl (by decide) (by decide) (Nat.le_of_ble_eq_true rfl) (by decide) (by decide) ?_
  refine Z.iret B Rt dX11_status_51 (ty := .int) rfl rfl (by decide) (by decide) ?_
  exact ⟨rfl, rfl⟩

theorem t_K_status_1 {σ : zSt} (hl : Lay σ) {n a y : Nat} (H : zHd σ n a y)  : Dt mX11_status [.ref 0, .int (nI 1)] σ (some (.int (nI a))) σ := by
  obtain ⟨-, hn, hn8, ha, ha4, hy, hy8⟩ := id H
  refine Dt.of (by decide) (Nat.le_of_ble_eq_true rfl) fun κ B Rt => ?_
  show Z κ 0 0 σ 0 [(0, .ref 0), (1, .int (nI 1))] []
  refine Z.iload_n B dX11_status_0 (x := nI 1) rfl ?_
  refine Z.tabIn B dX11_status_1 (by decide) (by decide) (off := 51) (by decide) (tgt := 52) rfl ?_
  refine Z.aload_n B dX11_status_52 (v := .ref 0) rfl rfl ?_
  refine Z.getR (σ := σ) B fX11_28_11 dX11_status_53 (hl.n (k := 0) (by decide)) (hl.k (k := 0) (by decide)) (by decide) (j := 20) (hl.r (k := 0) (f := 2) (by decide) (by decide)) ?_
  refine Z.callVI (σ := σ) B (M' := mX1_askerCount) (as := []) (st := []) (v := .int (nI a)) dX11_status_56 wX1_askerCount iX1_askerCount sX1_askerCount kX11_207 (hl.n (k := 20) (by decide)) (hl.k (k := 20) (by decide)) (by decide) rfl rfl (t_X1_askerCount (σ := σ) H) rfl rfl (by decide) (by decide) (Nat.le_of_ble_eq_true rfl) (by decide) (by decide) ?_
  refine Z.iret B Rt dX11_status_59 (ty := .int) rfl rfl (by decide) (by decide) ?_
  exact ⟨rfl, rfl⟩

theorem t_K_status_2 {σ : zSt} (hl : Lay σ) {n a y : Nat} (H : zHd σ n a y)  : Dt mX11_status [.ref 0, .int (nI 2)] σ (some (.int (nI y))) σ := by
  obtain ⟨-, hn, hn8, ha, ha4, hy, hy8⟩ := id H
  refine Dt.of (by decide) (Nat.le_of_ble_eq_true rfl) fun κ B Rt => ?_
  show Z κ 0 0 σ 0 [(0, .ref 0), (1, .int (nI 2))] []
  refine Z.iload_n B dX11_status_0 (x := nI 2) rfl ?_
  refine Z.tabIn B dX11_status_1 (by decide) (by decide) (off := 59) (by decide) (tgt := 60) rfl ?_
  refine Z.aload_n B dX11_status_60 (v := .ref 0) rfl rfl ?_
  refine Z.getR (σ := σ) B fX11_28_11 dX11_status_61 (hl.n (k := 0) (by decide)) (hl.k (k := 0) (by decide)) (by decide) (j := 20) (hl.r (k := 0) (f := 2) (by decide) (by decide)) ?_
  refine Z.callVI (σ := σ) B (M' := mX1_wayCount) (as := []) (st := []) (v := .int (nI y)) dX11_status_64 wX1_wayCount iX1_wayCount sX1_wayCount kX11_295 (hl.n (k := 20) (by decide)) (hl.k (k := 20) (by decide)) (by decide) rfl rfl (t_X1_wayCount (σ := σ) H) rfl rfl (by decide) (by decide) (Nat.le_of_ble_eq_true rfl) (by decide) (by decide) ?_
  refine Z.iret B Rt dX11_status_67 (ty := .int) rfl rfl (by decide) (by decide) ?_
  exact ⟨rfl, rfl⟩

theorem t_K_status_3 {σ : zSt} (hl : Lay σ) {n a y : Nat} (H : zHd σ n a y)  : Dt mX11_status [.ref 0, .int (nI 3)] σ (some (.int (sm (fun c => cn (zX σ 21) c 6) n))) σ := by
  obtain ⟨-, hn, hn8, ha, ha4, hy, hy8⟩ := id H
  refine Dt.of (by decide) (Nat.le_of_ble_eq_true rfl) fun κ B Rt => ?_
  show Z κ 0 0 σ 0 [(0, .ref 0), (1, .int (nI 3))] []
  refine Z.iload_n B dX11_status_0 (x := nI 3) rfl ?_
  refine Z.tabIn B dX11_status_1 (by decide) (by decide) (off := 67) (by decide) (tgt := 68) rfl ?_
  refine Z.aload_n B dX11_status_68 (v := .ref 0) rfl rfl ?_
  refine Z.getR (σ := σ) B fX11_28_11 dX11_status_69 (hl.n (k := 0) (by decide)) (hl.k (k := 0) (by decide)) (by decide) (j := 20) (hl.r (k := 0) (f := 2) (by decide) (by decide)) ?_
  refine Z.callVI (σ := σ) B (M' := mX1_sumOfSums) (as := []) (st := []) (v := .int (sm (fun c => cn (zX σ 21) c 6) n)) dX11_status_72 wX1_sumOfSums iX1_sumOfSums sX1_sumOfSums kX11_298 (hl.n (k := 20) (by decide)) (hl.k (k := 20) (by decide)) (by decide) rfl rfl (t_X1_sumOfSums (σ := σ) H) rfl rfl (by decide) (by decide) (Nat.le_of_ble_eq_true rfl) (by decide) (by decide) ?_
  refine Z.iret B Rt dX11_status_75 (ty := .int) rfl rfl (by decide) (by decide) ?_
  exact ⟨rfl, rfl⟩

theorem t_K_status_5 {σ : zSt} (hl : Lay σ) {n a y : Nat} (H : zHd σ n a y)  : Dt mX11_status [.ref 0, .int (nI 5)] σ (some (.int (zX σ 20 8))) σ := by
  obtain ⟨-, hn, hn8, ha, ha4, hy, hy8⟩ := id H
  refine Dt.of (by decide) (Nat.le_of_ble_eq_true rfl) fun κ B Rt => ?_
  show Z κ 0 0 σ 0 [(0, .ref 0), (1, .int (nI 5))] []
  refine Z.iload_n B dX11_status_0 (x := nI 5) rfl ?_
  refine Z.tabIn B dX11_status_1 (by decide) (by decide) (off := 83) (by decide) (tgt := 84) rfl ?_
  refine Z.aload_n B dX11_status_84 (v := .ref 0) rfl rfl ?_
  refine Z.getR (σ := σ) B fX11_28_11 dX11_status_85 (hl.n (k := 0) (by decide)) (hl.k (k := 0) (by decide)) (by decide) (j := 20) (hl.r (k := 0) (f := 2) (by decide) (by decide)) ?_
  refine Z.callVI (σ := σ) B (M' := mX1_seedNow) (as := []) (st := []) (v := .int (zX σ 20 8)) dX11_status_88 wX1_seedNow iX1_seedNow sX1_seedNow kX11_274 (hl.n (k := 20) (by decide)) (hl.k (k := 20) (by decide)) (by decide) rfl rfl (t_X1_seedNow (σ := σ) hl) rfl rfl (by decide) (by decide) (Nat.le_of_ble_eq_true rfl) (by decide) (by decide) ?_
  refine Z.iret B Rt dX11_status_91 (ty := .int) rfl rfl (by decide) (by decide) ?_
  exact ⟨rfl, rfl⟩

theorem t_K_status_6 {σ : zSt} (hl : Lay σ) {n a y : Nat} (H : zHd σ n a y)  : Dt mX11_status [.ref 0, .int (nI 6)] σ (some (.int (zX σ 18 1))) σ := by
  obtain ⟨-, hn, hn8, ha, ha4, hy, hy8⟩ := id H
  refine Dt.of (by decide) (Nat.le_of_ble_eq_true rfl) fun κ B Rt => ?_
  show Z κ 0 0 σ 0 [(0, .ref 0), (1, .int (nI 6))] []
  refine Z.iload_n B dX11_status_0 (x := nI 6) rfl ?_
  refine Z.tabIn B dX11_status_1 (by decide) (by decide) (off := 91) (by decide) (tgt := 92) rfl ?_
  refine Z.aload_n B dX11_status_92 (v := .ref 0) rfl rfl ?_
  refine Z.getR (σ := σ) B fX11_19_11 dX11_status_93 (hl.n (k := 0) (by decide)) (hl.k (k := 0) (by decide)) (by decide) (j := 18) (hl.r (k := 0) (f := 1) (by decide) (by decide)) ?_
  refine Z.callVI (σ := σ) B (M' := mX8_ran) (as := []) (st := []) (v := .int (zX σ 18 1)) dX11_status_96 wX8_ran iX8_ran sX8_ran kX11_304 (hl.n (k := 18) (by decide)) (hl.k (k := 18) (by decide)) (by decide) rfl rfl (t_X8_ran (σ := σ) hl) rfl rfl (by decide) (by decide) (Nat.le_of_ble_eq_true rfl) (by decide) (by decide) ?_
  refine Z.iret B Rt dX11_status_99 (ty := .int) rfl rfl (by decide) (by decide) ?_
  exact ⟨rfl, rfl⟩

theorem t_K_status_4n {σ : zSt} (hl : Lay σ) {n a y : Nat} (H : zHd σ n a y) (h0 : a = 0) : Dt mX11_status [.ref 0, .int (nI 4)] σ (some (.int (-1))) σ := by
  obtain ⟨-, hn, hn8, ha, ha4, hy, hy8⟩ := id H
  refine Dt.of (by decide) (Nat.le_of_ble_eq_true rfl) fun κ B Rt => ?_
  show Z κ 0 0 σ 0 [(0, .ref 0), (1, .int (nI 4))] []
  refine Z.iload_n B dX11_status_0 (x := nI 4) rfl ?_
  refine Z.tabIn B dX11_status_1 (by decide) (by decide) (off := 75) (by decide) (tgt := 76) rfl ?_
  refine Z.aload_n B dX11_status_76 (v := .ref 0) rfl rfl ?_
  refine Z.getR (σ := σ) B fX11_28_11 dX11_status_77 (hl.n (k := 0) (by decide)) (hl.k (k := 0) (by decide)) (by decide) (j := 20) (hl.r (k := 0) (f := 2) (by decide) (by decide)) ?_
  refine Z.callVI (σ := σ) B (M' := mX1_first) (as := []) (st := []) (v := .int (-1)) dX11_status_80 wX1_first iX1_first sX1_first kX11_301 (hl.n (k := 20) (by decide)) (hl.k (k := 20) (by decide)) (by decide) rfl rfl (t_X1_first_no (σ := σ) H h0) rfl rfl (by decide) (by decide) (Nat.le_of_ble_eq_true rfl) (by decide) (by decide) ?_
  refine Z.iret B Rt dX11_status_83 (ty := .int) rfl rfl (by decide) (by decide) ?_
  exact ⟨rfl, rfl⟩

theorem t_K_status_4 {σ : zSt} (hl : Lay σ) {n a y : Nat} (H : zHd σ n a y) (h0 : 0 < a) : Dt mX11_status [.ref 0, .int (nI 4)] σ (some (.int (zX σ 23 0))) σ := by
  obtain ⟨-, hn, hn8, ha, ha4, hy, hy8⟩ := id H
  refine Dt.of (by decide) (Nat.le_of_ble_eq_true rfl) fun κ B Rt => ?_
  show Z κ 0 0 σ 0 [(0, .ref 0), (1, .int (nI 4))] []
  refine Z.iload_n B dX11_status_0 (x := nI 4) rfl ?_
  refine Z.tabIn B dX11_status_1 (by decide) (by decide) (off := 75) (by decide) (tgt := 76) rfl ?_
  refine Z.aload_n B dX11_status_76 (v := .ref 0) rfl rfl ?_
  refine Z.getR (σ := σ) B fX11_28_11 dX11_status_77 (hl.n (k := 0) (by decide)) (hl.k (k := 0) (by decide)) (by decide) (j := 20) (hl.r (k := 0) (f := 2) (by decide) (by decide)) ?_
  refine Z.callVI (σ := σ) B (M' := mX1_first) (as := []) (st := []) (v := .int (zX σ 23 0)) dX11_status_80 wX1_first iX1_first sX1_first kX11_301 (hl.n (k := 20) (by decide)) (hl.k (k := 20) (by decide)) (by decide) rfl rfl (t_X1_first_in (σ := σ) H h0) rfl rfl (by decide) (by decide) (Nat.le_of_ble_eq_true rfl) (by decide) (by decide) ?_
  refine Z.iret B Rt dX11_status_83 (ty := .int) rfl rfl (by decide) (by decide) ?_
  exact ⟨rfl, rfl⟩

theorem t_K_status_r {σ : zSt} (hl : Lay σ) {k : Nat} (hk : 11 ≤ k) (hk2 : k ≤ 17) : Dt mX11_status [.ref 0, .int (nI k)] σ (some (.int (zX σ 43 (k - 10)))) σ := by
  refine Dt.of (by decide) (Nat.le_of_ble_eq_true rfl) fun κ B Rt => ?_
  show Z κ 0 0 σ 0 [(0, .ref 0), (1, .int (nI k))] []
  refine Z.iload_n B dX11_status_0 (x := nI k) rfl ?_
  refine Z.tabOut B dX11_status_1 (Or.inr (by rw [nI_toInt (by omega)]; omega)) (tgt := 100) rfl ?_
  refine Z.iload_n B dX11_status_100 (x := nI k) rfl ?_
  refine Z.bipush B dX11_status_101 (v := nI 10) rfl ?_
  refine Z.icmp_leN B dX11_status_103 (tgt := 124) rfl (by omega) (by omega) (fun h103 => by exfalso; first | omega | contradiction | simp_all) (fun h103 => ?_)
  refine Z.iload_n B dX11_status_106 (x := nI k) rfl ?_
  refine Z.bipush B dX11_status_107 (v := nI 17) rfl ?_
  refine Z.icmp_gtN B dX11_status_109 (tgt := 124) rfl (by omega) (by omega) (fun h109 => by exfalso; first | omega | contradiction | simp_all) (fun h109 => ?_)
  refine Z.aload_n B dX11_status_112 (v := .ref 0) rfl rfl ?_
  refine Z.getR (σ := σ) B fX11_44_11 dX11_status_113 (hl.n (k := 0) (by decide)) (hl.k (k := 0) (by decide)) (by decide) (j := 43) (hl.r (k := 0) (f := 5) (by decide) (by decide)) ?_
  refine Z.iload_n B dX11_status_116 (x := nI k) rfl ?_
  refine Z.bipush B dX11_status_117 (v := nI 10) rfl ?_
  refine Z.isubN B dX11_status_119 (a := k) (b := 10) (by omega) ?_
  refine Z.iald (σ := σ) B dX11_status_120 (n := 8) (hl.n (k := 43) (by decide)) (hl.k (k := 43) (by decide)) (hl.l (k := 43) (by decide)) (by decide) (j := k - 10) rfl (by omega) (v := (zX σ 43 (k - 10))) rfl ?_
  refine Z.goto B dX11_status_121 (tgt := 125) rfl ?_
  refine Z.iret B Rt dX11_status_125 (ty := .int) rfl rfl (by decide) (by decide) ?_
  exact ⟨rfl, rfl⟩

theorem t_K_status_x {σ : zSt} (hl : Lay σ) {v : Int32} (hv : v.toInt < 0 ∨ 6 < v.toInt) (hv2 : v ≤ nI 10 ∨ nI 17 < v) : Dt mX11_status [.ref 0, .int v] σ (some (.int (-1))) σ := by
  refine Dt.of (by decide) (Nat.le_of_ble_eq_true rfl) fun κ B Rt => ?_
  show Z κ 0 0 σ 0 [(0, .ref 0), (1, .int v)] []
  refine Z.iload_n B dX11_status_0 (x := v) rfl ?_
  refine Z.tabOut B dX11_status_1 hv (tgt := 100) rfl ?_
  refine Z.iload_n B dX11_status_100 (x := v) rfl ?_
  refine Z.bipush B dX11_status_101 (v := nI 10) rfl ?_
  refine Z.icmp_le B dX11_status_103 (tgt := 124) rfl (fun h103 => ?_) (fun h103 => ?_)
  · skip
    refine Z.iconst B dX11_status_124 (v := (-1)) rfl ?_
    refine Z.iret B Rt dX11_status_125 (ty := .int) rfl rfl (by decide) (by decide) ?_
    exact ⟨rfl, rfl⟩
  · skip
    refine Z.iload_n B dX11_status_106 (x := v) rfl ?_
    refine Z.bipush B dX11_status_107 (v := nI 17) rfl ?_
    refine Z.icmp_gt B dX11_status_109 (tgt := 124) rfl (fun h109 => ?_) (fun h109 => (by exfalso; rcases hv2 with h | h; exact h103 h; exact h109 h))
    refine Z.iconst B dX11_status_124 (v := (-1)) rfl ?_
    refine Z.iret B Rt dX11_status_125 (ty := .int) rfl rfl (by decide) (by decide) ?_
    exact ⟨rfl, rfl⟩
