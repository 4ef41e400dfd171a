/-! askers, copies, acts, the head: the class and the model -/
theorem Lay.uR {σ : zSt} {k : Nat} {f : Nat → Option Nat} (h : Lay σ) (hk : ∀ j, layR k j = 0) : Lay (zuR σ k f) := by
  refine ⟨h.1, h.2.1, h.2.2.1, fun k2 f2 h1 h2 => ?_⟩
  have hne : k2 ≠ k := fun e => h2 (by rw [e]; exact hk f2)
  have e : zR (zuR σ k f) k2 = zR σ k2 := zfu_ne hne
  rw [e]
  exact h.2.2.2 k2 f2 h1 h2
def zBad (i : Int32) (m n : Nat) : Prop := i < 0 ∨ ∃ j : Nat, i = nI j ∧ j < 2 ^ 31 ∧ m < j + n
theorem zOut_int {v : Int32} {k : Nat} (h : zOut v (k + 1)) (hk : k + 1 < 2 ^ 31) : v.toInt < 0 ∨ (k : Int) < v.toInt := by
  rcases h with h | h
  · rw [zlt_iff] at h; exact Or.inl h
  · rw [zle_iff, nI_toInt hk] at h; exact Or.inr (by omega)
theorem cpy_cpy {s d e : Nat → Int64} {a b n : Nat} : va_cpy (va_cpy s d a 0 n) e 0 b n = va_cpy s e a b n := by
  funext j
  simp only [va_cpy]
  by_cases h : b ≤ j ∧ j < b + n
  · rw [if_pos h, if_pos h, if_pos (by omega), show a + (0 + (j - b) - 0) = a + (j - b) by omega]
  · rw [if_neg h, if_neg h]

theorem t_K_asker_1 {σ : zSt} (hl : Lay σ) {s l d : Int32} (hs : zOut s 4) : Dt mX11_asker [.ref 0, .int s, .int l, .int d] σ (some (.int (-nI 6))) (zuX σ 43 (upd (zX σ 43) 6 (zX σ 43 6 + nI 1))) := by
  refine Dt.of (by decide) (Nat.le_of_ble_eq_true rfl) fun κ B Rt => ?_
  show Z κ 0 0 σ 0 [(0, .ref 0), (1, .int s), (2, .int l), (3, .int d)] []
  refine Z.iload_n B dX11_asker_0 (x := s) rfl ?_
  refine Z.gets B (x := 1) zKon1 (zT_at 459 (by decide +kernel) rfl) dX11_asker_1 ?_
  refine Z.iconst B dX11_asker_4 (v := nI 0) rfl ?_
  refine Z.cld B (j := 0) zKt1 dX11_asker_5 (by decide) (by decide) (v := nI 3) rfl ?_
  refine Z.callSI (σ := σ) B (M' := mX11_isUpTo) (as := [.int s, .int (nI 3)]) (st := []) (v := .int (nI 0)) dX11_asker_6 wX11_isUpTo iX11_isUpTo kX11_127 (t_X11_isUpTo_out (σ := σ) (n := 3) hs (by decide)) rfl rfl (by decide) (by decide) (Nat.le_of_ble_eq_true rfl) (by decide) (by decide) ?_
  refine Z.if_eqN B dX11_asker_9 (tgt := 36) rfl (by omega) (fun h9 => ?_) (fun h9 => by exfalso; first | omega | contradiction | simp_all)
  refine Z.aload_n B dX11_asker_36 (v := .ref 0) rfl rfl ?_
  refine Z.bipush B dX11_asker_37 (v := nI 6) rfl ?_
  refine Z.callVI (σ := σ) B (M' := mX11_refuse) (as := [.int (nI 6)]) (st := []) (v := .int (-nI 6)) dX11_asker_39 wX11_refuse iX11_refuse sX11_refuse kX11_63 (hl.n (k := 0) (by decide)) (hl.k (k := 0) (by decide)) (by decide) rfl rfl (t_X11_refuse (σ := σ) hl (b := 6) (by decide)) rfl rfl (by decide) (by decide) (Nat.le_of_ble_eq_true rfl) (by decide) (by decide) ?_
  refine Z.eqσ (τ := (zuX σ 43 (upd (zX σ 43) 6 (zX σ 43 6 + nI 1)))) rfl ?_
  refine Z.iret B Rt dX11_asker_42 (ty := .int) rfl rfl (by decide) (by decide) ?_
  exact ⟨rfl, rfl⟩

theorem t_K_asker_2 {σ : zSt} (hl : Lay σ) {s : Nat} {l d : Int32} (hs : s ≤ 3) (hl2 : zOut l 10) : Dt mX11_asker [.ref 0, .int (nI s), .int l, .int d] σ (some (.int (-nI 6))) (zuX σ 43 (upd (zX σ 43) 6 (zX σ 43 6 + nI 1))) := by
  refine Dt.of (by decide) (Nat.le_of_ble_eq_true rfl) fun κ B Rt => ?_
  show Z κ 0 0 σ 0 [(0, .ref 0), (1, .int (nI s)), (2, .int l), (3, .int d)] []
  refine Z.iload_n B dX11_asker_0 (x := nI s) rfl ?_
  refine Z.gets B (x := 1) zKon1 (zT_at 459 (by decide +kernel) rfl) dX11_asker_1 ?_
  refine Z.iconst B dX11_asker_4 (v := nI 0) rfl ?_
  refine Z.cld B (j := 0) zKt1 dX11_asker_5 (by decide) (by decide) (v := nI 3) rfl ?_
  refine Z.callSI (σ := σ) B (M' := mX11_isUpTo) (as := [.int (nI s), .int (nI 3)]) (st := []) (v := .int (nI 1)) dX11_asker_6 wX11_isUpTo iX11_isUpTo kX11_127 (t_X11_isUpTo_in (σ := σ) hs (by decide)) rfl rfl (by decide) (by decide) (Nat.le_of_ble_eq_true rfl) (by decide) (by decide) ?_
  refine Z.if_eqN B dX11_asker_9 (tgt := 36) rfl (by omega) (fun h9 => by exfalso; first | omega | contradiction | simp_all) (fun h9 => ?_)
  refine Z.iload_n B dX11_asker_12 (x := l) rfl ?_
  refine Z.gets B (x := 1) zKon1 (zT_at 459 (by decide +kernel) rfl) dX11_asker_13 ?_
  refine Z.iconst B dX11_asker_16 (v := nI 1) rfl ?_
  refine Z.cld B (j := 1) zKt1 dX11_asker_17 (by decide) (by decide) (v := nI 9) rfl ?_
  refine Z.callSI (σ := σ) B (M' := mX11_isUpTo) (as := [.int l, .int (nI 9)]) (st := []) (v := .int (nI 0)) dX11_asker_18 wX11_isUpTo iX11_isUpTo kX11_127 (t_X11_isUpTo_out (σ := σ) (n := 9) hl2 (by decide)) rfl rfl (by decide) (by decide) (Nat.le_of_ble_eq_true rfl) (by decide) (by decide) ?_
  refine Z.if_eqN B dX11_asker_21 (tgt := 36) rfl (by omega) (fun h21 => ?_) (fun h21 => by exfalso; first | omega | contradiction | simp_all)
  refine Z.aload_n B dX11_asker_36 (v := .ref 0) rfl rfl ?_
  refine Z.bipush B dX11_asker_37 (v := nI 6) rfl ?_
  refine Z.callVI (σ := σ) B (M' := mX11_refuse) (as := [.int (nI 6)]) (st := []) (v := .int (-nI 6)) dX11_asker_39 wX11_refuse iX11_refuse sX11_refuse kX11_63 (hl.n (k := 0) (by decide)) (hl.k (k := 0) (by decide)) (by decide) rfl rfl (t_X11_refuse (σ := σ) hl (b := 6) (by decide)) rfl rfl (by decide) (by decide) (Nat.le_of_ble_eq_true rfl) (by decide) (by decide) ?_
  refine Z.eqσ (τ := (zuX σ 43 (upd (zX σ 43) 6 (zX σ 43 6 + nI 1)))) rfl ?_
  refine Z.iret B Rt dX11_asker_42 (ty := .int) rfl rfl (by decide) (by decide) ?_
  exact ⟨rfl, rfl⟩

theorem t_K_asker_3 {σ : zSt} (hl : Lay σ) {s l : Nat} {d : Int32} (hs : s ≤ 3) (hl2 : l ≤ 9) (hd : zOut d 11) : Dt mX11_asker [.ref 0, .int (nI s), .int (nI l), .int d] σ (some (.int (-nI 6))) (zuX σ 43 (upd (zX σ 43) 6 (zX σ 43 6 + nI 1))) := by
  refine Dt.of (by decide) (Nat.le_of_ble_eq_true rfl) fun κ B Rt => ?_
  show Z κ 0 0 σ 0 [(0, .ref 0), (1, .int (nI s)), (2, .int (nI l)), (3, .int d)] []
  refine Z.iload_n B dX11_asker_0 (x := nI s) rfl ?_
  refine Z.gets B (x := 1) zKon1 (zT_at 459 (by decide +kernel) rfl) dX11_asker_1 ?_
  refine Z.iconst B dX11_asker_4 (v := nI 0) rfl ?_
  refine Z.cld B (j := 0) zKt1 dX11_asker_5 (by decide) (by decide) (v := nI 3) rfl ?_
  refine Z.callSI (σ := σ) B (M' := mX11_isUpTo) (as := [.int (nI s), .int (nI 3)]) (st := []) (v := .int (nI 1)) dX11_asker_6 wX11_isUpTo iX11_isUpTo kX11_127 (t_X11_isUpTo_in (σ := σ) hs (by decide)) rfl rfl (by decide) (by decide) (Nat.le_of_ble_eq_true rfl) (by decide) (by decide) ?_
  refine Z.if_eqN B dX11_asker_9 (tgt := 36) rfl (by omega) (fun h9 => by exfalso; first | omega | contradiction | simp_all) (fun h9 => ?_)
  refine Z.iload_n B dX11_asker_12 (x := nI l) rfl ?_
  refine Z.gets B (x := 1) zKon1 (zT_at 459 (by decide +kernel) rfl) dX11_asker_13 ?_
  refine Z.iconst B dX11_asker_16 (v := nI 1) rfl ?_
  refine Z.cld B (j := 1) zKt1 dX11_asker_17 (by decide) (by decide) (v := nI 9) rfl ?_
  refine Z.callSI (σ := σ) B (M' := mX11_isUpTo) (as := [.int (nI l), .int (nI 9)]) (st := []) (v := .int (nI 1)) dX11_asker_18 wX11_isUpTo iX11_isUpTo kX11_127 (t_X11_isUpTo_in (σ := σ) hl2 (by decide)) rfl rfl (by decide) (by decide) (Nat.le_of_ble_eq_true rfl) (by decide) (by decide) ?_
  refine Z.if_eqN B dX11_asker_21 (tgt := 36) rfl (by omega) (fun h21 => by exfalso; first | omega | contradiction | simp_all) (fun h21 => ?_)
  refine Z.iload_n B dX11_asker_24 (x := d) rfl ?_
  refine Z.gets B (x := 1) zKon1 (zT_at 459 (by decide +kernel) rfl) dX11_asker_25 ?_
  refine Z.iconst B dX11_asker_28 (v := nI 2) rfl ?_
  refine Z.cld B (j := 2) zKt1 dX11_asker_29 (by decide) (by decide) (v := nI 10) rfl ?_
  refine Z.callSI (σ := σ) B (M' := mX11_isUpTo) (as := [.int d, .int (nI 10)]) (st := []) (v := .int (nI 0)) dX11_asker_30 wX11_isUpTo iX11_isUpTo kX11_127 (t_X11_isUpTo_out (σ := σ) (n := 10) hd (by decide)) rfl rfl (by decide) (by decide) (Nat.le_of_ble_eq_true rfl) (by decide) (by decide) ?_
  refine Z.if_neN B dX11_asker_33 (tgt := 43) rfl (by omega) (fun h33 => by exfalso; first | omega | contradiction | simp_all) (fun h33 => ?_)
  refine Z.aload_n B dX11_asker_36 (v := .ref 0) rfl rfl ?_
  refine Z.bipush B dX11_asker_37 (v := nI 6) rfl ?_
  refine Z.callVI (σ := σ) B (M' := mX11_refuse) (as := [.int (nI 6)]) (st := []) (v := .int (-nI 6)) dX11_asker_39 wX11_refuse iX11_refuse sX11_refuse kX11_63 (hl.n (k := 0) (by decide)) (hl.k (k := 0) (by decide)) (by decide) rfl rfl (t_X11_refuse (σ := σ) hl (b := 6) (by decide)) rfl rfl (by decide) (by decide) (Nat.le_of_ble_eq_true rfl) (by decide) (by decide) ?_
  refine Z.eqσ (τ := (zuX σ 43 (upd (zX σ 43) 6 (zX σ 43 6 + nI 1)))) rfl ?_
  refine Z.iret B Rt dX11_asker_42 (ty := .int) rfl rfl (by decide) (by decide) ?_
  exact ⟨rfl, rfl⟩

theorem t_K_asker_7 {σ : zSt} (hl : Lay σ) {n a y : Nat} (H : zHd σ n a y) {s l d : Nat} (hs : s ≤ 3) (hl2 : l ≤ 9) (hd : d ≤ 10) (h4 : a = 4) : Dt mX11_asker [.ref 0, .int (nI s), .int (nI l), .int (nI d)] σ (some (.int (-nI 7))) (zuX σ 43 (upd (zX σ 43) 7 (zX σ 43 7 + nI 1))) := by
  obtain ⟨-, hn, hn8, ha, ha4, hy, hy8⟩ := id H
  refine Dt.of (by decide) (Nat.le_of_ble_eq_true rfl) fun κ B Rt => ?_
  show Z κ 0 0 σ 0 [(0, .ref 0), (1, .int (nI s)), (2, .int (nI l)), (3, .int (nI d))] []
  refine Z.iload_n B dX11_asker_0 (x := nI s) rfl ?_
  refine Z.gets B (x := 1) zKon1 (zT_at 459 (by decide +kernel) rfl) dX11_asker_1 ?_
  refine Z.iconst B dX11_asker_4 (v := nI 0) rfl ?_
  refine Z.cld B (j := 0) zKt1 dX11_asker_5 (by decide) (by decide) (v := nI 3) rfl ?_
  refine Z.callSI (σ := σ) B (M' := mX11_isUpTo) (as := [.int (nI s), .int (nI 3)]) (st := []) (v := .int (nI 1)) dX11_asker_6 wX11_isUpTo iX11_isUpTo kX11_127 (t_X11_isUpTo_in (σ := σ) hs (by decide)) rfl rfl (by decide) (by decide) (Nat.le_of_ble_eq_true rfl) (by decide) (by decide) ?_
  refine Z.if_eqN B dX11_asker_9 (tgt := 36) rfl (by omega) (fun h9 => by exfalso; first | omega | contradiction | simp_all) (fun h9 => ?_)
  refine Z.iload_n B dX11_asker_12 (x := nI l) rfl ?_
  refine Z.gets B (x := 1) zKon1 (zT_at 459 (by decide +kernel) rfl) dX11_asker_13 ?_
  refine Z.iconst B dX11_asker_16 (v := nI 1) rfl ?_
  refine Z.cld B (j := 1) zKt1 dX11_asker_17 (by decide) (by decide) (v := nI 9) rfl ?_
  refine Z.callSI (σ := σ) B (M' := mX11_isUpTo) (as := [.int (nI l), .int (nI 9)]) (st := []) (v := .int (nI 1)) dX11_asker_18 wX11_isUpTo iX11_isUpTo kX11_127 (t_X11_isUpTo_in (σ := σ) hl2 (by decide)) rfl rfl (by decide) (by decide) (Nat.le_of_ble_eq_true rfl) (by decide) (by decide) ?_
  refine Z.if_eqN B dX11_asker_21 (tgt := 36) rfl (by omega) (fun h21 => by exfalso; first | omega | contradiction | simp_all) (fun h21 => ?_)
  refine Z.iload_n B dX11_asker_24 (x := nI d) rfl ?_
  refine Z.gets B (x := 1) zKon1 (zT_at 459 (by decide +kernel) rfl) dX11_asker_25 ?_
  refine Z.iconst B dX11_asker_28 (v := nI 2) rfl ?_
  refine Z.cld B (j := 2) zKt1 dX11_asker_29 (by decide) (by decide) (v := nI 10) rfl ?_
  refine Z.callSI (σ := σ) B (M' := mX11_isUpTo) (as := [.int (nI d), .int (nI 10)]) (st := []) (v := .int (nI 1)) dX11_asker_30 wX11_isUpTo iX11_isUpTo kX11_127 (t_X11_isUpTo_in (σ := σ) hd (by decide)) rfl rfl (by decide) (by decide) (Nat.le_of_ble_eq_true rfl) (by decide) (by decide) ?_
  refine Z.if_neN B dX11_asker_33 (tgt := 43) rfl (by omega) (fun h33 => ?_) (fun h33 => by exfalso; first | omega | contradiction | simp_all)
  refine Z.aload_n B dX11_asker_43 (v := .ref 0) rfl rfl ?_
  refine Z.getR (σ := σ) B fX11_28_11 dX11_asker_44 (hl.n (k := 0) (by decide)) (hl.k (k := 0) (by decide)) (by decide) (j := 20) (hl.r (k := 0) (f := 2) (by decide) (by decide)) ?_
  refine Z.iconst B dX11_asker_47 (v := nI 1) rfl ?_
  refine Z.callVI (σ := σ) B (M' := mX1_hasRoomFor) (as := [.int (nI 1)]) (st := []) (v := .int (nI 0)) dX11_asker_48 wX1_hasRoomFor iX1_hasRoomFor sX1_hasRoomFor kX11_130 (hl.n (k := 20) (by decide)) (hl.k (k := 20) (by decide)) (by decide) rfl rfl (t_X1_hasRoomFor_1_0 (σ := σ) hl hn hn8 ha ha4 hy hy8 h4) rfl rfl (by decide) (by decide) (Nat.le_of_ble_eq_true rfl) (by decide) (by decide) ?_
  refine Z.if_eqN B dX11_asker_51 (tgt := 67) rfl (by omega) (fun h51 => ?_) (fun h51 => by exfalso; first | omega | contradiction | simp_all)
  refine Z.aload_n B dX11_asker_67 (v := .ref 0) rfl rfl ?_
  refine Z.bipush B dX11_asker_68 (v := nI 7) rfl ?_
  refine Z.callVI (σ := σ) B (M' := mX11_refuse) (as := [.int (nI 7)]) (st := []) (v := .int (-nI 7)) dX11_asker_70 wX11_refuse iX11_refuse sX11_refuse kX11_63 (hl.n (k := 0) (by decide)) (hl.k (k := 0) (by decide)) (by decide) rfl rfl (t_X11_refuse (σ := σ) hl (b := 7) (by decide)) rfl rfl (by decide) (by decide) (Nat.le_of_ble_eq_true rfl) (by decide) (by decide) ?_
  refine Z.eqσ (τ := (zuX σ 43 (upd (zX σ 43) 7 (zX σ 43 7 + nI 1)))) rfl ?_
  refine Z.iret B Rt dX11_asker_73 (ty := .int) rfl rfl (by decide) (by decide) ?_
  exact ⟨rfl, rfl⟩

theorem t_K_asker_0 {σ : zSt} (hl : Lay σ) {n a y : Nat} (H : zHd σ n a y) {s l d : Nat} (hs : s ≤ 3) (hl2 : l ≤ 9) (hd : d ≤ 10) (h4 : a < 4) : Dt mX11_asker [.ref 0, .int (nI s), .int (nI l), .int (nI d)] σ (some (.int (nI a))) (zuX (zuX (zuX σ 22 (upd (upd (upd (zX σ 22) (a * 3) (nI s)) (a * 3 + 1) (nI l)) (a * 3 + 2) (nI d))) 23 (upd (zX σ 23) a (nI a))) 20 (upd (zX σ 20) 5 (nI (a + 1)))) := by
  obtain ⟨-, hn, hn8, ha, ha4, hy, hy8⟩ := id H
  refine Dt.of (by decide) (Nat.le_of_ble_eq_true rfl) fun κ B Rt => ?_
  show Z κ 0 0 σ 0 [(0, .ref 0), (1, .int (nI s)), (2, .int (nI l)), (3, .int (nI d))] []
  refine Z.iload_n B dX11_asker_0 (x := nI s) rfl ?_
  refine Z.gets B (x := 1) zKon1 (zT_at 459 (by decide +kernel) rfl) dX11_asker_1 ?_
  refine Z.iconst B dX11_asker_4 (v := nI 0) rfl ?_
  refine Z.cld B (j := 0) zKt1 dX11_asker_5 (by decide) (by decide) (v := nI 3) rfl ?_
  refine Z.callSI (σ := σ) B (M' := mX11_isUpTo) (as := [.int (nI s), .int (nI 3)]) (st := []) (v := .int (nI 1)) dX11_asker_6 wX11_isUpTo iX11_isUpTo kX11_127 (t_X11_isUpTo_in (σ := σ) hs (by decide)) rfl rfl (by decide) (by decide) (Nat.le_of_ble_eq_true rfl) (by decide) (by decide) ?_
  refine Z.if_eqN B dX11_asker_9 (tgt := 36) rfl (by omega) (fun h9 => by exfalso; first | omega | contradiction | simp_all) (fun h9 => ?_)
  refine Z.iload_n B dX11_asker_12 (x := nI l) rfl ?_
  refine Z.gets B (x := 1) zKon1 (zT_at 459 (by decide +kernel) rfl) dX11_asker_13 ?_
  refine Z.iconst B dX11_asker_16 (v := nI 1) rfl ?_
  refine Z.cld B (j := 1) zKt1 dX11_asker_17 (by decide) (by decide) (v := nI 9) rfl ?_
  refine Z.callSI (σ := σ) B (M' := mX11_isUpTo) (as := [.int (nI l), .int (nI 9)]) (st := []) (v := .int (nI 1)) dX11_asker_18 wX11_isUpTo iX11_isUpTo kX11_127 (t_X11_isUpTo_in (σ := σ) hl2 (by decide)) rfl rfl (by decide) (by decide) (Nat.le_of_ble_eq_true rfl) (by decide) (by decide) ?_
  refine Z.if_eqN B dX11_asker_21 (tgt := 36) rfl (by omega) (fun h21 => by exfalso; first | omega | contradiction | simp_all) (fun h21 => ?_)
  refine Z.iload_n B dX11_asker_24 (x := nI d) rfl ?_
  refine Z.gets B (x := 1) zKon1 (zT_at 459 (by decide +kernel) rfl) dX11_asker_25 ?_
  refine Z.iconst B dX11_asker_28 (v := nI 2) rfl ?_
  refine Z.cld B (j := 2) zKt1 dX11_asker_29 (by decide) (by decide) (v := nI 10) rfl ?_
  refine Z.callSI (σ := σ) B (M' := mX11_isUpTo) (as := [.int (nI d), .int (nI 10)]) (st := []) (v := .int (nI 1)) dX11_asker_30 wX11_isUpTo iX11_isUpTo kX11_127 (t_X11_isUpTo_in (σ := σ) hd (by decide)) rfl rfl (by decide) (by decide) (Nat.le_of_ble_eq_true rfl) (by decide) (by decide) ?_
  refine Z.if_neN B dX11_asker_33 (tgt := 43) rfl (by omega) (fun h33 => ?_) (fun h33 => by exfalso; first | omega | contradiction | simp_all)
  refine Z.aload_n B dX11_asker_43 (v := .ref 0) rfl rfl ?_
  refine Z.getR (σ := σ) B fX11_28_11 dX11_asker_44 (hl.n (k := 0) (by decide)) (hl.k (k := 0) (by decide)) (by decide) (j := 20) (hl.r (k := 0) (f := 2) (by decide) (by decide)) ?_
  refine Z.iconst B dX11_asker_47 (v := nI 1) rfl ?_
  refine Z.callVI (σ := σ) B (M' := mX1_hasRoomFor) (as := [.int (nI 1)]) (st := []) (v := .int (nI 1)) dX11_asker_48 wX1_hasRoomFor iX1_hasRoomFor sX1_hasRoomFor kX11_130 (hl.n (k := 20) (by decide)) (hl.k (k := 20) (by decide)) (by decide) rfl rfl (t_X1_hasRoomFor_1_1 (σ := σ) hl hn hn8 ha ha4 hy hy8 h4) rfl rfl (by decide) (by decide) (Nat.le_of_ble_eq_true rfl) (by decide) (by decide) ?_
  refine Z.if_eqN B dX11_asker_51 (tgt := 67) rfl (by omega) (fun h51 => by exfalso; first | omega | contradiction | simp_all) (fun h51 => ?_)
  refine Z.aload_n B dX11_asker_54 (v := .ref 0) rfl rfl ?_
  refine Z.getR (σ := σ) B fX11_28_11 dX11_asker_55 (hl.n (k := 0) (by decide)) (hl.k (k := 0) (by decide)) (by decide) (j := 20) (hl.r (k := 0) (f := 2) (by decide) (by decide)) ?_
  refine Z.iload_n B dX11_asker_58 (x := nI s) rfl ?_
  refine Z.iload_n B dX11_asker_59 (x := nI l) rfl ?_
  refine Z.iload_n B dX11_asker_60 (x := nI d) rfl ?_
  refine Z.callVI (σ := σ) B (M' := mX1_addAsker) (as := [.int (nI s), .int (nI l), .int (nI d)]) (st := []) (v := .int (nI a)) dX11_asker_61 wX1_addAsker iX1_addAsker sX1_addAsker kX11_141 (hl.n (k := 20) (by decide)) (hl.k (k := 20) (by decide)) (by decide) rfl rfl (t_X1_addAsker (σ := σ) hl hn hn8 ha ha4 hy hy8 h4) rfl rfl (by decide) (by decide) (Nat.le_of_ble_eq_true rfl) (by decide) (by decide) ?_
  refine Z.eqσ (τ := (zuX (zuX (zuX σ 22 (upd (upd (upd (zX σ 22) (a * 3) (nI s)) (a * 3 + 1) (nI l)) (a * 3 + 2) (nI d))) 23 (upd (zX σ 23) a (nI a))) 20 (upd (zX σ 20) 5 (nI (a + 1))))) rfl ?_
  refine Z.goto B dX11_asker_64 (tgt := 73) rfl ?_
  refine Z.iret B Rt dX11_asker_73 (ty := .int) rfl rfl (by decide) (by decide) ?_
  exact ⟨rfl, rfl⟩

theorem t_M_asker_1 {σ : zSt} (hl : Lay σ) {n a y : Nat} (H : zMd σ n a y) {s l d : Int32} (hs : zOut s 4) : Dt mX12_asker [.ref 45, .int s, .int l, .int d] σ (some (.int (-6))) (zuX σ 46 (upd (zX σ 46) 6 (zX σ 46 6 + nI 1))) := by
  obtain ⟨-, hn, hn8, ha, ha4, hy, hy8⟩ := id H
  refine Dt.of (by decide) (Nat.le_of_ble_eq_true rfl) fun κ B Rt => ?_
  show Z κ 0 0 σ 0 [(0, .ref 45), (1, .int s), (2, .int l), (3, .int d)] []
  refine Z.iload_n B dX12_asker_0 (x := s) rfl ?_
  refine Z.if_lt B dX12_asker_1 (tgt := 29) rfl (fun h1 => ?_) (fun h1 => ?_)
  · skip
    refine Z.aload_n B dX12_asker_29 (v := .ref 45) rfl rfl ?_
    refine Z.bipush B dX12_asker_30 (v := (-6)) rfl ?_
    refine Z.callVI (σ := σ) B (M' := mX12_no) (as := [.int (-6)]) (st := []) (v := .int (-6)) dX12_asker_32 wX12_no iX12_no sX12_no kX12_94 (hl.n (k := 45) (by decide)) (hl.k (k := 45) (by decide)) (by decide) rfl rfl (t_X12_no_6 (σ := σ) hl) rfl rfl (by decide) (by decide) (Nat.le_of_ble_eq_true rfl) (by decide) (by decide) ?_
    refine Z.eqσ (τ := (zuX σ 46 (upd (zX σ 46) 6 (zX σ 46 6 + nI 1)))) rfl ?_
    refine Z.iret B Rt dX12_asker_35 (ty := .int) rfl rfl (by decide) (by decide) ?_
    exact ⟨rfl, rfl⟩
  · skip
    refine Z.iload_n B dX12_asker_4 (x := s) rfl ?_
    refine Z.iconst B dX12_asker_5 (v := nI 3) rfl ?_
    refine Z.icmp_gt B dX12_asker_6 (tgt := 29) rfl (fun h6 => ?_) (fun h6 => (zo_ngt hs h1 h6 (by decide)).elim)
    refine Z.aload_n B dX12_asker_29 (v := .ref 45) rfl rfl ?_
    refine Z.bipush B dX12_asker_30 (v := (-6)) rfl ?_
    refine Z.callVI (σ := σ) B (M' := mX12_no) (as := [.int (-6)]) (st := []) (v := .int (-6)) dX12_asker_32 wX12_no iX12_no sX12_no kX12_94 (hl.n (k := 45) (by decide)) (hl.k (k := 45) (by decide)) (by decide) rfl rfl (t_X12_no_6 (σ := σ) hl) rfl rfl (by decide) (by decide) (Nat.le_of_ble_eq_true rfl) (by decide) (by decide) ?_
    refine Z.eqσ (τ := (zuX σ 46 (upd (zX σ 46) 6 (zX σ 46 6 + nI 1)))) rfl ?_
    refine Z.iret B Rt dX12_asker_35 (ty := .int) rfl rfl (by decide) (by decide) ?_
    exact ⟨rfl, rfl⟩

theorem t_M_asker_2 {σ : zSt} (hl : Lay σ) {n a y : Nat} (H : zMd σ n a y) {s : Nat} {l d : Int32} (hs : s ≤ 3) (hl2 : zOut l 10) : Dt mX12_asker [.ref 45, .int (nI s), .int l, .int d] σ (some (.int (-6))) (zuX σ 46 (upd (zX σ 46) 6 (zX σ 46 6 + nI 1))) := by
  obtain ⟨-, hn, hn8, ha, ha4, hy, hy8⟩ := id H
  refine Dt.of (by decide) (Nat.le_of_ble_eq_true rfl) fun κ B Rt => ?_
  show Z κ 0 0 σ 0 [(0, .ref 45), (1, .int (nI s)), (2, .int l), (3, .int d)] []
  refine Z.iload_n B dX12_asker_0 (x := nI s) rfl ?_
  refine Z.if_ltN B dX12_asker_1 (tgt := 29) rfl (by omega) ?_
  refine Z.iload_n B dX12_asker_4 (x := nI s) rfl ?_
  refine Z.iconst B dX12_asker_5 (v := nI 3) rfl ?_
  refine Z.icmp_gtN B dX12_asker_6 (tgt := 29) rfl (by omega) (by omega) (fun h6 => by exfalso; first | omega | contradiction | simp_all) (fun h6 => ?_)
  refine Z.iload_n B dX12_asker_9 (x := l) rfl ?_
  refine Z.if_lt B dX12_asker_10 (tgt := 29) rfl (fun h10 => ?_) (fun h10 => ?_)
  · skip
    refine Z.aload_n B dX12_asker_29 (v := .ref 45) rfl rfl ?_
    refine Z.bipush B dX12_asker_30 (v := (-6)) rfl ?_
    refine Z.callVI (σ := σ) B (M' := mX12_no) (as := [.int (-6)]) (st := []) (v := .int (-6)) dX12_asker_32 wX12_no iX12_no sX12_no kX12_94 (hl.n (k := 45) (by decide)) (hl.k (k := 45) (by decide)) (by decide) rfl rfl (t_X12_no_6 (σ := σ) hl) rfl rfl (by decide) (by decide) (Nat.le_of_ble_eq_true rfl) (by decide) (by decide) ?_
    refine Z.eqσ (τ := (zuX σ 46 (upd (zX σ 46) 6 (zX σ 46 6 + nI 1)))) rfl ?_
    refine Z.iret B Rt dX12_asker_35 (ty := .int) rfl rfl (by decide) (by decide) ?_
    exact ⟨rfl, rfl⟩
  · skip
    refine Z.iload_n B dX12_asker_13 (x := l) rfl ?_
    refine Z.bipush B dX12_asker_14 (v := nI 9) rfl ?_
    refine Z.icmp_gt B dX12_asker_16 (tgt := 29) rfl (fun h16 => ?_) (fun h16 => (zo_ngt hl2 h10 h16 (by decide)).elim)
    refine Z.aload_n B dX12_asker_29 (v := .ref 45) rfl rfl ?_
    refine Z.bipush B dX12_asker_30 (v := (-6)) rfl ?_
    refine Z.callVI (σ := σ) B (M' := mX12_no) (as := [.int (-6)]) (st := []) (v := .int (-6)) dX12_asker_32 wX12_no iX12_no sX12_no kX12_94 (hl.n (k := 45) (by decide)) (hl.k (k := 45) (by decide)) (by decide) rfl rfl (t_X12_no_6 (σ := σ) hl) rfl rfl (by decide) (by decide) (Nat.le_of_ble_eq_true rfl) (by decide) (by decide) ?_
    refine Z.eqσ (τ := (zuX σ 46 (upd (zX σ 46) 6 (zX σ 46 6 + nI 1)))) rfl ?_
    refine Z.iret B Rt dX12_asker_35 (ty := .int) rfl rfl (by decide) (by decide) ?_
    exact ⟨rfl, rfl⟩

theorem t_M_asker_3 {σ : zSt} (hl : Lay σ) {n a y : Nat} (H : zMd σ n a y) {s l : Nat} {d : Int32} (hs : s ≤ 3) (hl2 : l ≤ 9) (hd : zOut d 11) : Dt mX12_asker [.ref 45, .int (nI s), .int (nI l), .int d] σ (some (.int (-6))) (zuX σ 46 (upd (zX σ 46) 6 (zX σ 46 6 + nI 1))) := by
  obtain ⟨-, hn, hn8, ha, ha4, hy, hy8⟩ := id H
  refine Dt.of (by decide) (Nat.le_of_ble_eq_true rfl) fun κ B Rt => ?_
  show Z κ 0 0 σ 0 [(0, .ref 45), (1, .int (nI s)), (2, .int (nI l)), (3, .int d)] []
  refine Z.iload_n B dX12_asker_0 (x := nI s) rfl ?_
  refine Z.if_ltN B dX12_asker_1 (tgt := 29) rfl (by omega) ?_
  refine Z.iload_n B dX12_asker_4 (x := nI s) rfl ?_
  refine Z.iconst B dX12_asker_5 (v := nI 3) rfl ?_
  refine Z.icmp_gtN B dX12_asker_6 (tgt := 29) rfl (by omega) (by omega) (fun h6 => by exfalso; first | omega | contradiction | simp_all) (fun h6 => ?_)
  refine Z.iload_n B dX12_asker_9 (x := nI l) rfl ?_
  refine Z.if_ltN B dX12_asker_10 (tgt := 29) rfl (by omega) ?_
  refine Z.iload_n B dX12_asker_13 (x := nI l) rfl ?_
  refine Z.bipush B dX12_asker_14 (v := nI 9) rfl ?_
  refine Z.icmp_gtN B dX12_asker_16 (tgt := 29) rfl (by omega) (by omega) (fun h16 => by exfalso; first | omega | contradiction | simp_all) (fun h16 => ?_)
  refine Z.iload_n B dX12_asker_19 (x := d) rfl ?_
  refine Z.if_lt B dX12_asker_20 (tgt := 29) rfl (fun h20 => ?_) (fun h20 => ?_)
  · skip
    refine Z.aload_n B dX12_asker_29 (v := .ref 45) rfl rfl ?_
    refine Z.bipush B dX12_asker_30 (v := (-6)) rfl ?_
    refine Z.callVI (σ := σ) B (M' := mX12_no) (as := [.int (-6)]) (st := []) (v := .int (-6)) dX12_asker_32 wX12_no iX12_no sX12_no kX12_94 (hl.n (k := 45) (by decide)) (hl.k (k := 45) (by decide)) (by decide) rfl rfl (t_X12_no_6 (σ := σ) hl) rfl rfl (by decide) (by decide) (Nat.le_of_ble_eq_true rfl) (by decide) (by decide) ?_
    refine Z.eqσ (τ := (zuX σ 46 (upd (zX σ 46) 6 (zX σ 46 6 + nI 1)))) rfl ?_
    refine Z.iret B Rt dX12_asker_35 (ty := .int) rfl rfl (by decide) (by decide) ?_
    exact ⟨rfl, rfl⟩
  · skip
    refine Z.iload_n B dX12_asker_23 (x := d) rfl ?_
    refine Z.bipush B dX12_asker_24 (v := nI 10) rfl ?_
    refine Z.icmp_le B dX12_asker_26 (tgt := 36) rfl (fun h26 => (zo_le hd h20 h26 (by decide)).elim) (fun h26 => ?_)
    refine Z.aload_n B dX12_asker_29 (v := .ref 45) rfl rfl ?_
    refine Z.bipush B dX12_asker_30 (v := (-6)) rfl ?_
    refine Z.callVI (σ := σ) B (M' := mX12_no) (as := [.int (-6)]) (st := []) (v := .int (-6)) dX12_asker_32 wX12_no iX12_no sX12_no kX12_94 (hl.n (k := 45) (by decide)) (hl.k (k := 45) (by decide)) (by decide) rfl rfl (t_X12_no_6 (σ := σ) hl) rfl rfl (by decide) (by decide) (Nat.le_of_ble_eq_true rfl) (by decide) (by decide) ?_
    refine Z.eqσ (τ := (zuX σ 46 (upd (zX σ 46) 6 (zX σ 46 6 + nI 1)))) rfl ?_
    refine Z.iret B Rt dX12_asker_35 (ty := .int) rfl rfl (by decide) (by decide) ?_
    exact ⟨rfl, rfl⟩

theorem t_M_asker_7 {σ : zSt} (hl : Lay σ) {n a y : Nat} (H : zMd σ n a y) {s l d : Nat} (hs : s ≤ 3) (hl2 : l ≤ 9) (hd : d ≤ 10) (h4 : a = 4) : Dt mX12_asker [.ref 45, .int (nI s), .int (nI l), .int (nI d)] σ (some (.int (-7))) (zuX σ 46 (upd (zX σ 46) 7 (zX σ 46 7 + nI 1))) := by
  obtain ⟨-, hn, hn8, ha, ha4, hy, hy8⟩ := id H
  refine Dt.of (by decide) (Nat.le_of_ble_eq_true rfl) fun κ B Rt => ?_
  show Z κ 0 0 σ 0 [(0, .ref 45), (1, .int (nI s)), (2, .int (nI l)), (3, .int (nI d))] []
  refine Z.iload_n B dX12_asker_0 (x := nI s) rfl ?_
  refine Z.if_ltN B dX12_asker_1 (tgt := 29) rfl (by omega) ?_
  refine Z.iload_n B dX12_asker_4 (x := nI s) rfl ?_
  refine Z.iconst B dX12_asker_5 (v := nI 3) rfl ?_
  refine Z.icmp_gtN B dX12_asker_6 (tgt := 29) rfl (by omega) (by omega) (fun h6 => by exfalso; first | omega | contradiction | simp_all) (fun h6 => ?_)
  refine Z.iload_n B dX12_asker_9 (x := nI l) rfl ?_
  refine Z.if_ltN B dX12_asker_10 (tgt := 29) rfl (by omega) ?_
  refine Z.iload_n B dX12_asker_13 (x := nI l) rfl ?_
  refine Z.bipush B dX12_asker_14 (v := nI 9) rfl ?_
  refine Z.icmp_gtN B dX12_asker_16 (tgt := 29) rfl (by omega) (by omega) (fun h16 => by exfalso; first | omega | contradiction | simp_all) (fun h16 => ?_)
  refine Z.iload_n B dX12_asker_19 (x := nI d) rfl ?_
  refine Z.if_ltN B dX12_asker_20 (tgt := 29) rfl (by omega) ?_
  refine Z.iload_n B dX12_asker_23 (x := nI d) rfl ?_
  refine Z.bipush B dX12_asker_24 (v := nI 10) rfl ?_
  refine Z.icmp_leN B dX12_asker_26 (tgt := 36) rfl (by omega) (by omega) (fun h26 => ?_) (fun h26 => by exfalso; first | omega | contradiction | simp_all)
  refine Z.aload_n B dX12_asker_36 (v := .ref 45) rfl rfl ?_
  refine Z.getI (σ := σ) B fX12_84_12 dX12_asker_37 (hl.n (k := 45) (by decide)) (hl.k (k := 45) (by decide)) (by decide) (v := nI a) ha ?_
  refine Z.iconst B dX12_asker_40 (v := nI 4) rfl ?_
  refine Z.icmp_neN B dX12_asker_41 (tgt := 53) rfl (by omega) (by omega) (fun h41 => by exfalso; first | omega | contradiction | simp_all) (fun h41 => ?_)
  refine Z.aload_n B dX12_asker_44 (v := .ref 45) rfl rfl ?_
  refine Z.bipush B dX12_asker_45 (v := (-7)) rfl ?_
  refine Z.callVI (σ := σ) B (M' := mX12_no) (as := [.int (-7)]) (st := []) (v := .int (-7)) dX12_asker_47 wX12_no iX12_no sX12_no kX12_94 (hl.n (k := 45) (by decide)) (hl.k (k := 45) (by decide)) (by decide) rfl rfl (t_X12_no_7 (σ := σ) hl) rfl rfl (by decide) (by decide) (Nat.le_of_ble_eq_true rfl) (by decide) (by decide) ?_
  refine Z.eqσ (τ := (zuX σ 46 (upd (zX σ 46) 7 (zX σ 46 7 + nI 1)))) rfl ?_
  refine Z.goto B dX12_asker_50 (tgt := 60) rfl ?_
  refine Z.iret B Rt dX12_asker_60 (ty := .int) rfl rfl (by decide) (by decide) ?_
  exact ⟨rfl, rfl⟩

theorem t_M_askers_ {σ : zSt} (hl : Lay σ) {n a y : Nat} (H : zMd σ n a y) {s l d : Int32} (h4 : a < 4) : Dt mX12_askers [.ref 45, .int s, .int l, .int d] σ (some (.int (nI a))) (zuX (zuX (zuX (zuX (zuX σ 48 (upd (zX σ 48) a s)) 49 (upd (zX σ 49) a l)) 50 (upd (zX σ 50) a d)) 51 (upd (zX σ 51) a (nI a))) 45 (upd (zX σ 45) 1 (nI (a + 1)))) := by
  obtain ⟨-, hn, hn8, ha, ha4, hy, hy8⟩ := id H
  refine Dt.of (by decide) (Nat.le_of_ble_eq_true rfl) fun κ B Rt => ?_
  show Z κ 0 0 σ 0 [(0, .ref 45), (1, .int s), (2, .int l), (3, .int d)] []
  refine Z.aload_n B dX12_askers_0 (v := .ref 45) rfl rfl ?_
  refine Z.getR (σ := σ) B fX12_23_12 dX12_askers_1 (hl.n (k := 45) (by decide)) (hl.k (k := 45) (by decide)) (by decide) (j := 48) (hl.r (k := 45) (f := 7) (by decide) (by decide)) ?_
  refine Z.aload_n B dX12_askers_4 (v := .ref 45) rfl rfl ?_
  refine Z.getI (σ := σ) B fX12_84_12 dX12_askers_5 (hl.n (k := 45) (by decide)) (hl.k (k := 45) (by decide)) (by decide) (v := nI a) ha ?_
  refine Z.iload_n B dX12_askers_8 (x := s) rfl ?_
  refine Z.iast (σ := σ) B dX12_askers_9 (n := 4) (hl.n (k := 48) (by decide)) (hl.k (k := 48) (by decide)) (hl.l (k := 48) (by decide)) (by decide) (j := a) rfl (by omega) (τ := (zuX σ 48 (upd (zX σ 48) a s))) rfl ?_
  refine Z.aload_n B dX12_askers_10 (v := .ref 45) rfl rfl ?_
  refine Z.getR (σ := (zuX σ 48 (upd (zX σ 48) a s))) B fX12_26_12 dX12_askers_11 (hl.n (k := 45) (by decide)) (hl.k (k := 45) (by decide)) (by decide) (j := 49) (hl.r (k := 45) (f := 8) (by decide) (by decide)) ?_
  refine Z.aload_n B dX12_askers_14 (v := .ref 45) rfl rfl ?_
  refine Z.getI (σ := (zuX σ 48 (upd (zX σ 48) a s))) B fX12_84_12 dX12_askers_15 (hl.n (k := 45) (by decide)) (hl.k (k := 45) (by decide)) (by decide) (v := nI a) ha ?_
  refine Z.iload_n B dX12_askers_18 (x := l) rfl ?_
  refine Z.iast (σ := (zuX σ 48 (upd (zX σ 48) a s))) B dX12_askers_19 (n := 4) (hl.n (k := 49) (by decide)) (hl.k (k := 49) (by decide)) (hl.l (k := 49) (by decide)) (by decide) (j := a) rfl (by omega) (τ := (zuX (zuX σ 48 (upd (zX σ 48) a s)) 49 (upd (zX σ 49) a l))) rfl ?_
  refine Z.aload_n B dX12_askers_20 (v := .ref 45) rfl rfl ?_
  refine Z.getR (σ := (zuX (zuX σ 48 (upd (zX σ 48) a s)) 49 (upd (zX σ 49) a l))) B fX12_29_12 dX12_askers_21 (hl.n (k := 45) (by decide)) (hl.k (k := 45) (by decide)) (by decide) (j := 50) (hl.r (k := 45) (f := 9) (by decide) (by decide)) ?_
  refine Z.aload_n B dX12_askers_24 (v := .ref 45) rfl rfl ?_
  refine Z.getI (σ := (zuX (zuX σ 48 (upd (zX σ 48) a s)) 49 (upd (zX σ 49) a l))) B fX12_84_12 dX12_askers_25 (hl.n (k := 45) (by decide)) (hl.k (k := 45) (by decide)) (by decide) (v := nI a) ha ?_
  refine Z.iload_n B dX12_askers_28 (x := d) rfl ?_
  refine Z.iast (σ := (zuX (zuX σ 48 (upd (zX σ 48) a s)) 49 (upd (zX σ 49) a l))) B dX12_askers_29 (n := 4) (hl.n (k := 50) (by decide)) (hl.k (k := 50) (by decide)) (hl.l (k := 50) (by decide)) (by decide) (j := a) rfl (by omega) (τ := (zuX (zuX (zuX σ 48 (upd (zX σ 48) a s)) 49 (upd (zX σ 49) a l)) 50 (upd (zX σ 50) a d))) rfl ?_
  refine Z.aload_n B dX12_askers_30 (v := .ref 45) rfl rfl ?_
  refine Z.getR (σ := (zuX (zuX (zuX σ 48 (upd (zX σ 48) a s)) 49 (upd (zX σ 49) a l)) 50 (upd (zX σ 50) a d))) B fX12_32_12 dX12_askers_31 (hl.n (k := 45) (by decide)) (hl.k (k := 45) (by decide)) (by decide) (j := 51) (hl.r (k := 45) (f := 10) (by decide) (by decide)) ?_
  refine Z.aload_n B dX12_askers_34 (v := .ref 45) rfl rfl ?_
  refine Z.getI (σ := (zuX (zuX (zuX σ 48 (upd (zX σ 48) a s)) 49 (upd (zX σ 49) a l)) 50 (upd (zX σ 50) a d))) B fX12_84_12 dX12_askers_35 (hl.n (k := 45) (by decide)) (hl.k (k := 45) (by decide)) (by decide) (v := nI a) ha ?_
  refine Z.aload_n B dX12_askers_38 (v := .ref 45) rfl rfl ?_
  refine Z.getI (σ := (zuX (zuX (zuX σ 48 (upd (zX σ 48) a s)) 49 (upd (zX σ 49) a l)) 50 (upd (zX σ 50) a d))) B fX12_84_12 dX12_askers_39 (hl.n (k := 45) (by decide)) (hl.k (k := 45) (by decide)) (by decide) (v := nI a) ha ?_
  refine Z.iast (σ := (zuX (zuX (zuX σ 48 (upd (zX σ 48) a s)) 49 (upd (zX σ 49) a l)) 50 (upd (zX σ 50) a d))) B dX12_askers_42 (n := 4) (hl.n (k := 51) (by decide)) (hl.k (k := 51) (by decide)) (hl.l (k := 51) (by decide)) (by decide) (j := a) rfl (by omega) (τ := (zuX (zuX (zuX (zuX σ 48 (upd (zX σ 48) a s)) 49 (upd (zX σ 49) a l)) 50 (upd (zX σ 50) a d)) 51 (upd (zX σ 51) a (nI a)))) rfl ?_
  refine Z.aload_n B dX12_askers_43 (v := .ref 45) rfl rfl ?_
  refine Z.dup B dX12_askers_44 rfl ?_
  refine Z.getI (σ := (zuX (zuX (zuX (zuX σ 48 (upd (zX σ 48) a s)) 49 (upd (zX σ 49) a l)) 50 (upd (zX σ 50) a d)) 51 (upd (zX σ 51) a (nI a)))) B fX12_84_12 dX12_askers_45 (hl.n (k := 45) (by decide)) (hl.k (k := 45) (by decide)) (by decide) (v := nI a) ha ?_
  refine Z.dup_x1 B dX12_askers_48 rfl rfl ?_
  refine Z.iconst B dX12_askers_49 (v := nI 1) rfl ?_
  refine Z.iaddN B dX12_askers_50 (a := a) (b := 1) ?_
  refine Z.putI (σ := (zuX (zuX (zuX (zuX σ 48 (upd (zX σ 48) a s)) 49 (upd (zX σ 49) a l)) 50 (upd (zX σ 50) a d)) 51 (upd (zX σ 51) a (nI a)))) B fX12_84_12 (ty := .int) ⟨_, _, _, rfl, rfl, by decide +kernel⟩ dX12_askers_51 (hl.n (k := 45) (by decide)) (hl.k (k := 45) (by decide)) (by decide) rfl rfl (τ := (zuX (zuX (zuX (zuX (zuX σ 48 (upd (zX σ 48) a s)) 49 (upd (zX σ 49) a l)) 50 (upd (zX σ 50) a d)) 51 (upd (zX σ 51) a (nI a))) 45 (upd (zX σ 45) 1 (nI (a + 1))))) rfl ?_
  refine Z.iret B Rt dX12_askers_54 (ty := .int) rfl rfl (by decide) (by decide) ?_
  exact ⟨rfl, rfl⟩

theorem t_M_asker_0 {σ : zSt} (hl : Lay σ) {n a y : Nat} (H : zMd σ n a y) {s l d : Nat} (hs : s ≤ 3) (hl2 : l ≤ 9) (hd : d ≤ 10) (h4 : a < 4) : Dt mX12_asker [.ref 45, .int (nI s), .int (nI l), .int (nI d)] σ (some (.int (nI a))) (zuX (zuX (zuX (zuX (zuX σ 48 (upd (zX σ 48) a (nI s))) 49 (upd (zX σ 49) a (nI l))) 50 (upd (zX σ 50) a (nI d))) 51 (upd (zX σ 51) a (nI a))) 45 (upd (zX σ 45) 1 (nI (a + 1)))) := by
  obtain ⟨-, hn, hn8, ha, ha4, hy, hy8⟩ := id H
  refine Dt.of (by decide) (Nat.le_of_ble_eq_true rfl) fun κ B Rt => ?_
  show Z κ 0 0 σ 0 [(0, .ref 45), (1, .int (nI s)), (2, .int (nI l)), (3, .int (nI d))] []
  refine Z.iload_n B dX12_asker_0 (x := nI s) rfl ?_
  refine Z.if_ltN B dX12_asker_1 (tgt := 29) rfl (by omega) ?_
  refine Z.iload_n B dX12_asker_4 (x := nI s) rfl ?_
  refine Z.iconst B dX12_asker_5 (v := nI 3) rfl ?_
  refine Z.icmp_gtN B dX12_asker_6 (tgt := 29) rfl (by omega) (by omega) (fun h6 => by exfalso; first | omega | contradiction | simp_all) (fun h6 => ?_)
  refine Z.iload_n B dX12_asker_9 (x := nI l) rfl ?_
  refine Z.if_ltN B dX12_asker_10 (tgt := 29) rfl (by omega) ?_
  refine Z.iload_n B dX12_asker_13 (x := nI l) rfl ?_
  refine Z.bipush B dX12_asker_14 (v := nI 9) rfl ?_
  refine Z.icmp_gtN B dX12_asker_16 (tgt := 29) rfl (by omega) (by omega) (fun h16 => by exfalso; first | omega | contradiction | simp_all) (fun h16 => ?_)
  refine Z.iload_n B dX12_asker_19 (x := nI d) rfl ?_
  refine Z.if_ltN B dX12_asker_20 (tgt := 29) rfl (by omega) ?_
  refine Z.iload_n B dX12_asker_23 (x := nI d) rfl ?_
  refine Z.bipush B dX12_asker_24 (v := nI 10) rfl ?_
  refine Z.icmp_leN B dX12_asker_26 (tgt := 36) rfl (by omega) (by omega) (fun h26 => ?_) (fun h26 => by exfalso; first | omega | contradiction | simp_all)
  refine Z.aload_n B dX12_asker_36 (v := .ref 45) rfl rfl ?_
  refine Z.getI (σ := σ) B fX12_84_12 dX12_asker_37 (hl.n (k := 45) (by decide)) (hl.k (k := 45) (by decide)) (by decide) (v := nI a) ha ?_
  refine Z.iconst B dX12_asker_40 (v := nI 4) rfl ?_
  refine Z.icmp_neN B dX12_asker_41 (tgt := 53) rfl (by omega) (by omega) (fun h41 => ?_) (fun h41 => by exfalso; first | omega | contradiction | simp_all)
  refine Z.aload_n B dX12_asker_53 (v := .ref 45) rfl rfl ?_
  refine Z.iload_n B dX12_asker_54 (x := nI s) rfl ?_
  refine Z.iload_n B dX12_asker_55 (x := nI l) rfl ?_
  refine Z.iload_n B dX12_asker_56 (x := nI d) rfl ?_
  refine Z.callVI (σ := σ) B (M' := mX12_askers) (as := [.int (nI s), .int (nI l), .int (nI d)]) (st := []) (v := .int (nI a)) dX12_asker_57 wX12_askers iX12_askers sX12_askers kX12_121 (hl.n (k := 45) (by decide)) (hl.k (k := 45) (by decide)) (by decide) rfl rfl (t_M_askers_ (σ := σ) hl H h4) rfl rfl (by decide) (by decide) (Nat.le_of_ble_eq_true rfl) (by decide) (by decide) ?_
  refine Z.eqσ (τ := (zuX (zuX (zuX (zuX (zuX σ 48 (upd (zX σ 48) a (nI s))) 49 (upd (zX σ 49) a (nI l))) 50 (upd (zX σ 50) a (nI d))) 51 (upd (zX σ 51) a (nI a))) 45 (upd (zX σ 45) 1 (nI (a + 1))))) rfl ?_
  refine Z.iret B Rt dX12_asker_60 (ty := .int) rfl rfl (by decide) (by decide) ?_
  exact ⟨rfl, rfl⟩

theorem t_M_ways_ {σ : zSt} (hl : Lay σ) {n a y : Nat} (H : zMd σ n a y) {k v : Int32} (h8 : y < 8) : Dt mX12_ways [.ref 45, .int k, .int v] σ (some (.int (nI y))) (zuX (zuX (zuX σ 52 (upd (zX σ 52) y k)) 53 (upd (zX σ 53) y v)) 45 (upd (zX σ 45) 2 (nI (y + 1)))) := by
  obtain ⟨-, hn, hn8, ha, ha4, hy, hy8⟩ := id H
  refine Dt.of (by decide) (Nat.le_of_ble_eq_true rfl) fun κ B Rt => ?_
  show Z κ 0 0 σ 0 [(0, .ref 45), (1, .int k), (2, .int v)] []
  refine Z.aload_n B dX12_ways_0 (v := .ref 45) rfl rfl ?_
  refine Z.getR (σ := σ) B fX12_35_12 dX12_ways_1 (hl.n (k := 45) (by decide)) (hl.k (k := 45) (by decide)) (by decide) (j := 52) (hl.r (k := 45) (f := 11) (by decide) (by decide)) ?_
  refine Z.aload_n B dX12_ways_4 (v := .ref 45) rfl rfl ?_
  refine Z.getI (σ := σ) B fX12_87_12 dX12_ways_5 (hl.n (k := 45) (by decide)) (hl.k (k := 45) (by decide)) (by decide) (v := nI y) hy ?_
  refine Z.iload_n B dX12_ways_8 (x := k) rfl ?_
  refine Z.iast (σ := σ) B dX12_ways_9 (n := 8) (hl.n (k := 52) (by decide)) (hl.k (k := 52) (by decide)) (hl.l (k := 52) (by decide)) (by decide) (j := y) rfl (by omega) (τ := (zuX σ 52 (upd (zX σ 52) y k))) rfl ?_
  refine Z.aload_n B dX12_ways_10 (v := .ref 45) rfl rfl ?_
  refine Z.getR (σ := (zuX σ 52 (upd (zX σ 52) y k))) B fX12_38_12 dX12_ways_11 (hl.n (k := 45) (by decide)) (hl.k (k := 45) (by decide)) (by decide) (j := 53) (hl.r (k := 45) (f := 12) (by decide) (by decide)) ?_
  refine Z.aload_n B dX12_ways_14 (v := .ref 45) rfl rfl ?_
  refine Z.getI (σ := (zuX σ 52 (upd (zX σ 52) y k))) B fX12_87_12 dX12_ways_15 (hl.n (k := 45) (by decide)) (hl.k (k := 45) (by decide)) (by decide) (v := nI y) hy ?_
  refine Z.iload_n B dX12_ways_18 (x := v) rfl ?_
  refine Z.iast (σ := (zuX σ 52 (upd (zX σ 52) y k))) B dX12_ways_19 (n := 8) (hl.n (k := 53) (by decide)) (hl.k (k := 53) (by decide)) (hl.l (k := 53) (by decide)) (by decide) (j := y) rfl (by omega) (τ := (zuX (zuX σ 52 (upd (zX σ 52) y k)) 53 (upd (zX σ 53) y v))) rfl ?_
  refine Z.aload_n B dX12_ways_20 (v := .ref 45) rfl rfl ?_
  refine Z.dup B dX12_ways_21 rfl ?_
  refine Z.getI (σ := (zuX (zuX σ 52 (upd (zX σ 52) y k)) 53 (upd (zX σ 53) y v))) B fX12_87_12 dX12_ways_22 (hl.n (k := 45) (by decide)) (hl.k (k := 45) (by decide)) (by decide) (v := nI y) hy ?_
  refine Z.dup_x1 B dX12_ways_25 rfl rfl ?_
  refine Z.iconst B dX12_ways_26 (v := nI 1) rfl ?_
  refine Z.iaddN B dX12_ways_27 (a := y) (b := 1) ?_
  refine Z.putI (σ := (zuX (zuX σ 52 (upd (zX σ 52) y k)) 53 (upd (zX σ 53) y v))) B fX12_87_12 (ty := .int) ⟨_, _, _, rfl, rfl, by decide +kernel⟩ dX12_ways_28 (hl.n (k := 45) (by decide)) (hl.k (k := 45) (by decide)) (by decide) rfl rfl (τ := (zuX (zuX (zuX σ 52 (upd (zX σ 52) y k)) 53 (upd (zX σ 53) y v)) 45 (upd (zX σ 45) 2 (nI (y + 1))))) rfl ?_
  refine Z.iret B Rt dX12_ways_31 (ty := .int) rfl rfl (by decide) (by decide) ?_
  exact ⟨rfl, rfl⟩

theorem t_M_way_1 {σ : zSt} (hl : Lay σ) {n a y : Nat} (H : zMd σ n a y) {k v : Int32} (hk : zOut k 7) : Dt mX12_way [.ref 45, .int k, .int v] σ (some (.int (-1))) (zuX σ 46 (upd (zX σ 46) 1 (zX σ 46 1 + nI 1))) := by
  obtain ⟨-, hn, hn8, ha, ha4, hy, hy8⟩ := id H
  refine Dt.of (by decide) (Nat.le_of_ble_eq_true rfl) fun κ B Rt => ?_
  show Z κ 0 0 σ 0 [(0, .ref 45), (1, .int k), (2, .int v)] []
  refine Z.iload_n B dX12_way_0 (x := k) rfl ?_
  refine Z.if_lt B dX12_way_1 (tgt := 10) rfl (fun h1 => ?_) (fun h1 => ?_)
  · skip
    refine Z.aload_n B dX12_way_10 (v := .ref 45) rfl rfl ?_
    refine Z.iconst B dX12_way_11 (v := (-1)) rfl ?_
    refine Z.callVI (σ := σ) B (M' := mX12_no) (as := [.int (-1)]) (st := []) (v := .int (-1)) dX12_way_12 wX12_no iX12_no sX12_no kX12_94 (hl.n (k := 45) (by decide)) (hl.k (k := 45) (by decide)) (by decide) rfl rfl (t_X12_no_1 (σ := σ) hl) rfl rfl (by decide) (by decide) (Nat.le_of_ble_eq_true rfl) (by decide) (by decide) ?_
    refine Z.eqσ (τ := (zuX σ 46 (upd (zX σ 46) 1 (zX σ 46 1 + nI 1)))) rfl ?_
    refine Z.iret B Rt dX12_way_15 (ty := .int) rfl rfl (by decide) (by decide) ?_
    exact ⟨rfl, rfl⟩
  · skip
    refine Z.iload_n B dX12_way_4 (x := k) rfl ?_
    refine Z.bipush B dX12_way_5 (v := nI 6) rfl ?_
    refine Z.icmp_le B dX12_way_7 (tgt := 16) rfl (fun h7 => (zo_le hk h1 h7 (by decide)).elim) (fun h7 => ?_)
    refine Z.aload_n B dX12_way_10 (v := .ref 45) rfl rfl ?_
    refine Z.iconst B dX12_way_11 (v := (-1)) rfl ?_
    refine Z.callVI (σ := σ) B (M' := mX12_no) (as := [.int (-1)]) (st := []) (v := .int (-1)) dX12_way_12 wX12_no iX12_no sX12_no kX12_94 (hl.n (k := 45) (by decide)) (hl.k (k := 45) (by decide)) (by decide) rfl rfl (t_X12_no_1 (σ := σ) hl) rfl rfl (by decide) (by decide) (Nat.le_of_ble_eq_true rfl) (by decide) (by decide) ?_
    refine Z.eqσ (τ := (zuX σ 46 (upd (zX σ 46) 1 (zX σ 46 1 + nI 1)))) rfl ?_
    refine Z.iret B Rt dX12_way_15 (ty := .int) rfl rfl (by decide) (by decide) ?_
    exact ⟨rfl, rfl⟩

theorem t_M_way_6 {σ : zSt} (hl : Lay σ) {n a y : Nat} (H : zMd σ n a y) {k : Nat} {v : Int32} (hk : k ≤ 6) (hv : zOut v 100) : Dt mX12_way [.ref 45, .int (nI k), .int v] σ (some (.int (-6))) (zuX σ 46 (upd (zX σ 46) 6 (zX σ 46 6 + nI 1))) := by
  obtain ⟨-, hn, hn8, ha, ha4, hy, hy8⟩ := id H
  refine Dt.of (by decide) (Nat.le_of_ble_eq_true rfl) fun κ B Rt => ?_
  show Z κ 0 0 σ 0 [(0, .ref 45), (1, .int (nI k)), (2, .int v)] []
  refine Z.iload_n B dX12_way_0 (x := nI k) rfl ?_
  refine Z.if_ltN B dX12_way_1 (tgt := 10) rfl (by omega) ?_
  refine Z.iload_n B dX12_way_4 (x := nI k) rfl ?_
  refine Z.bipush B dX12_way_5 (v := nI 6) rfl ?_
  refine Z.icmp_leN B dX12_way_7 (tgt := 16) rfl (by omega) (by omega) (fun h7 => ?_) (fun h7 => by exfalso; first | omega | contradiction | simp_all)
  refine Z.iload_n B dX12_way_16 (x := v) rfl ?_
  refine Z.if_lt B dX12_way_17 (tgt := 26) rfl (fun h17 => ?_) (fun h17 => ?_)
  · skip
    refine Z.aload_n B dX12_way_26 (v := .ref 45) rfl rfl ?_
    refine Z.bipush B dX12_way_27 (v := (-6)) rfl ?_
    refine Z.callVI (σ := σ) B (M' := mX12_no) (as := [.int (-6)]) (st := []) (v := .int (-6)) dX12_way_29 wX12_no iX12_no sX12_no kX12_94 (hl.n (k := 45) (by decide)) (hl.k (k := 45) (by decide)) (by decide) rfl rfl (t_X12_no_6 (σ := σ) hl) rfl rfl (by decide) (by decide) (Nat.le_of_ble_eq_true rfl) (by decide) (by decide) ?_
    refine Z.eqσ (τ := (zuX σ 46 (upd (zX σ 46) 6 (zX σ 46 6 + nI 1)))) rfl ?_
    refine Z.iret B Rt dX12_way_32 (ty := .int) rfl rfl (by decide) (by decide) ?_
    exact ⟨rfl, rfl⟩
  · skip
    refine Z.iload_n B dX12_way_20 (x := v) rfl ?_
    refine Z.bipush B dX12_way_21 (v := nI 99) rfl ?_
    refine Z.icmp_le B dX12_way_23 (tgt := 33) rfl (fun h23 => (zo_le hv h17 h23 (by decide)).elim) (fun h23 => ?_)
    refine Z.aload_n B dX12_way_26 (v := .ref 45) rfl rfl ?_
    refine Z.bipush B dX12_way_27 (v := (-6)) rfl ?_
    refine Z.callVI (σ := σ) B (M' := mX12_no) (as := [.int (-6)]) (st := []) (v := .int (-6)) dX12_way_29 wX12_no iX12_no sX12_no kX12_94 (hl.n (k := 45) (by decide)) (hl.k (k := 45) (by decide)) (by decide) rfl rfl (t_X12_no_6 (σ := σ) hl) rfl rfl (by decide) (by decide) (Nat.le_of_ble_eq_true rfl) (by decide) (by decide) ?_
    refine Z.eqσ (τ := (zuX σ 46 (upd (zX σ 46) 6 (zX σ 46 6 + nI 1)))) rfl ?_
    refine Z.iret B Rt dX12_way_32 (ty := .int) rfl rfl (by decide) (by decide) ?_
    exact ⟨rfl, rfl⟩

theorem t_M_way_7 {σ : zSt} (hl : Lay σ) {n a y : Nat} (H : zMd σ n a y) {k v : Nat} (hk : k ≤ 6) (hv : v ≤ 99) (h8 : y = 8) : Dt mX12_way [.ref 45, .int (nI k), .int (nI v)] σ (some (.int (-7))) (zuX σ 46 (upd (zX σ 46) 7 (zX σ 46 7 + nI 1))) := by
  obtain ⟨-, hn, hn8, ha, ha4, hy, hy8⟩ := id H
  refine Dt.of (by decide) (Nat.le_of_ble_eq_true rfl) fun κ B Rt => ?_
  show Z κ 0 0 σ 0 [(0, .ref 45), (1, .int (nI k)), (2, .int (nI v))] []
  refine Z.iload_n B dX12_way_0 (x := nI k) rfl ?_
  refine Z.if_ltN B dX12_way_1 (tgt := 10) rfl (by omega) ?_
  refine Z.iload_n B dX12_way_4 (x := nI k) rfl ?_
  refine Z.bipush B dX12_way_5 (v := nI 6) rfl ?_
  refine Z.icmp_leN B dX12_way_7 (tgt := 16) rfl (by omega) (by omega) (fun h7 => ?_) (fun h7 => by exfalso; first | omega | contradiction | simp_all)
  refine Z.iload_n B dX12_way_16 (x := nI v) rfl ?_
  refine Z.if_ltN B dX12_way_17 (tgt := 26) rfl (by omega) ?_
  refine Z.iload_n B dX12_way_20 (x := nI v) rfl ?_
  refine Z.bipush B dX12_way_21 (v := nI 99) rfl ?_
  refine Z.icmp_leN B dX12_way_23 (tgt := 33) rfl (by omega) (by omega) (fun h23 => ?_) (fun h23 => by exfalso; first | omega | contradiction | simp_all)
  refine Z.aload_n B dX12_way_33 (v := .ref 45) rfl rfl ?_
  refine Z.getI (σ := σ) B fX12_87_12 dX12_way_34 (hl.n (k := 45) (by decide)) (hl.k (k := 45) (by decide)) (by decide) (v := nI y) hy ?_
  refine Z.bipush B dX12_way_37 (v := nI 8) rfl ?_
  refine Z.icmp_neN B dX12_way_39 (tgt := 51) rfl (by omega) (by omega) (fun h39 => by exfalso; first | omega | contradiction | simp_all) (fun h39 => ?_)
  refine Z.aload_n B dX12_way_42 (v := .ref 45) rfl rfl ?_
  refine Z.bipush B dX12_way_43 (v := (-7)) rfl ?_
  refine Z.callVI (σ := σ) B (M' := mX12_no) (as := [.int (-7)]) (st := []) (v := .int (-7)) dX12_way_45 wX12_no iX12_no sX12_no kX12_94 (hl.n (k := 45) (by decide)) (hl.k (k := 45) (by decide)) (by decide) rfl rfl (t_X12_no_7 (σ := σ) hl) rfl rfl (by decide) (by decide) (Nat.le_of_ble_eq_true rfl) (by decide) (by decide) ?_
  refine Z.eqσ (τ := (zuX σ 46 (upd (zX σ 46) 7 (zX σ 46 7 + nI 1)))) rfl ?_
  refine Z.goto B dX12_way_48 (tgt := 57) rfl ?_
  refine Z.iret B Rt dX12_way_57 (ty := .int) rfl rfl (by decide) (by decide) ?_
  exact ⟨rfl, rfl⟩

theorem t_M_way_0 {σ : zSt} (hl : Lay σ) {n a y : Nat} (H : zMd σ n a y) {k v : Nat} (hk : k ≤ 6) (hv : v ≤ 99) (h8 : y < 8) : Dt mX12_way [.ref 45, .int (nI k), .int (nI v)] σ (some (.int (nI y))) (zuX (zuX (zuX σ 52 (upd (zX σ 52) y (nI k))) 53 (upd (zX σ 53) y (nI v))) 45 (upd (zX σ 45) 2 (nI (y + 1)))) := by
  obtain ⟨-, hn, hn8, ha, ha4, hy, hy8⟩ := id H
  refine Dt.of (by decide) (Nat.le_of_ble_eq_true rfl) fun κ B Rt => ?_
  show Z κ 0 0 σ 0 [(0, .ref 45), (1, .int (nI k)), (2, .int (nI v))] []
  refine Z.iload_n B dX12_way_0 (x := nI k) rfl ?_
  refine Z.if_ltN B dX12_way_1 (tgt := 10) rfl (by omega) ?_
  refine Z.iload_n B dX12_way_4 (x := nI k) rfl ?_
  refine Z.bipush B dX12_way_5 (v := nI 6) rfl ?_
  refine Z.icmp_leN B dX12_way_7 (tgt := 16) rfl (by omega) (by omega) (fun h7 => ?_) (fun h7 => by exfalso; first | omega | contradiction | simp_all)
  refine Z.iload_n B dX12_way_16 (x := nI v) rfl ?_
  refine Z.if_ltN B dX12_way_17 (tgt := 26) rfl (by omega) ?_
  refine Z.iload_n B dX12_way_20 (x := nI v) rfl ?_
  refine Z.bipush B dX12_way_21 (v := nI 99) rfl ?_
  refine Z.icmp_leN B dX12_way_23 (tgt := 33) rfl (by omega) (by omega) (fun h23 => ?_) (fun h23 => by exfalso; first | omega | contradiction | simp_all)
  refine Z.aload_n B dX12_way_33 (v := .ref 45) rfl rfl ?_
  refine Z.getI (σ := σ) B fX12_87_12 dX12_way_34 (hl.n (k := 45) (by decide)) (hl.k (k := 45) (by decide)) (by decide) (v := nI y) hy ?_
  refine Z.bipush B dX12_way_37 (v := nI 8) rfl ?_
  refine Z.icmp_neN B dX12_way_39 (tgt := 51) rfl (by omega) (by omega) (fun h39 => ?_) (fun h39 => by exfalso; first | omega | contradiction | simp_all)
  refine Z.aload_n B dX12_way_51 (v := .ref 45) rfl rfl ?_
  refine Z.iload_n B dX12_way_52 (x := nI k) rfl ?_
  refine Z.iload_n B dX12_way_53 (x := nI v) rfl ?_
  refine Z.callVI (σ := σ) B (M' := mX12_ways) (as := [.int (nI k), .int (nI v)]) (st := []) (v := .int (nI y)) dX12_way_54 wX12_ways iX12_ways sX12_ways kX12_124 (hl.n (k := 45) (by decide)) (hl.k (k := 45) (by decide)) (by decide) rfl rfl (t_M_ways_ (σ := σ) hl H h8) rfl rfl (by decide) (by decide) (Nat.le_of_ble_eq_true rfl) (by decide) (by decide) ?_
  refine Z.eqσ (τ := (zuX (zuX (zuX σ 52 (upd (zX σ 52) y (nI k))) 53 (upd (zX σ 53) y (nI v))) 45 (upd (zX σ 45) 2 (nI (y + 1))))) rfl ?_
  refine Z.iret B Rt dX12_way_57 (ty := .int) rfl rfl (by decide) (by decide) ?_
  exact ⟨rfl, rfl⟩

theorem t_K_way_1 {σ : zSt} (hl : Lay σ) {k v : Int32} (hk : zOut k 7) : Dt mX11_way [.ref 0, .int k, .int v] σ (some (.int (-nI 1))) (zuX σ 43 (upd (zX σ 43) 1 (zX σ 43 1 + nI 1))) := by
  refine Dt.of (by decide) (Nat.le_of_ble_eq_true rfl) fun κ B Rt => ?_
  show Z κ 0 0 σ 0 [(0, .ref 0), (1, .int k), (2, .int v)] []
  refine Z.iload_n B dX11_way_0 (x := k) rfl ?_
  refine Z.gets B (x := 2) zKon2 (zT_at 469 (by decide +kernel) rfl) dX11_way_1 ?_
  refine Z.iconst B dX11_way_4 (v := nI 0) rfl ?_
  refine Z.cld B (j := 0) zKt2 dX11_way_5 (by decide) (by decide) (v := nI 6) rfl ?_
  refine Z.callSI (σ := σ) B (M' := mX11_isUpTo) (as := [.int k, .int (nI 6)]) (st := []) (v := .int (nI 0)) dX11_way_6 wX11_isUpTo iX11_isUpTo kX11_127 (t_X11_isUpTo_out (σ := σ) (n := 6) hk (by decide)) rfl rfl (by decide) (by decide) (Nat.le_of_ble_eq_true rfl) (by decide) (by decide) ?_
  refine Z.if_neN B dX11_way_9 (tgt := 18) rfl (by omega) (fun h9 => by exfalso; first | omega | contradiction | simp_all) (fun h9 => ?_)
  refine Z.aload_n B dX11_way_12 (v := .ref 0) rfl rfl ?_
  refine Z.iconst B dX11_way_13 (v := nI 1) rfl ?_
  refine Z.callVI (σ := σ) B (M' := mX11_refuse) (as := [.int (nI 1)]) (st := []) (v := .int (-nI 1)) dX11_way_14 wX11_refuse iX11_refuse sX11_refuse kX11_63 (hl.n (k := 0) (by decide)) (hl.k (k := 0) (by decide)) (by decide) rfl rfl (t_X11_refuse (σ := σ) hl (b := 1) (by decide)) rfl rfl (by decide) (by decide) (Nat.le_of_ble_eq_true rfl) (by decide) (by decide) ?_
  refine Z.eqσ (τ := (zuX σ 43 (upd (zX σ 43) 1 (zX σ 43 1 + nI 1)))) rfl ?_
  refine Z.iret B Rt dX11_way_17 (ty := .int) rfl rfl (by decide) (by decide) ?_
  exact ⟨rfl, rfl⟩

theorem t_K_way_6 {σ : zSt} (hl : Lay σ) {k : Nat} {v : Int32} (hk : k ≤ 6) (hv : zOut v 100) : Dt mX11_way [.ref 0, .int (nI k), .int v] σ (some (.int (-nI 6))) (zuX σ 43 (upd (zX σ 43) 6 (zX σ 43 6 + nI 1))) := by
  refine Dt.of (by decide) (Nat.le_of_ble_eq_true rfl) fun κ B Rt => ?_
  show Z κ 0 0 σ 0 [(0, .ref 0), (1, .int (nI k)), (2, .int v)] []
  refine Z.iload_n B dX11_way_0 (x := nI k) rfl ?_
  refine Z.gets B (x := 2) zKon2 (zT_at 469 (by decide +kernel) rfl) dX11_way_1 ?_
  refine Z.iconst B dX11_way_4 (v := nI 0) rfl ?_
  refine Z.cld B (j := 0) zKt2 dX11_way_5 (by decide) (by decide) (v := nI 6) rfl ?_
  refine Z.callSI (σ := σ) B (M' := mX11_isUpTo) (as := [.int (nI k), .int (nI 6)]) (st := []) (v := .int (nI 1)) dX11_way_6 wX11_isUpTo iX11_isUpTo kX11_127 (t_X11_isUpTo_in (σ := σ) hk (by decide)) rfl rfl (by decide) (by decide) (Nat.le_of_ble_eq_true rfl) (by decide) (by decide) ?_
  refine Z.if_neN B dX11_way_9 (tgt := 18) rfl (by omega) (fun h9 => ?_) (fun h9 => by exfalso; first | omega | contradiction | simp_all)
  refine Z.iload_n B dX11_way_18 (x := v) rfl ?_
  refine Z.gets B (x := 2) zKon2 (zT_at 469 (by decide +kernel) rfl) dX11_way_19 ?_
  refine Z.iconst B dX11_way_22 (v := nI 1) rfl ?_
  refine Z.cld B (j := 1) zKt2 dX11_way_23 (by decide) (by decide) (v := nI 99) rfl ?_
  refine Z.callSI (σ := σ) B (M' := mX11_isUpTo) (as := [.int v, .int (nI 99)]) (st := []) (v := .int (nI 0)) dX11_way_24 wX11_isUpTo iX11_isUpTo kX11_127 (t_X11_isUpTo_out (σ := σ) (n := 99) hv (by decide)) rfl rfl (by decide) (by decide) (Nat.le_of_ble_eq_true rfl) (by decide) (by decide) ?_
  refine Z.if_neN B dX11_way_27 (tgt := 37) rfl (by omega) (fun h27 => by exfalso; first | omega | contradiction | simp_all) (fun h27 => ?_)
  refine Z.aload_n B dX11_way_30 (v := .ref 0) rfl rfl ?_
  refine Z.bipush B dX11_way_31 (v := nI 6) rfl ?_
  refine Z.callVI (σ := σ) B (M' := mX11_refuse) (as := [.int (nI 6)]) (st := []) (v := .int (-nI 6)) dX11_way_33 wX11_refuse iX11_refuse sX11_refuse kX11_63 (hl.n (k := 0) (by decide)) (hl.k (k := 0) (by decide)) (by decide) rfl rfl (t_X11_refuse (σ := σ) hl (b := 6) (by decide)) rfl rfl (by decide) (by decide) (Nat.le_of_ble_eq_true rfl) (by decide) (by decide) ?_
  refine Z.eqσ (τ := (zuX σ 43 (upd (zX σ 43) 6 (zX σ 43 6 + nI 1)))) rfl ?_
  refine Z.iret B Rt dX11_way_36 (ty := .int) rfl rfl (by decide) (by decide) ?_
  exact ⟨rfl, rfl⟩

theorem t_K_way_7 {σ : zSt} (hl : Lay σ) {n a y : Nat} (H : zHd σ n a y) {k v : Nat} (hk : k ≤ 6) (hv : v ≤ 99) (h8 : y = 8) : Dt mX11_way [.ref 0, .int (nI k), .int (nI v)] σ (some (.int (-nI 7))) (zuX σ 43 (upd (zX σ 43) 7 (zX σ 43 7 + nI 1))) := by
  obtain ⟨-, hn, hn8, ha, ha4, hy, hy8⟩ := id H
  refine Dt.of (by decide) (Nat.le_of_ble_eq_true rfl) fun κ B Rt => ?_
  show Z κ 0 0 σ 0 [(0, .ref 0), (1, .int (nI k)), (2, .int (nI v))] []
  refine Z.iload_n B dX11_way_0 (x := nI k) rfl ?_
  refine Z.gets B (x := 2) zKon2 (zT_at 469 (by decide +kernel) rfl) dX11_way_1 ?_
  refine Z.iconst B dX11_way_4 (v := nI 0) rfl ?_
  refine Z.cld B (j := 0) zKt2 dX11_way_5 (by decide) (by decide) (v := nI 6) rfl ?_
  refine Z.callSI (σ := σ) B (M' := mX11_isUpTo) (as := [.int (nI k), .int (nI 6)]) (st := []) (v := .int (nI 1)) dX11_way_6 wX11_isUpTo iX11_isUpTo kX11_127 (t_X11_isUpTo_in (σ := σ) hk (by decide)) rfl rfl (by decide) (by decide) (Nat.le_of_ble_eq_true rfl) (by decide) (by decide) ?_
  refine Z.if_neN B dX11_way_9 (tgt := 18) rfl (by omega) (fun h9 => ?_) (fun h9 => by exfalso; first | omega | contradiction | simp_all)
  refine Z.iload_n B dX11_way_18 (x := nI v) rfl ?_
  refine Z.gets B (x := 2) zKon2 (zT_at 469 (by decide +kernel) rfl) dX11_way_19 ?_
  refine Z.iconst B dX11_way_22 (v := nI 1) rfl ?_
  refine Z.cld B (j := 1) zKt2 dX11_way_23 (by decide) (by decide) (v := nI 99) rfl ?_
  refine Z.callSI (σ := σ) B (M' := mX11_isUpTo) (as := [.int (nI v), .int (nI 99)]) (st := []) (v := .int (nI 1)) dX11_way_24 wX11_isUpTo iX11_isUpTo kX11_127 (t_X11_isUpTo_in (σ := σ) hv (by decide)) rfl rfl (by decide) (by decide) (Nat.le_of_ble_eq_true rfl) (by decide) (by decide) ?_
  refine Z.if_neN B dX11_way_27 (tgt := 37) rfl (by omega) (fun h27 => ?_) (fun h27 => by exfalso; first | omega | contradiction | simp_all)
  refine Z.aload_n B dX11_way_37 (v := .ref 0) rfl rfl ?_
  refine Z.getR (σ := σ) B fX11_28_11 dX11_way_38 (hl.n (k := 0) (by decide)) (hl.k (k := 0) (by decide)) (by decide) (j := 20) (hl.r (k := 0) (f := 2) (by decide) (by decide)) ?_
  refine Z.iconst B dX11_way_41 (v := nI 2) rfl ?_
  refine Z.callVI (σ := σ) B (M' := mX1_hasRoomFor) (as := [.int (nI 2)]) (st := []) (v := .int (nI 0)) dX11_way_42 wX1_hasRoomFor iX1_hasRoomFor sX1_hasRoomFor kX11_130 (hl.n (k := 20) (by decide)) (hl.k (k := 20) (by decide)) (by decide) rfl rfl (t_X1_hasRoomFor_2_0 (σ := σ) hl hn hn8 ha ha4 hy hy8 h8) rfl rfl (by decide) (by decide) (Nat.le_of_ble_eq_true rfl) (by decide) (by decide) ?_
  refine Z.if_eqN B dX11_way_45 (tgt := 60) rfl (by omega) (fun h45 => ?_) (fun h45 => by exfalso; first | omega | contradiction | simp_all)
  refine Z.aload_n B dX11_way_60 (v := .ref 0) rfl rfl ?_
  refine Z.bipush B dX11_way_61 (v := nI 7) rfl ?_
  refine Z.callVI (σ := σ) B (M' := mX11_refuse) (as := [.int (nI 7)]) (st := []) (v := .int (-nI 7)) dX11_way_63 wX11_refuse iX11_refuse sX11_refuse kX11_63 (hl.n (k := 0) (by decide)) (hl.k (k := 0) (by decide)) (by decide) rfl rfl (t_X11_refuse (σ := σ) hl (b := 7) (by decide)) rfl rfl (by decide) (by decide) (Nat.le_of_ble_eq_true rfl) (by decide) (by decide) ?_
  refine Z.eqσ (τ := (zuX σ 43 (upd (zX σ 43) 7 (zX σ 43 7 + nI 1)))) rfl ?_
  refine Z.iret B Rt dX11_way_66 (ty := .int) rfl rfl (by decide) (by decide) ?_
  exact ⟨rfl, rfl⟩

theorem t_K_act_1 {σ : zSt} (hl : Lay σ) {n a y : Nat} (H : zHd σ n a y) {i : Int32} (hi : zOut i y) {v x : Int32} : Dt mX11_act [.ref 0, .int i, .int v, .int x] σ (some (.int (nI 0))) (zuX σ 18 (upd (zX σ 18) 1 (nI 0))) := by
  refine Dt.of (by decide) (Nat.le_of_ble_eq_true rfl) fun κ B Rt => ?_
  show Z κ 0 0 σ 0 [(0, .ref 0), (1, .int i), (2, .int v), (3, .int x)] []
  refine Z.aload_n B dX11_act_0 (v := .ref 0) rfl rfl ?_
  refine Z.getR (σ := σ) B fX11_19_11 dX11_act_1 (hl.n (k := 0) (by decide)) (hl.k (k := 0) (by decide)) (by decide) (j := 18) (hl.r (k := 0) (f := 1) (by decide) (by decide)) ?_
  refine Z.callVN (σ := σ) B (M' := mX8_begin) (as := []) (st := []) dX11_act_4 wX8_begin iX8_begin sX8_begin kX11_280 (hl.n (k := 18) (by decide)) (hl.k (k := 18) (by decide)) (by decide) rfl rfl (t_X8_begin (σ := σ) hl) rfl rfl (by decide) (by decide) (Nat.le_of_ble_eq_true rfl) (by decide) (by decide) ?_
  refine Z.eqσ (τ := (zuX σ 18 (upd (zX σ 18) 1 (nI 0)))) rfl ?_
  refine Z.aload_n B dX11_act_7 (v := .ref 0) rfl rfl ?_
  refine Z.getR (σ := (zuX σ 18 (upd (zX σ 18) 1 (nI 0)))) B fX11_28_11 dX11_act_8 (hl.n (k := 0) (by decide)) (hl.k (k := 0) (by decide)) (by decide) (j := 20) (hl.r (k := 0) (f := 2) (by decide) (by decide)) ?_
  refine Z.iload_n B dX11_act_11 (x := i) rfl ?_
  refine Z.callVI (σ := (zuX σ 18 (upd (zX σ 18) 1 (nI 0)))) B (M' := mX1_wayAt) (as := [.int i]) (st := []) (v := .null) dX11_act_12 wX1_wayAt iX1_wayAt sX1_wayAt kX11_102 (hl.n (k := 20) (by decide)) (hl.k (k := 20) (by decide)) (by decide) rfl rfl (t_X1_wayAt_out (σ := (zuX σ 18 (upd (zX σ 18) 1 (nI 0)))) H hi) rfl rfl (by decide) (by decide) (Nat.le_of_ble_eq_true rfl) (by decide) (by decide) ?_
  refine Z.astore B dX11_act_15 (by decide) rfl (L' := [(0, .ref 0), (1, .int i), (2, .int v), (3, .int x), (4, .null)]) rfl ?_
  refine Z.aload B dX11_act_17 (v := .null) rfl rfl ?_
  refine Z.ifnonnull_n B dX11_act_19 ?_
  refine Z.iconst B dX11_act_22 (v := nI 0) rfl ?_
  refine Z.iret B Rt dX11_act_23 (ty := .int) rfl rfl (by decide) (by decide) ?_
  exact ⟨rfl, rfl⟩

theorem t_K_act_2 {σ : zSt} (hl : Lay σ) {n a y : Nat} (H : zHd σ n a y) {i q : Nat} (hi : i < y) (hq : zR σ 24 i = some q) {v x : Int32} (hv : zOut v 3) : Dt mX11_act [.ref 0, .int (nI i), .int v, .int x] σ (some (.int (nI 0))) (zuX σ 18 (upd (zX σ 18) 1 (nI 0))) := by
  refine Dt.of (by decide) (Nat.le_of_ble_eq_true rfl) fun κ B Rt => ?_
  show Z κ 0 0 σ 0 [(0, .ref 0), (1, .int (nI i)), (2, .int v), (3, .int x)] []
  refine Z.aload_n B dX11_act_0 (v := .ref 0) rfl rfl ?_
  refine Z.getR (σ := σ) B fX11_19_11 dX11_act_1 (hl.n (k := 0) (by decide)) (hl.k (k := 0) (by decide)) (by decide) (j := 18) (hl.r (k := 0) (f := 1) (by decide) (by decide)) ?_
  refine Z.callVN (σ := σ) B (M' := mX8_begin) (as := []) (st := []) dX11_act_4 wX8_begin iX8_begin sX8_begin kX11_280 (hl.n (k := 18) (by decide)) (hl.k (k := 18) (by decide)) (by decide) rfl rfl (t_X8_begin (σ := σ) hl) rfl rfl (by decide) (by decide) (Nat.le_of_ble_eq_true rfl) (by decide) (by decide) ?_
  refine Z.eqσ (τ := (zuX σ 18 (upd (zX σ 18) 1 (nI 0)))) rfl ?_
  refine Z.aload_n B dX11_act_7 (v := .ref 0) rfl rfl ?_
  refine Z.getR (σ := (zuX σ 18 (upd (zX σ 18) 1 (nI 0)))) B fX11_28_11 dX11_act_8 (hl.n (k := 0) (by decide)) (hl.k (k := 0) (by decide)) (by decide) (j := 20) (hl.r (k := 0) (f := 2) (by decide) (by decide)) ?_
  refine Z.iload_n B dX11_act_11 (x := nI i) rfl ?_
  refine Z.callVI (σ := (zuX σ 18 (upd (zX σ 18) 1 (nI 0)))) B (M' := mX1_wayAt) (as := [.int (nI i)]) (st := []) (v := .ref q) dX11_act_12 wX1_wayAt iX1_wayAt sX1_wayAt kX11_102 (hl.n (k := 20) (by decide)) (hl.k (k := 20) (by decide)) (by decide) rfl rfl (t_X1_wayAt_in (σ := (zuX σ 18 (upd (zX σ 18) 1 (nI 0)))) H hi hq) rfl rfl (by decide) (by decide) (Nat.le_of_ble_eq_true rfl) (by decide) (by decide) ?_
  refine Z.astore B dX11_act_15 (by decide) rfl (L' := [(0, .ref 0), (1, .int (nI i)), (2, .int v), (3, .int x), (4, .ref q)]) rfl ?_
  refine Z.aload B dX11_act_17 (v := .ref q) rfl rfl ?_
  refine Z.ifnonnull_r B dX11_act_19 (tgt := 24) rfl ?_
  refine Z.iload_n B dX11_act_24 (x := v) rfl ?_
  refine Z.tabOut B dX11_act_25 (zOut_int hv (by decide)) (tgt := 73) rfl ?_
  refine Z.iconst B dX11_act_73 (v := nI 0) rfl ?_
  refine Z.iret B Rt dX11_act_74 (ty := .int) rfl rfl (by decide) (by decide) ?_
  exact ⟨rfl, rfl⟩

theorem t_M_act_1 {σ : zSt} (hl : Lay σ) {n a y : Nat} (H : zMd σ n a y) {i : Int32} (hi : zOut i y) {v x : Int32} : Dt mX12_act [.ref 45, .int i, .int v, .int x] σ (some (.int (nI 0))) (zuX σ 45 (upd (zX σ 45) 31 (nI 0))) := by
  refine Dt.of (by decide) (Nat.le_of_ble_eq_true rfl) fun κ B Rt => ?_
  show Z κ 0 0 σ 0 [(0, .ref 45), (1, .int i), (2, .int v), (3, .int x)] []
  refine Z.aload_n B dX12_act_0 (v := .ref 45) rfl rfl ?_
  refine Z.iconst B dX12_act_1 (v := nI 0) rfl ?_
  refine Z.putI (σ := σ) B fX12_226_12 (ty := .int) ⟨_, _, _, rfl, rfl, by decide +kernel⟩ dX12_act_2 (hl.n (k := 45) (by decide)) (hl.k (k := 45) (by decide)) (by decide) rfl rfl (τ := (zuX σ 45 (upd (zX σ 45) 31 (nI 0)))) rfl ?_
  refine Z.aload_n B dX12_act_5 (v := .ref 45) rfl rfl ?_
  refine Z.iload_n B dX12_act_6 (x := i) rfl ?_
  refine Z.callVI (σ := (zuX σ 45 (upd (zX σ 45) 31 (nI 0)))) B (M' := mX12_isWay) (as := [.int i]) (st := []) (v := .int (nI 0)) dX12_act_7 wX12_isWay iX12_isWay sX12_isWay kX12_98 (hl.n (k := 45) (by decide)) (hl.k (k := 45) (by decide)) (by decide) rfl rfl (t_X12_isWay_out (σ := (zuX σ 45 (upd (zX σ 45) 31 (nI 0)))) H hi) rfl rfl (by decide) (by decide) (Nat.le_of_ble_eq_true rfl) (by decide) (by decide) ?_
  refine Z.if_eqN B dX12_act_10 (tgt := 22) rfl (by omega) (fun h10 => ?_) (fun h10 => by exfalso; first | omega | contradiction | simp_all)
  refine Z.iconst B dX12_act_22 (v := nI 0) rfl ?_
  refine Z.iret B Rt dX12_act_23 (ty := .int) rfl rfl (by decide) (by decide) ?_
  exact ⟨rfl, rfl⟩

theorem t_M_act_2 {σ : zSt} (hl : Lay σ) {n a y : Nat} (H : zMd σ n a y) {i : Nat} (hi : i < y) {v x : Int32} (hv : zOut v 3) : Dt mX12_act [.ref 45, .int (nI i), .int v, .int x] σ (some (.int (nI 0))) (zuX σ 45 (upd (zX σ 45) 31 (nI 0))) := by
  refine Dt.of (by decide) (Nat.le_of_ble_eq_true rfl) fun κ B Rt => ?_
  show Z κ 0 0 σ 0 [(0, .ref 45), (1, .int (nI i)), (2, .int v), (3, .int x)] []
  refine Z.aload_n B dX12_act_0 (v := .ref 45) rfl rfl ?_
  refine Z.iconst B dX12_act_1 (v := nI 0) rfl ?_
  refine Z.putI (σ := σ) B fX12_226_12 (ty := .int) ⟨_, _, _, rfl, rfl, by decide +kernel⟩ dX12_act_2 (hl.n (k := 45) (by decide)) (hl.k (k := 45) (by decide)) (by decide) rfl rfl (τ := (zuX σ 45 (upd (zX σ 45) 31 (nI 0)))) rfl ?_
  refine Z.aload_n B dX12_act_5 (v := .ref 45) rfl rfl ?_
  refine Z.iload_n B dX12_act_6 (x := nI i) rfl ?_
  refine Z.callVI (σ := (zuX σ 45 (upd (zX σ 45) 31 (nI 0)))) B (M' := mX12_isWay) (as := [.int (nI i)]) (st := []) (v := .int (nI 1)) dX12_act_7 wX12_isWay iX12_isWay sX12_isWay kX12_98 (hl.n (k := 45) (by decide)) (hl.k (k := 45) (by decide)) (by decide) rfl rfl (t_X12_isWay_in (σ := (zuX σ 45 (upd (zX σ 45) 31 (nI 0)))) H hi) rfl rfl (by decide) (by decide) (Nat.le_of_ble_eq_true rfl) (by decide) (by decide) ?_
  refine Z.if_eqN B dX12_act_10 (tgt := 22) rfl (by omega) (fun h10 => by exfalso; first | omega | contradiction | simp_all) (fun h10 => ?_)
  refine Z.iload_n B dX12_act_13 (x := v) rfl ?_
  refine Z.if_lt B dX12_act_14 (tgt := 22) rfl (fun h14 => ?_) (fun h14 => ?_)
  · skip
    refine Z.iconst B dX12_act_22 (v := nI 0) rfl ?_
    refine Z.iret B Rt dX12_act_23 (ty := .int) rfl rfl (by decide) (by decide) ?_
    exact ⟨rfl, rfl⟩
  · skip
    refine Z.iload_n B dX12_act_17 (x := v) rfl ?_
    refine Z.iconst B dX12_act_18 (v := nI 2) rfl ?_
    refine Z.icmp_le B dX12_act_19 (tgt := 24) rfl (fun h19 => (zo_le hv h14 h19 (by decide)).elim) (fun h19 => ?_)
    refine Z.iconst B dX12_act_22 (v := nI 0) rfl ?_
    refine Z.iret B Rt dX12_act_23 (ty := .int) rfl rfl (by decide) (by decide) ?_
    exact ⟨rfl, rfl⟩

theorem t_K_act_feels_0 {σ : zSt} (hl : Lay σ) {n a y : Nat} (H : zHd σ n a y) {i q pa num : Nat} (hi : i < y) (hq : zR σ 24 i = some q) (hw : zWo σ q 0 pa num) {x : Int32} : Dt mX11_act [.ref 0, .int (nI i), .int (nI 0), .int x] σ (some (.int (x + nI num))) (zuX (zuX σ 18 (upd (zX σ 18) 1 (nI (0 + 1)))) 19 (upd (zX σ 19) (0) (nI 10))) := by
  refine Dt.of (by decide) (Nat.le_of_ble_eq_true rfl) fun κ B Rt => ?_
  show Z κ 0 0 σ 0 [(0, .ref 0), (1, .int (nI i)), (2, .int (nI 0)), (3, .int x)] []
  refine Z.aload_n B dX11_act_0 (v := .ref 0) rfl rfl ?_
  refine Z.getR (σ := σ) B fX11_19_11 dX11_act_1 (hl.n (k := 0) (by decide)) (hl.k (k := 0) (by decide)) (by decide) (j := 18) (hl.r (k := 0) (f := 1) (by decide) (by decide)) ?_
  refine Z.callVN (σ := σ) B (M' := mX8_begin) (as := []) (st := []) dX11_act_4 wX8_begin iX8_begin sX8_begin kX11_280 (hl.n (k := 18) (by decide)) (hl.k (k := 18) (by decide)) (by decide) rfl rfl (t_X8_begin (σ := σ) hl) rfl rfl (by decide) (by decide) (Nat.le_of_ble_eq_true rfl) (by decide) (by decide) ?_
  refine Z.eqσ (τ := (zuX σ 18 (upd (zX σ 18) 1 (nI 0)))) rfl ?_
  refine Z.aload_n B dX11_act_7 (v := .ref 0) rfl rfl ?_
  refine Z.getR (σ := (zuX σ 18 (upd (zX σ 18) 1 (nI 0)))) B fX11_28_11 dX11_act_8 (hl.n (k := 0) (by decide)) (hl.k (k := 0) (by decide)) (by decide) (j := 20) (hl.r (k := 0) (f := 2) (by decide) (by decide)) ?_
  refine Z.iload_n B dX11_act_11 (x := nI i) rfl ?_
  refine Z.callVI (σ := (zuX σ 18 (upd (zX σ 18) 1 (nI 0)))) B (M' := mX1_wayAt) (as := [.int (nI i)]) (st := []) (v := .ref q) dX11_act_12 wX1_wayAt iX1_wayAt sX1_wayAt kX11_102 (hl.n (k := 20) (by decide)) (hl.k (k := 20) (by decide)) (by decide) rfl rfl (t_X1_wayAt_in (σ := (zuX σ 18 (upd (zX σ 18) 1 (nI 0)))) H hi hq) rfl rfl (by decide) (by decide) (Nat.le_of_ble_eq_true rfl) (by decide) (by decide) ?_
  refine Z.astore B dX11_act_15 (by decide) rfl (L' := [(0, .ref 0), (1, .int (nI i)), (2, .int (nI 0)), (3, .int x), (4, .ref q)]) rfl ?_
  refine Z.aload B dX11_act_17 (v := .ref q) rfl rfl ?_
  refine Z.ifnonnull_r B dX11_act_19 (tgt := 24) rfl ?_
  refine Z.iload_n B dX11_act_24 (x := nI 0) rfl ?_
  refine Z.tabIn B dX11_act_25 (by decide) (by decide) (off := 27) (by decide) (tgt := 52) rfl ?_
  refine Z.aload B dX11_act_52 (v := .ref q) rfl rfl ?_
  refine Z.iload_n B dX11_act_54 (x := x) rfl ?_
  refine Z.callVI (σ := (zuX σ 18 (upd (zX σ 18) 1 (nI 0)))) B (M' := mX9_feels) (as := [.int x]) (st := []) (v := .int (x + nI num)) dX11_act_55 wX9_feels iX9_feels sX9_feels kX11_283 hw.1 hw.2.1 (by decide) rfl rfl (t_C_X9_feels_0 (σ := (zuX σ 18 (upd (zX σ 18) 1 (nI 0)))) hl (q := q) (r := 0) (x := x) (hw.uX (by decide)) rfl (by decide)) rfl rfl (by decide) (by decide) (Nat.le_of_ble_eq_true rfl) (by decide) (by decide) ?_
  refine Z.eqσ (τ := (zuX (zuX σ 18 (upd (zX σ 18) 1 (nI (0 + 1)))) 19 (upd (zX σ 19) (0) (nI 10)))) (by rw [show zX (zuX σ 18 (upd (zX σ 18) 1 (nI 0))) 18 = upd (zX σ 18) 1 (nI 0) from rfl, upd_upd, zuX_sw (by decide)]; try rfl) ?_
  refine Z.iret B Rt dX11_act_58 (ty := .int) rfl rfl (by decide) (by decide) ?_
  exact ⟨rfl, rfl⟩

theorem t_M_act_feels_0 {σ : zSt} (hl : Lay σ) {n a y : Nat} (H : zMd σ n a y) {i pa : Nat} (hi : i < y) (hw : zMy σ i 0 pa) {x : Int32} : Dt mX12_act [.ref 45, .int (nI i), .int (nI 0), .int x] σ (some (.int (x + nI i))) (zuX (zuX σ 45 (upd (zX σ 45) 31 (nI (0 + 1)))) 65 (upd (zX σ 65) (0) (nI 10))) := by
  refine Dt.of (by decide) (Nat.le_of_ble_eq_true rfl) fun κ B Rt => ?_
  show Z κ 0 0 σ 0 [(0, .ref 45), (1, .int (nI i)), (2, .int (nI 0)), (3, .int x)] []
  refine Z.aload_n B dX12_act_0 (v := .ref 45) rfl rfl ?_
  refine Z.iconst B dX12_act_1 (v := nI 0) rfl ?_
  refine Z.putI (σ := σ) B fX12_226_12 (ty := .int) ⟨_, _, _, rfl, rfl, by decide +kernel⟩ dX12_act_2 (hl.n (k := 45) (by decide)) (hl.k (k := 45) (by decide)) (by decide) rfl rfl (τ := (zuX σ 45 (upd (zX σ 45) 31 (nI 0)))) rfl ?_
  refine Z.aload_n B dX12_act_5 (v := .ref 45) rfl rfl ?_
  refine Z.iload_n B dX12_act_6 (x := nI i) rfl ?_
  refine Z.callVI (σ := (zuX σ 45 (upd (zX σ 45) 31 (nI 0)))) B (M' := mX12_isWay) (as := [.int (nI i)]) (st := []) (v := .int (nI 1)) dX12_act_7 wX12_isWay iX12_isWay sX12_isWay kX12_98 (hl.n (k := 45) (by decide)) (hl.k (k := 45) (by decide)) (by decide) rfl rfl (t_X12_isWay_in (σ := (zuX σ 45 (upd (zX σ 45) 31 (nI 0)))) H hi) rfl rfl (by decide) (by decide) (Nat.le_of_ble_eq_true rfl) (by decide) (by decide) ?_
  refine Z.if_eqN B dX12_act_10 (tgt := 22) rfl (by omega) (fun h10 => by exfalso; first | omega | contradiction | simp_all) (fun h10 => ?_)
  refine Z.iload_n B dX12_act_13 (x := nI 0) rfl ?_
  refine Z.if_ltN B dX12_act_14 (tgt := 22) rfl (by omega) ?_
  refine Z.iload_n B dX12_act_17 (x := nI 0) rfl ?_
  refine Z.iconst B dX12_act_18 (v := nI 2) rfl ?_
  refine Z.icmp_leN B dX12_act_19 (tgt := 24) rfl (by omega) (by omega) (fun h19 => ?_) (fun h19 => by exfalso; first | omega | contradiction | simp_all)
  refine Z.iload_n B dX12_act_24 (x := nI 0) rfl ?_
  refine Z.if_neN B dX12_act_25 (tgt := 37) rfl (by omega) (fun h25 => by exfalso; first | omega | contradiction | simp_all) (fun h25 => ?_)
  refine Z.aload_n B dX12_act_28 (v := .ref 45) rfl rfl ?_
  refine Z.iload_n B dX12_act_29 (x := nI i) rfl ?_
  refine Z.iload_n B dX12_act_30 (x := x) rfl ?_
  refine Z.callVI (σ := (zuX σ 45 (upd (zX σ 45) 31 (nI 0)))) B (M' := mX12_feels) (as := [.int (nI i), .int x]) (st := []) (v := .int (x + nI i)) dX12_act_31 wX12_feels iX12_feels sX12_feels kX12_233 (hl.n (k := 45) (by decide)) (hl.k (k := 45) (by decide)) (by decide) rfl rfl (t_X12_feels_0 (σ := (zuX σ 45 (upd (zX σ 45) 31 (nI 0)))) hl (w := i) (pa := pa) (r := 0) (x := x) hw rfl (by decide)) rfl rfl (by decide) (by decide) (Nat.le_of_ble_eq_true rfl) (by decide) (by decide) ?_
  refine Z.eqσ (τ := (zuX (zuX σ 45 (upd (zX σ 45) 31 (nI (0 + 1)))) 65 (upd (zX σ 65) (0) (nI 10)))) (by rw [show zX (zuX σ 45 (upd (zX σ 45) 31 (nI 0))) 45 = upd (zX σ 45) 31 (nI 0) from rfl, upd_upd, zuX_sw (by decide)]; try rfl) ?_
  refine Z.goto B dX12_act_34 (tgt := 57) rfl ?_
  refine Z.iret B Rt dX12_act_57 (ty := .int) rfl rfl (by decide) (by decide) ?_
  exact ⟨rfl, rfl⟩

theorem t_K_act_asks_0 {σ : zSt} (hl : Lay σ) {n a y : Nat} (H : zHd σ n a y) {i q pa num : Nat} (hi : i < y) (hq : zR σ 24 i = some q) (hw : zWo σ q 0 pa num) {x : Int32} : Dt mX11_act [.ref 0, .int (nI i), .int (nI 1), .int x] σ (some (.int ((x + nI num) * nI 2))) (zuX (zuX σ 18 (upd (zX σ 18) 1 (nI (0 + 2)))) 19 (upd (upd (zX σ 19) (0) (nI 11)) (0 + 1) (nI 10))) := by
  refine Dt.of (by decide) (Nat.le_of_ble_eq_true rfl) fun κ B Rt => ?_
  show Z κ 0 0 σ 0 [(0, .ref 0), (1, .int (nI i)), (2, .int (nI 1)), (3, .int x)] []
  refine Z.aload_n B dX11_act_0 (v := .ref 0) rfl rfl ?_
  refine Z.getR (σ := σ) B fX11_19_11 dX11_act_1 (hl.n (k := 0) (by decide)) (hl.k (k := 0) (by decide)) (by decide) (j := 18) (hl.r (k := 0) (f := 1) (by decide) (by decide)) ?_
  refine Z.callVN (σ := σ) B (M' := mX8_begin) (as := []) (st := []) dX11_act_4 wX8_begin iX8_begin sX8_begin kX11_280 (hl.n (k := 18) (by decide)) (hl.k (k := 18) (by decide)) (by decide) rfl rfl (t_X8_begin (σ := σ) hl) rfl rfl (by decide) (by decide) (Nat.le_of_ble_eq_true rfl) (by decide) (by decide) ?_
  refine Z.eqσ (τ := (zuX σ 18 (upd (zX σ 18) 1 (nI 0)))) rfl ?_
  refine Z.aload_n B dX11_act_7 (v := .ref 0) rfl rfl ?_
  refine Z.getR (σ := (zuX σ 18 (upd (zX σ 18) 1 (nI 0)))) B fX11_28_11 dX11_act_8 (hl.n (k := 0) (by decide)) (hl.k (k := 0) (by decide)) (by decide) (j := 20) (hl.r (k := 0) (f := 2) (by decide) (by decide)) ?_
  refine Z.iload_n B dX11_act_11 (x := nI i) rfl ?_
  refine Z.callVI (σ := (zuX σ 18 (upd (zX σ 18) 1 (nI 0)))) B (M' := mX1_wayAt) (as := [.int (nI i)]) (st := []) (v := .ref q) dX11_act_12 wX1_wayAt iX1_wayAt sX1_wayAt kX11_102 (hl.n (k := 20) (by decide)) (hl.k (k := 20) (by decide)) (by decide) rfl rfl (t_X1_wayAt_in (σ := (zuX σ 18 (upd (zX σ 18) 1 (nI 0)))) H hi hq) rfl rfl (by decide) (by decide) (Nat.le_of_ble_eq_true rfl) (by decide) (by decide) ?_
  refine Z.astore B dX11_act_15 (by decide) rfl (L' := [(0, .ref 0), (1, .int (nI i)), (2, .int (nI 1)), (3, .int x), (4, .ref q)]) rfl ?_
  refine Z.aload B dX11_act_17 (v := .ref q) rfl rfl ?_
  refine Z.ifnonnull_r B dX11_act_19 (tgt := 24) rfl ?_
  refine Z.iload_n B dX11_act_24 (x := nI 1) rfl ?_
  refine Z.tabIn B dX11_act_25 (by decide) (by decide) (off := 34) (by decide) (tgt := 59) rfl ?_
  refine Z.aload B dX11_act_59 (v := .ref q) rfl rfl ?_
  refine Z.iload_n B dX11_act_61 (x := x) rfl ?_
  refine Z.callVI (σ := (zuX σ 18 (upd (zX σ 18) 1 (nI 0)))) B (M' := mX9_asks) (as := [.int x]) (st := []) (v := .int ((x + nI num) * nI 2)) dX11_act_62 wX9_asks iX9_asks sX9_asks kX11_286 hw.1 hw.2.1 (by decide) rfl rfl (t_C_X9_asks_0 (σ := (zuX σ 18 (upd (zX σ 18) 1 (nI 0)))) hl (q := q) (r := 0) (x := x) (hw.uX (by decide)) rfl (by decide)) rfl rfl (by decide) (by decide) (Nat.le_of_ble_eq_true rfl) (by decide) (by decide) ?_
  refine Z.eqσ (τ := (zuX (zuX σ 18 (upd (zX σ 18) 1 (nI (0 + 2)))) 19 (upd (upd (zX σ 19) (0) (nI 11)) (0 + 1) (nI 10)))) (by rw [show zX (zuX σ 18 (upd (zX σ 18) 1 (nI 0))) 18 = upd (zX σ 18) 1 (nI 0) from rfl, upd_upd, zuX_sw (by decide)]; try rfl) ?_
  refine Z.iret B Rt dX11_act_65 (ty := .int) rfl rfl (by decide) (by decide) ?_
  exact ⟨rfl, rfl⟩

theorem t_M_act_asks_0 {σ : zSt} (hl : Lay σ) {n a y : Nat} (H : zMd σ n a y) {i pa : Nat} (hi : i < y) (hw : zMy σ i 0 pa) {x : Int32} : Dt mX12_act [.ref 45, .int (nI i), .int (nI 1), .int x] σ (some (.int ((x + nI i) * nI 2))) (zuX (zuX σ 45 (upd (zX σ 45) 31 (nI (0 + 2)))) 65 (upd (upd (zX σ 65) (0) (nI 11)) (0 + 1) (nI 10))) := by
  refine Dt.of (by decide) (Nat.le_of_ble_eq_true rfl) fun κ B Rt => ?_
  show Z κ 0 0 σ 0 [(0, .ref 45), (1, .int (nI i)), (2, .int (nI 1)), (3, .int x)] []
  refine Z.aload_n B dX12_act_0 (v := .ref 45) rfl rfl ?_
  refine Z.iconst B dX12_act_1 (v := nI 0) rfl ?_
  refine Z.putI (σ := σ) B fX12_226_12 (ty := .int) ⟨_, _, _, rfl, rfl, by decide +kernel⟩ dX12_act_2 (hl.n (k := 45) (by decide)) (hl.k (k := 45) (by decide)) (by decide) rfl rfl (τ := (zuX σ 45 (upd (zX σ 45) 31 (nI 0)))) rfl ?_
  refine Z.aload_n B dX12_act_5 (v := .ref 45) rfl rfl ?_
  refine Z.iload_n B dX12_act_6 (x := nI i) rfl ?_
  refine Z.callVI (σ := (zuX σ 45 (upd (zX σ 45) 31 (nI 0)))) B (M' := mX12_isWay) (as := [.int (nI i)]) (st := []) (v := .int (nI 1)) dX12_act_7 wX12_isWay iX12_isWay sX12_isWay kX12_98 (hl.n (k := 45) (by decide)) (hl.k (k := 45) (by decide)) (by decide) rfl rfl (t_X12_isWay_in (σ := (zuX σ 45 (upd (zX σ 45) 31 (nI 0)))) H hi) rfl rfl (by decide) (by decide) (Nat.le_of_ble_eq_true rfl) (by decide) (by decide) ?_
  refine Z.if_eqN B dX12_act_10 (tgt := 22) rfl (by omega) (fun h10 => by exfalso; first | omega | contradiction | simp_all) (fun h10 => ?_)
  refine Z.iload_n B dX12_act_13 (x := nI 1) rfl ?_
  refine Z.if_ltN B dX12_act_14 (tgt := 22) rfl (by omega) ?_
  refine Z.iload_n B dX12_act_17 (x := nI 1) rfl ?_
  refine Z.iconst B dX12_act_18 (v := nI 2) rfl ?_
  refine Z.icmp_leN B dX12_act_19 (tgt := 24) rfl (by omega) (by omega) (fun h19 => ?_) (fun h19 => by exfalso; first | omega | contradiction | simp_all)
  refine Z.iload_n B dX12_act_24 (x := nI 1) rfl ?_
  refine Z.if_neN B dX12_act_25 (tgt := 37) rfl (by omega) (fun h25 => ?_) (fun h25 => by exfalso; first | omega | contradiction | simp_all)
  refine Z.iload_n B dX12_act_37 (x := nI 1) rfl ?_
  refine Z.iconst B dX12_act_38 (v := nI 1) rfl ?_
  refine Z.icmp_neN B dX12_act_39 (tgt := 51) rfl (by omega) (by omega) (fun h39 => by exfalso; first | omega | contradiction | simp_all) (fun h39 => ?_)
  refine Z.aload_n B dX12_act_42 (v := .ref 45) rfl rfl ?_
  refine Z.iload_n B dX12_act_43 (x := nI i) rfl ?_
  refine Z.iload_n B dX12_act_44 (x := x) rfl ?_
  refine Z.callVI (σ := (zuX σ 45 (upd (zX σ 45) 31 (nI 0)))) B (M' := mX12_asks) (as := [.int (nI i), .int x]) (st := []) (v := .int ((x + nI i) * nI 2)) dX12_act_45 wX12_asks iX12_asks sX12_asks kX12_236 (hl.n (k := 45) (by decide)) (hl.k (k := 45) (by decide)) (by decide) rfl rfl (t_X12_asks_0 (σ := (zuX σ 45 (upd (zX σ 45) 31 (nI 0)))) hl (w := i) (pa := pa) (r := 0) (x := x) hw rfl (by decide)) rfl rfl (by decide) (by decide) (Nat.le_of_ble_eq_true rfl) (by decide) (by decide) ?_
  refine Z.eqσ (τ := (zuX (zuX σ 45 (upd (zX σ 45) 31 (nI (0 + 2)))) 65 (upd (upd (zX σ 65) (0) (nI 11)) (0 + 1) (nI 10)))) (by rw [show zX (zuX σ 45 (upd (zX σ 45) 31 (nI 0))) 45 = upd (zX σ 45) 31 (nI 0) from rfl, upd_upd, zuX_sw (by decide)]; try rfl) ?_
  refine Z.goto B dX12_act_48 (tgt := 57) rfl ?_
  refine Z.iret B Rt dX12_act_57 (ty := .int) rfl rfl (by decide) (by decide) ?_
  exact ⟨rfl, rfl⟩

theorem t_K_act_sums_0 {σ : zSt} (hl : Lay σ) {n a y : Nat} (H : zHd σ n a y) {i q pa num : Nat} (hi : i < y) (hq : zR σ 24 i = some q) (hw : zWo σ q 0 pa num) {x : Int32} : Dt mX11_act [.ref 0, .int (nI i), .int (nI 2), .int x] σ (some (.int (((x + nI num) * nI 2) ^^^ ((x - nI pa) + nI num)))) (zuX (zuX σ 18 (upd (zX σ 18) 1 (nI (0 + 4)))) 19 (upd (upd (upd (upd (zX σ 19) (0) (nI 12)) (0 + 1) (nI 11)) (0 + 2) (nI 10)) (0 + 3) (nI 10))) := by
  refine Dt.of (by decide) (Nat.le_of_ble_eq_true rfl) fun κ B Rt => ?_
  show Z κ 0 0 σ 0 [(0, .ref 0), (1, .int (nI i)), (2, .int (nI 2)), (3, .int x)] []
  refine Z.aload_n B dX11_act_0 (v := .ref 0) rfl rfl ?_
  refine Z.getR (σ := σ) B fX11_19_11 dX11_act_1 (hl.n (k := 0) (by decide)) (hl.k (k := 0) (by decide)) (by decide) (j := 18) (hl.r (k := 0) (f := 1) (by decide) (by decide)) ?_
  refine Z.callVN (σ := σ) B (M' := mX8_begin) (as := []) (st := []) dX11_act_4 wX8_begin iX8_begin sX8_begin kX11_280 (hl.n (k := 18) (by decide)) (hl.k (k := 18) (by decide)) (by decide) rfl rfl (t_X8_begin (σ := σ) hl) rfl rfl (by decide) (by decide) (Nat.le_of_ble_eq_true rfl) (by decide) (by decide) ?_
  refine Z.eqσ (τ := (zuX σ 18 (upd (zX σ 18) 1 (nI 0)))) rfl ?_
  refine Z.aload_n B dX11_act_7 (v := .ref 0) rfl rfl ?_
  refine Z.getR (σ := (zuX σ 18 (upd (zX σ 18) 1 (nI 0)))) B fX11_28_11 dX11_act_8 (hl.n (k := 0) (by decide)) (hl.k (k := 0) (by decide)) (by decide) (j := 20) (hl.r (k := 0) (f := 2) (by decide) (by decide)) ?_
  refine Z.iload_n B dX11_act_11 (x := nI i) rfl ?_
  refine Z.callVI (σ := (zuX σ 18 (upd (zX σ 18) 1 (nI 0)))) B (M' := mX1_wayAt) (as := [.int (nI i)]) (st := []) (v := .ref q) dX11_act_12 wX1_wayAt iX1_wayAt sX1_wayAt kX11_102 (hl.n (k := 20) (by decide)) (hl.k (k := 20) (by decide)) (by decide) rfl rfl (t_X1_wayAt_in (σ := (zuX σ 18 (upd (zX σ 18) 1 (nI 0)))) H hi hq) rfl rfl (by decide) (by decide) (Nat.le_of_ble_eq_true rfl) (by decide) (by decide) ?_
  refine Z.astore B dX11_act_15 (by decide) rfl (L' := [(0, .ref 0), (1, .int (nI i)), (2, .int (nI 2)), (3, .int x), (4, .ref q)]) rfl ?_
  refine Z.aload B dX11_act_17 (v := .ref q) rfl rfl ?_
  refine Z.ifnonnull_r B dX11_act_19 (tgt := 24) rfl ?_
  refine Z.iload_n B dX11_act_24 (x := nI 2) rfl ?_
  refine Z.tabIn B dX11_act_25 (by decide) (by decide) (off := 41) (by decide) (tgt := 66) rfl ?_
  refine Z.aload B dX11_act_66 (v := .ref q) rfl rfl ?_
  refine Z.iload_n B dX11_act_68 (x := x) rfl ?_
  refine Z.callVI (σ := (zuX σ 18 (upd (zX σ 18) 1 (nI 0)))) B (M' := mX9_sums) (as := [.int x]) (st := []) (v := .int (((x + nI num) * nI 2) ^^^ ((x - nI pa) + nI num))) dX11_act_69 wX9_sums iX9_sums sX9_sums kX11_289 hw.1 hw.2.1 (by decide) rfl rfl (t_C_X9_sums_0 (σ := (zuX σ 18 (upd (zX σ 18) 1 (nI 0)))) hl (q := q) (r := 0) (x := x) (hw.uX (by decide)) rfl (by decide)) rfl rfl (by decide) (by decide) (Nat.le_of_ble_eq_true rfl) (by decide) (by decide) ?_
  refine Z.eqσ (τ := (zuX (zuX σ 18 (upd (zX σ 18) 1 (nI (0 + 4)))) 19 (upd (upd (upd (upd (zX σ 19) (0) (nI 12)) (0 + 1) (nI 11)) (0 + 2) (nI 10)) (0 + 3) (nI 10)))) (by rw [show zX (zuX σ 18 (upd (zX σ 18) 1 (nI 0))) 18 = upd (zX σ 18) 1 (nI 0) from rfl, upd_upd, zuX_sw (by decide)]; try rfl) ?_
  refine Z.iret B Rt dX11_act_72 (ty := .int) rfl rfl (by decide) (by decide) ?_
  exact ⟨rfl, rfl⟩

theorem t_M_act_sums_0 {σ : zSt} (hl : Lay σ) {n a y : Nat} (H : zMd σ n a y) {i pa : Nat} (hi : i < y) (hw : zMy σ i 0 pa) {x : Int32} : Dt mX12_act [.ref 45, .int (nI i), .int (nI 2), .int x] σ (some (.int (((x + nI i) * nI 2) ^^^ ((x - nI pa) + nI i)))) (zuX (zuX σ 45 (upd (zX σ 45) 31 (nI (0 + 4)))) 65 (upd (upd (upd (upd (zX σ 65) (0) (nI 12)) (0 + 1) (nI 11)) (0 + 2) (nI 10)) (0 + 3) (nI 10))) := by
  refine Dt.of (by decide) (Nat.le_of_ble_eq_true rfl) fun κ B Rt => ?_
  show Z κ 0 0 σ 0 [(0, .ref 45), (1, .int (nI i)), (2, .int (nI 2)), (3, .int x)] []
  refine Z.aload_n B dX12_act_0 (v := .ref 45) rfl rfl ?_
  refine Z.iconst B dX12_act_1 (v := nI 0) rfl ?_
  refine Z.putI (σ := σ) B fX12_226_12 (ty := .int) ⟨_, _, _, rfl, rfl, by decide +kernel⟩ dX12_act_2 (hl.n (k := 45) (by decide)) (hl.k (k := 45) (by decide)) (by decide) rfl rfl (τ := (zuX σ 45 (upd (zX σ 45) 31 (nI 0)))) rfl ?_
  refine Z.aload_n B dX12_act_5 (v := .ref 45) rfl rfl ?_
  refine Z.iload_n B dX12_act_6 (x := nI i) rfl ?_
  refine Z.callVI (σ := (zuX σ 45 (upd (zX σ 45) 31 (nI 0)))) B (M' := mX12_isWay) (as := [.int (nI i)]) (st := []) (v := .int (nI 1)) dX12_act_7 wX12_isWay iX12_isWay sX12_isWay kX12_98 (hl.n (k := 45) (by decide)) (hl.k (k := 45) (by decide)) (by decide) rfl rfl (t_X12_isWay_in (σ := (zuX σ 45 (upd (zX σ 45) 31 (nI 0)))) H hi) rfl rfl (by decide) (by decide) (Nat.le_of_ble_eq_true rfl) (by decide) (by decide) ?_
  refine Z.if_eqN B dX12_act_10 (tgt := 22) rfl (by omega) (fun h10 => by exfalso; first | omega | contradiction | simp_all) (fun h10 => ?_)
  refine Z.iload_n B dX12_act_13 (x := nI 2) rfl ?_
  refine Z.if_ltN B dX12_act_14 (tgt := 22) rfl (by omega) ?_
  refine Z.iload_n B dX12_act_17 (x := nI 2) rfl ?_
  refine Z.iconst B dX12_act_18 (v := nI 2) rfl ?_
  refine Z.icmp_leN B dX12_act_19 (tgt := 24) rfl (by omega) (by omega) (fun h19 => ?_) (fun h19 => by exfalso; first | omega | contradiction | simp_all)
  refine Z.iload_n B dX12_act_24 (x := nI 2) rfl ?_
  refine Z.if_neN B dX12_act_25 (tgt := 37) rfl (by omega) (fun h25 => ?_) (fun h25 => by exfalso; first | omega | contradiction | simp_all)
  refine Z.iload_n B dX12_act_37 (x := nI 2) rfl ?_
  refine Z.iconst B dX12_act_38 (v := nI 1) rfl ?_
  refine Z.icmp_neN B dX12_act_39 (tgt := 51) rfl (by omega) (by omega) (fun h39 => ?_) (fun h39 => by exfalso; first | omega | contradiction | simp_all)
  refine Z.aload_n B dX12_act_51 (v := .ref 45) rfl rfl ?_
  refine Z.iload_n B dX12_act_52 (x := nI i) rfl ?_
  refine Z.iload_n B dX12_act_53 (x := x) rfl ?_
  refine Z.callVI (σ := (zuX σ 45 (upd (zX σ 45) 31 (nI 0)))) B (M' := mX12_sums) (as := [.int (nI i), .int x]) (st := []) (v := .int (((x + nI i) * nI 2) ^^^ ((x - nI pa) + nI i))) dX12_act_54 wX12_sums iX12_sums sX12_sums kX12_239 (hl.n (k := 45) (by decide)) (hl.k (k := 45) (by decide)) (by decide) rfl rfl (t_X12_sums_0 (σ := (zuX σ 45 (upd (zX σ 45) 31 (nI 0)))) hl (w := i) (pa := pa) (r := 0) (x := x) hw rfl (by decide)) rfl rfl (by decide) (by decide) (Nat.le_of_ble_eq_true rfl) (by decide) (by decide) ?_
  refine Z.eqσ (τ := (zuX (zuX σ 45 (upd (zX σ 45) 31 (nI (0 + 4)))) 65 (upd (upd (upd (upd (zX σ 65) (0) (nI 12)) (0 + 1) (nI 11)) (0 + 2) (nI 10)) (0 + 3) (nI 10)))) (by rw [show zX (zuX σ 45 (upd (zX σ 45) 31 (nI 0))) 45 = upd (zX σ 45) 31 (nI 0) from rfl, upd_upd, zuX_sw (by decide)]; try rfl) ?_
  refine Z.iret B Rt dX12_act_57 (ty := .int) rfl rfl (by decide) (by decide) ?_
  exact ⟨rfl, rfl⟩

theorem t_K_act_feels_1 {σ : zSt} (hl : Lay σ) {n a y : Nat} (H : zHd σ n a y) {i q pa num : Nat} (hi : i < y) (hq : zR σ 24 i = some q) (hw : zWo σ q 1 pa num) {x : Int32} : Dt mX11_act [.ref 0, .int (nI i), .int (nI 0), .int x] σ (some (.int (x + nI num + nI pa))) (zuX (zuX σ 18 (upd (zX σ 18) 1 (nI (0 + 2)))) 19 (upd (upd (zX σ 19) (0) (nI 20)) (0 + 1) (nI 10))) := by
  refine Dt.of (by decide) (Nat.le_of_ble_eq_true rfl) fun κ B Rt => ?_
  show Z κ 0 0 σ 0 [(0, .ref 0), (1, .int (nI i)), (2, .int (nI 0)), (3, .int x)] []
  refine Z.aload_n B dX11_act_0 (v := .ref 0) rfl rfl ?_
  refine Z.getR (σ := σ) B fX11_19_11 dX11_act_1 (hl.n (k := 0) (by decide)) (hl.k (k := 0) (by decide)) (by decide) (j := 18) (hl.r (k := 0) (f := 1) (by decide) (by decide)) ?_
  refine Z.callVN (σ := σ) B (M' := mX8_begin) (as := []) (st := []) dX11_act_4 wX8_begin iX8_begin sX8_begin kX11_280 (hl.n (k := 18) (by decide)) (hl.k (k := 18) (by decide)) (by decide) rfl rfl (t_X8_begin (σ := σ) hl) rfl rfl (by decide) (by decide) (Nat.le_of_ble_eq_true rfl) (by decide) (by decide) ?_
  refine Z.eqσ (τ := (zuX σ 18 (upd (zX σ 18) 1 (nI 0)))) rfl ?_
  refine Z.aload_n B dX11_act_7 (v := .ref 0) rfl rfl ?_
  refine Z.getR (σ := (zuX σ 18 (upd (zX σ 18) 1 (nI 0)))) B fX11_28_11 dX11_act_8 (hl.n (k := 0) (by decide)) (hl.k (k := 0) (by decide)) (by decide) (j := 20) (hl.r (k := 0) (f := 2) (by decide) (by decide)) ?_
  refine Z.iload_n B dX11_act_11 (x := nI i) rfl ?_
  refine Z.callVI (σ := (zuX σ 18 (upd (zX σ 18) 1 (nI 0)))) B (M' := mX1_wayAt) (as := [.int (nI i)]) (st := []) (v := .ref q) dX11_act_12 wX1_wayAt iX1_wayAt sX1_wayAt kX11_102 (hl.n (k := 20) (by decide)) (hl.k (k := 20) (by decide)) (by decide) rfl rfl (t_X1_wayAt_in (σ := (zuX σ 18 (upd (zX σ 18) 1 (nI 0)))) H hi hq) rfl rfl (by decide) (by decide) (Nat.le_of_ble_eq_true rfl) (by decide) (by decide) ?_
  refine Z.astore B dX11_act_15 (by decide) rfl (L' := [(0, .ref 0), (1, .int (nI i)), (2, .int (nI 0)), (3, .int x), (4, .ref q)]) rfl ?_
  refine Z.aload B dX11_act_17 (v := .ref q) rfl rfl ?_
  refine Z.ifnonnull_r B dX11_act_19 (tgt := 24) rfl ?_
  refine Z.iload_n B dX11_act_24 (x := nI 0) rfl ?_
  refine Z.tabIn B dX11_act_25 (by decide) (by decide) (off := 27) (by decide) (tgt := 52) rfl ?_
  refine Z.aload B dX11_act_52 (v := .ref q) rfl rfl ?_
  refine Z.iload_n B dX11_act_54 (x := x) rfl ?_
  refine Z.callUI (σ := (zuX σ 18 (upd (zX σ 18) 1 (nI 0)))) B (M' := mX7_feels) (as := [.int x]) (st := []) (v := .int (x + nI num + nI pa)) dX11_act_55 wX7_feels iX7_feels (x := yX9_feels) (owner := "FourAskOne$Way") kX11_283 (zT_at 981 (by decide +kernel) rfl) iX9_feels wX9_feels.1 (by decide +kernel) hw.1 hw.2.1 (by decide) rfl (zT_at 997 (by decide +kernel) rfl) (t_C_X7_feels_1 (σ := (zuX σ 18 (upd (zX σ 18) 1 (nI 0)))) hl (q := q) (r := 0) (x := x) (hw.uX (by decide)) rfl (by decide)) rfl rfl (by decide) (by decide) (Nat.le_of_ble_eq_true rfl) (by decide) (by decide) ?_
  refine Z.eqσ (τ := (zuX (zuX σ 18 (upd (zX σ 18) 1 (nI (0 + 2)))) 19 (upd (upd (zX σ 19) (0) (nI 20)) (0 + 1) (nI 10)))) (by rw [show zX (zuX σ 18 (upd (zX σ 18) 1 (nI 0))) 18 = upd (zX σ 18) 1 (nI 0) from rfl, upd_upd, zuX_sw (by decide)]; try rfl) ?_
  refine Z.iret B Rt dX11_act_58 (ty := .int) rfl rfl (by decide) (by decide) ?_
  exact ⟨rfl, rfl⟩

theorem t_M_act_feels_1 {σ : zSt} (hl : Lay σ) {n a y : Nat} (H : zMd σ n a y) {i pa : Nat} (hi : i < y) (hw : zMy σ i 1 pa) {x : Int32} : Dt mX12_act [.ref 45, .int (nI i), .int (nI 0), .int x] σ (some (.int (x + nI i + nI pa))) (zuX (zuX σ 45 (upd (zX σ 45) 31 (nI (0 + 2)))) 65 (upd (upd (zX σ 65) (0) (nI 20)) (0 + 1) (nI 10))) := by
  refine Dt.of (by decide) (Nat.le_of_ble_eq_true rfl) fun κ B Rt => ?_
  show Z κ 0 0 σ 0 [(0, .ref 45), (1, .int (nI i)), (2, .int (nI 0)), (3, .int x)] []
  refine Z.aload_n B dX12_act_0 (v := .ref 45) rfl rfl ?_
  refine Z.iconst B dX12_act_1 (v := nI 0) rfl ?_
  refine Z.putI (σ := σ) B fX12_226_12 (ty := .int) ⟨_, _, _, rfl, rfl, by decide +kernel⟩ dX12_act_2 (hl.n (k := 45) (by decide)) (hl.k (k := 45) (by decide)) (by decide) rfl rfl (τ := (zuX σ 45 (upd (zX σ 45) 31 (nI 0)))) rfl ?_
  refine Z.aload_n B dX12_act_5 (v := .ref 45) rfl rfl ?_
  refine Z.iload_n B dX12_act_6 (x := nI i) rfl ?_
  refine Z.callVI (σ := (zuX σ 45 (upd (zX σ 45) 31 (nI 0)))) B (M' := mX12_isWay) (as := [.int (nI i)]) (st := []) (v := .int (nI 1)) dX12_act_7 wX12_isWay iX12_isWay sX12_isWay kX12_98 (hl.n (k := 45) (by decide)) (hl.k (k := 45) (by decide)) (by decide) rfl rfl (t_X12_isWay_in (σ := (zuX σ 45 (upd (zX σ 45) 31 (nI 0)))) H hi) rfl rfl (by decide) (by decide) (Nat.le_of_ble_eq_true rfl) (by decide) (by decide) ?_
  refine Z.if_eqN B dX12_act_10 (tgt := 22) rfl (by omega) (fun h10 => by exfalso; first | omega | contradiction | simp_all) (fun h10 => ?_)
  refine Z.iload_n B dX12_act_13 (x := nI 0) rfl ?_
  refine Z.if_ltN B dX12_act_14 (tgt := 22) rfl (by omega) ?_
  refine Z.iload_n B dX12_act_17 (x := nI 0) rfl ?_
  refine Z.iconst B dX12_act_18 (v := nI 2) rfl ?_
  refine Z.icmp_leN B dX12_act_19 (tgt := 24) rfl (by omega) (by omega) (fun h19 => ?_) (fun h19 => by exfalso; first | omega | contradiction | simp_all)
  refine Z.iload_n B dX12_act_24 (x := nI 0) rfl ?_
  refine Z.if_neN B dX12_act_25 (tgt := 37) rfl (by omega) (fun h25 => by exfalso; first | omega | contradiction | simp_all) (fun h25 => ?_)
  refine Z.aload_n B dX12_act_28 (v := .ref 45) rfl rfl ?_
  refine Z.iload_n B dX12_act_29 (x := nI i) rfl ?_
  refine Z.iload_n B dX12_act_30 (x := x) rfl ?_
  refine Z.callVI (σ := (zuX σ 45 (upd (zX σ 45) 31 (nI 0)))) B (M' := mX12_feels) (as := [.int (nI i), .int x]) (st := []) (v := .int (x + nI i + nI pa)) dX12_act_31 wX12_feels iX12_feels sX12_feels kX12_233 (hl.n (k := 45) (by decide)) (hl.k (k := 45) (by decide)) (by decide) rfl rfl (t_X12_feels_1 (σ := (zuX σ 45 (upd (zX σ 45) 31 (nI 0)))) hl (w := i) (pa := pa) (r := 0) (x := x) hw rfl (by decide)) rfl rfl (by decide) (by decide) (Nat.le_of_ble_eq_true rfl) (by decide) (by decide) ?_
  refine Z.eqσ (τ := (zuX (zuX σ 45 (upd (zX σ 45) 31 (nI (0 + 2)))) 65 (upd (upd (zX σ 65) (0) (nI 20)) (0 + 1) (nI 10)))) (by rw [show zX (zuX σ 45 (upd (zX σ 45) 31 (nI 0))) 45 = upd (zX σ 45) 31 (nI 0) from rfl, upd_upd, zuX_sw (by decide)]; try rfl) ?_
  refine Z.goto B dX12_act_34 (tgt := 57) rfl ?_
  refine Z.iret B Rt dX12_act_57 (ty := .int) rfl rfl (by decide) (by decide) ?_
  exact ⟨rfl, rfl⟩

theorem t_K_act_asks_1 {σ : zSt} (hl : Lay σ) {n a y : Nat} (H : zHd σ n a y) {i q pa num : Nat} (hi : i < y) (hq : zR σ 24 i = some q) (hw : zWo σ q 1 pa num) {x : Int32} : Dt mX11_act [.ref 0, .int (nI i), .int (nI 1), .int x] σ (some (.int ((x + nI num + nI pa) * nI 2))) (zuX (zuX σ 18 (upd (zX σ 18) 1 (nI (0 + 3)))) 19 (upd (upd (upd (zX σ 19) (0) (nI 11)) (0 + 1) (nI 20)) (0 + 2) (nI 10))) := by
  refine Dt.of (by decide) (Nat.le_of_ble_eq_true rfl) fun κ B Rt => ?_
  show Z κ 0 0 σ 0 [(0, .ref 0), (1, .int (nI i)), (2, .int (nI 1)), (3, .int x)] []
  refine Z.aload_n B dX11_act_0 (v := .ref 0) rfl rfl ?_
  refine Z.getR (σ := σ) B fX11_19_11 dX11_act_1 (hl.n (k := 0) (by decide)) (hl.k (k := 0) (by decide)) (by decide) (j := 18) (hl.r (k := 0) (f := 1) (by decide) (by decide)) ?_
  refine Z.callVN (σ := σ) B (M' := mX8_begin) (as := []) (st := []) dX11_act_4 wX8_begin iX8_begin sX8_begin kX11_280 (hl.n (k := 18) (by decide)) (hl.k (k := 18) (by decide)) (by decide) rfl rfl (t_X8_begin (σ := σ) hl) rfl rfl (by decide) (by decide) (Nat.le_of_ble_eq_true rfl) (by decide) (by decide) ?_
  refine Z.eqσ (τ := (zuX σ 18 (upd (zX σ 18) 1 (nI 0)))) rfl ?_
  refine Z.aload_n B dX11_act_7 (v := .ref 0) rfl rfl ?_
  refine Z.getR (σ := (zuX σ 18 (upd (zX σ 18) 1 (nI 0)))) B fX11_28_11 dX11_act_8 (hl.n (k := 0) (by decide)) (hl.k (k := 0) (by decide)) (by decide) (j := 20) (hl.r (k := 0) (f := 2) (by decide) (by decide)) ?_
  refine Z.iload_n B dX11_act_11 (x := nI i) rfl ?_
  refine Z.callVI (σ := (zuX σ 18 (upd (zX σ 18) 1 (nI 0)))) B (M' := mX1_wayAt) (as := [.int (nI i)]) (st := []) (v := .ref q) dX11_act_12 wX1_wayAt iX1_wayAt sX1_wayAt kX11_102 (hl.n (k := 20) (by decide)) (hl.k (k := 20) (by decide)) (by decide) rfl rfl (t_X1_wayAt_in (σ := (zuX σ 18 (upd (zX σ 18) 1 (nI 0)))) H hi hq) rfl rfl (by decide) (by decide) (Nat.le_of_ble_eq_true rfl) (by decide) (by decide) ?_
  refine Z.astore B dX11_act_15 (by decide) rfl (L' := [(0, .ref 0), (1, .int (nI i)), (2, .int (nI 1)), (3, .int x), (4, .ref q)]) rfl ?_
  refine Z.aload B dX11_act_17 (v := .ref q) rfl rfl ?_
  refine Z.ifnonnull_r B dX11_act_19 (tgt := 24) rfl ?_
  refine Z.iload_n B dX11_act_24 (x := nI 1) rfl ?_
  refine Z.tabIn B dX11_act_25 (by decide) (by decide) (off := 34) (by decide) (tgt := 59) rfl ?_
  refine Z.aload B dX11_act_59 (v := .ref q) rfl rfl ?_
  refine Z.iload_n B dX11_act_61 (x := x) rfl ?_
  refine Z.callUI (σ := (zuX σ 18 (upd (zX σ 18) 1 (nI 0)))) B (M' := mX9_asks) (as := [.int x]) (st := []) (v := .int ((x + nI num + nI pa) * nI 2)) dX11_act_62 wX9_asks iX9_asks (x := yX9_asks) (owner := "FourAskOne$Way") kX11_286 (zT_at 1004 (by decide +kernel) rfl) iX9_asks wX9_asks.1 (by decide +kernel) hw.1 hw.2.1 (by decide) rfl (zT_at 1020 (by decide +kernel) rfl) (t_C_X9_asks_1 (σ := (zuX σ 18 (upd (zX σ 18) 1 (nI 0)))) hl (q := q) (r := 0) (x := x) (hw.uX (by decide)) rfl (by decide)) rfl rfl (by decide) (by decide) (Nat.le_of_ble_eq_true rfl) (by decide) (by decide) ?_
  refine Z.eqσ (τ := (zuX (zuX σ 18 (upd (zX σ 18) 1 (nI (0 + 3)))) 19 (upd (upd (upd (zX σ 19) (0) (nI 11)) (0 + 1) (nI 20)) (0 + 2) (nI 10)))) (by rw [show zX (zuX σ 18 (upd (zX σ 18) 1 (nI 0))) 18 = upd (zX σ 18) 1 (nI 0) from rfl, upd_upd, zuX_sw (by decide)]; try rfl) ?_
  refine Z.iret B Rt dX11_act_65 (ty := .int) rfl rfl (by decide) (by decide) ?_
  exact ⟨rfl, rfl⟩

theorem t_M_act_asks_1 {σ : zSt} (hl : Lay σ) {n a y : Nat} (H : zMd σ n a y) {i pa : Nat} (hi : i < y) (hw : zMy σ i 1 pa) {x : Int32} : Dt mX12_act [.ref 45, .int (nI i), .int (nI 1), .int x] σ (some (.int ((x + nI i + nI pa) * nI 2))) (zuX (zuX σ 45 (upd (zX σ 45) 31 (nI (0 + 3)))) 65 (upd (upd (upd (zX σ 65) (0) (nI 11)) (0 + 1) (nI 20)) (0 + 2) (nI 10))) := by
  refine Dt.of (by decide) (Nat.le_of_ble_eq_true rfl) fun κ B Rt => ?_
  show Z κ 0 0 σ 0 [(0, .ref 45), (1, .int (nI i)), (2, .int (nI 1)), (3, .int x)] []
  refine Z.aload_n B dX12_act_0 (v := .ref 45) rfl rfl ?_
  refine Z.iconst B dX12_act_1 (v := nI 0) rfl ?_
  refine Z.putI (σ := σ) B fX12_226_12 (ty := .int) ⟨_, _, _, rfl, rfl, by decide +kernel⟩ dX12_act_2 (hl.n (k := 45) (by decide)) (hl.k (k := 45) (by decide)) (by decide) rfl rfl (τ := (zuX σ 45 (upd (zX σ 45) 31 (nI 0)))) rfl ?_
  refine Z.aload_n B dX12_act_5 (v := .ref 45) rfl rfl ?_
  refine Z.iload_n B dX12_act_6 (x := nI i) rfl ?_
  refine Z.callVI (σ := (zuX σ 45 (upd (zX σ 45) 31 (nI 0)))) B (M' := mX12_isWay) (as := [.int (nI i)]) (st := []) (v := .int (nI 1)) dX12_act_7 wX12_isWay iX12_isWay sX12_isWay kX12_98 (hl.n (k := 45) (by decide)) (hl.k (k := 45) (by decide)) (by decide) rfl rfl (t_X12_isWay_in (σ := (zuX σ 45 (upd (zX σ 45) 31 (nI 0)))) H hi) rfl rfl (by decide) (by decide) (Nat.le_of_ble_eq_true rfl) (by decide) (by decide) ?_
  refine Z.if_eqN B dX12_act_10 (tgt := 22) rfl (by omega) (fun h10 => by exfalso; first | omega | contradiction | simp_all) (fun h10 => ?_)
  refine Z.iload_n B dX12_act_13 (x := nI 1) rfl ?_
  refine Z.if_ltN B dX12_act_14 (tgt := 22) rfl (by omega) ?_
  refine Z.iload_n B dX12_act_17 (x := nI 1) rfl ?_
  refine Z.iconst B dX12_act_18 (v := nI 2) rfl ?_
  refine Z.icmp_leN B dX12_act_19 (tgt := 24) rfl (by omega) (by omega) (fun h19 => ?_) (fun h19 => by exfalso; first | omega | contradiction | simp_all)
  refine Z.iload_n B dX12_act_24 (x := nI 1) rfl ?_
  refine Z.if_neN B dX12_act_25 (tgt := 37) rfl (by omega) (fun h25 => ?_) (fun h25 => by exfalso; first | omega | contradiction | simp_all)
  refine Z.iload_n B dX12_act_37 (x := nI 1) rfl ?_
  refine Z.iconst B dX12_act_38 (v := nI 1) rfl ?_
  refine Z.icmp_neN B dX12_act_39 (tgt := 51) rfl (by omega) (by omega) (fun h39 => by exfalso; first | omega | contradiction | simp_all) (fun h39 => ?_)
  refine Z.aload_n B dX12_act_42 (v := .ref 45) rfl rfl ?_
  refine Z.iload_n B dX12_act_43 (x := nI i) rfl ?_
  refine Z.iload_n B dX12_act_44 (x := x) rfl ?_
  refine Z.callVI (σ := (zuX σ 45 (upd (zX σ 45) 31 (nI 0)))) B (M' := mX12_asks) (as := [.int (nI i), .int x]) (st := []) (v := .int ((x + nI i + nI pa) * nI 2)) dX12_act_45 wX12_asks iX12_asks sX12_asks kX12_236 (hl.n (k := 45) (by decide)) (hl.k (k := 45) (by decide)) (by decide) rfl rfl (t_X12_asks_1 (σ := (zuX σ 45 (upd (zX σ 45) 31 (nI 0)))) hl (w := i) (pa := pa) (r := 0) (x := x) hw rfl (by decide)) rfl rfl (by decide) (by decide) (Nat.le_of_ble_eq_true rfl) (by decide) (by decide) ?_
  refine Z.eqσ (τ := (zuX (zuX σ 45 (upd (zX σ 45) 31 (nI (0 + 3)))) 65 (upd (upd (upd (zX σ 65) (0) (nI 11)) (0 + 1) (nI 20)) (0 + 2) (nI 10)))) (by rw [show zX (zuX σ 45 (upd (zX σ 45) 31 (nI 0))) 45 = upd (zX σ 45) 31 (nI 0) from rfl, upd_upd, zuX_sw (by decide)]; try rfl) ?_
  refine Z.goto B dX12_act_48 (tgt := 57) rfl ?_
  refine Z.iret B Rt dX12_act_57 (ty := .int) rfl rfl (by decide) (by decide) ?_
  exact ⟨rfl, rfl⟩

theorem t_K_act_sums_1 {σ : zSt} (hl : Lay σ) {n a y : Nat} (H : zHd σ n a y) {i q pa num : Nat} (hi : i < y) (hq : zR σ 24 i = some q) (hw : zWo σ q 1 pa num) {x : Int32} : Dt mX11_act [.ref 0, .int (nI i), .int (nI 2), .int x] σ (some (.int (((x + nI num + nI pa) * nI 2) ^^^ ((x - nI pa) + nI num + nI pa)))) (zuX (zuX σ 18 (upd (zX σ 18) 1 (nI (0 + 6)))) 19 (upd (upd (upd (upd (upd (upd (zX σ 19) (0) (nI 12)) (0 + 1) (nI 11)) (0 + 2) (nI 20)) (0 + 3) (nI 10)) (0 + 4) (nI 20)) (0 + 5) (nI 10))) := by
  refine Dt.of (by decide) (Nat.le_of_ble_eq_true rfl) fun κ B Rt => ?_
  show Z κ 0 0 σ 0 [(0, .ref 0), (1, .int (nI i)), (2, .int (nI 2)), (3, .int x)] []
  refine Z.aload_n B dX11_act_0 (v := .ref 0) rfl rfl ?_
  refine Z.getR (σ := σ) B fX11_19_11 dX11_act_1 (hl.n (k := 0) (by decide)) (hl.k (k := 0) (by decide)) (by decide) (j := 18) (hl.r (k := 0) (f := 1) (by decide) (by decide)) ?_
  refine Z.callVN (σ := σ) B (M' := mX8_begin) (as := []) (st := []) dX11_act_4 wX8_begin iX8_begin sX8_begin kX11_280 (hl.n (k := 18) (by decide)) (hl.k (k := 18) (by decide)) (by decide) rfl rfl (t_X8_begin (σ := σ) hl) rfl rfl (by decide) (by decide) (Nat.le_of_ble_eq_true rfl) (by decide) (by decide) ?_
  refine Z.eqσ (τ := (zuX σ 18 (upd (zX σ 18) 1 (nI 0)))) rfl ?_
  refine Z.aload_n B dX11_act_7 (v := .ref 0) rfl rfl ?_
  refine Z.getR (σ := (zuX σ 18 (upd (zX σ 18) 1 (nI 0)))) B fX11_28_11 dX11_act_8 (hl.n (k := 0) (by decide)) (hl.k (k := 0) (by decide)) (by decide) (j := 20) (hl.r (k := 0) (f := 2) (by decide) (by decide)) ?_
  refine Z.iload_n B dX11_act_11 (x := nI i) rfl ?_
  refine Z.callVI (σ := (zuX σ 18 (upd (zX σ 18) 1 (nI 0)))) B (M' := mX1_wayAt) (as := [.int (nI i)]) (st := []) (v := .ref q) dX11_act_12 wX1_wayAt iX1_wayAt sX1_wayAt kX11_102 (hl.n (k := 20) (by decide)) (hl.k (k := 20) (by decide)) (by decide) rfl rfl (t_X1_wayAt_in (σ := (zuX σ 18 (upd (zX σ 18) 1 (nI 0)))) H hi hq) rfl rfl (by decide) (by decide) (Nat.le_of_ble_eq_true rfl) (by decide) (by decide) ?_
  refine Z.astore B dX11_act_15 (by decide) rfl (L' := [(0, .ref 0), (1, .int (nI i)), (2, .int (nI 2)), (3, .int x), (4, .ref q)]) rfl ?_
  refine Z.aload B dX11_act_17 (v := .ref q) rfl rfl ?_
  refine Z.ifnonnull_r B dX11_act_19 (tgt := 24) rfl ?_
  refine Z.iload_n B dX11_act_24 (x := nI 2) rfl ?_
  refine Z.tabIn B dX11_act_25 (by decide) (by decide) (off := 41) (by decide) (tgt := 66) rfl ?_
  refine Z.aload B dX11_act_66 (v := .ref q) rfl rfl ?_
  refine Z.iload_n B dX11_act_68 (x := x) rfl ?_
  refine Z.callUI (σ := (zuX σ 18 (upd (zX σ 18) 1 (nI 0)))) B (M' := mX9_sums) (as := [.int x]) (st := []) (v := .int (((x + nI num + nI pa) * nI 2) ^^^ ((x - nI pa) + nI num + nI pa))) dX11_act_69 wX9_sums iX9_sums (x := yX9_sums) (owner := "FourAskOne$Way") kX11_289 (zT_at 1031 (by decide +kernel) rfl) iX9_sums wX9_sums.1 (by decide +kernel) hw.1 hw.2.1 (by decide) rfl (zT_at 1045 (by decide +kernel) rfl) (t_C_X9_sums_1 (σ := (zuX σ 18 (upd (zX σ 18) 1 (nI 0)))) hl (q := q) (r := 0) (x := x) (hw.uX (by decide)) rfl (by decide)) rfl rfl (by decide) (by decide) (Nat.le_of_ble_eq_true rfl) (by decide) (by decide) ?_
  refine Z.eqσ (τ := (zuX (zuX σ 18 (upd (zX σ 18) 1 (nI (0 + 6)))) 19 (upd (upd (upd (upd (upd (upd (zX σ 19) (0) (nI 12)) (0 + 1) (nI 11)) (0 + 2) (nI 20)) (0 + 3) (nI 10)) (0 + 4) (nI 20)) (0 + 5) (nI 10)))) (by rw [show zX (zuX σ 18 (upd (zX σ 18) 1 (nI 0))) 18 = upd (zX σ 18) 1 (nI 0) from rfl, upd_upd, zuX_sw (by decide)]; try rfl) ?_
  refine Z.iret B Rt dX11_act_72 (ty := .int) rfl rfl (by decide) (by decide) ?_
  exact ⟨rfl, rfl⟩

theorem t_M_act_sums_1 {σ : zSt} (hl : Lay σ) {n a y : Nat} (H : zMd σ n a y) {i pa : Nat} (hi : i < y) (hw : zMy σ i 1 pa) {x : Int32} : Dt mX12_act [.ref 45, .int (nI i), .int (nI 2), .int x] σ (some (.int (((x + nI i + nI pa) * nI 2) ^^^ ((x - nI pa) + nI i + nI pa)))) (zuX (zuX σ 45 (upd (zX σ 45) 31 (nI (0 + 6)))) 65 (upd (upd (upd (upd (upd (upd (zX σ 65) (0) (nI 12)) (0 + 1) (nI 11)) (0 + 2) (nI 20)) (0 + 3) (nI 10)) (0 + 4) (nI 20)) (0 + 5) (nI 10))) := by
  refine Dt.of (by decide) (Nat.le_of_ble_eq_true rfl) fun κ B Rt => ?_
  show Z κ 0 0 σ 0 [(0, .ref 45), (1, .int (nI i)), (2, .int (nI 2)), (3, .int x)] []
  refine Z.aload_n B dX12_act_0 (v := .ref 45) rfl rfl ?_
  refine Z.iconst B dX12_act_1 (v := nI 0) rfl ?_
  refine Z.putI (σ := σ) B fX12_226_12 (ty := .int) ⟨_, _, _, rfl, rfl, by decide +kernel⟩ dX12_act_2 (hl.n (k := 45) (by decide)) (hl.k (k := 45) (by decide)) (by decide) rfl rfl (τ := (zuX σ 45 (upd (zX σ 45) 31 (nI 0)))) rfl ?_
  refine Z.aload_n B dX12_act_5 (v := .ref 45) rfl rfl ?_
  refine Z.iload_n B dX12_act_6 (x := nI i) rfl ?_
  refine Z.callVI (σ := (zuX σ 45 (upd (zX σ 45) 31 (nI 0)))) B (M' := mX12_isWay) (as := [.int (nI i)]) (st := []) (v := .int (nI 1)) dX12_act_7 wX12_isWay iX12_isWay sX12_isWay kX12_98 (hl.n (k := 45) (by decide)) (hl.k (k := 45) (by decide)) (by decide) rfl rfl (t_X12_isWay_in (σ := (zuX σ 45 (upd (zX σ 45) 31 (nI 0)))) H hi) rfl rfl (by decide) (by decide) (Nat.le_of_ble_eq_true rfl) (by decide) (by decide) ?_
  refine Z.if_eqN B dX12_act_10 (tgt := 22) rfl (by omega) (fun h10 => by exfalso; first | omega | contradiction | simp_all) (fun h10 => ?_)
  refine Z.iload_n B dX12_act_13 (x := nI 2) rfl ?_
  refine Z.if_ltN B dX12_act_14 (tgt := 22) rfl (by omega) ?_
  refine Z.iload_n B dX12_act_17 (x := nI 2) rfl ?_
  refine Z.iconst B dX12_act_18 (v := nI 2) rfl ?_
  refine Z.icmp_leN B dX12_act_19 (tgt := 24) rfl (by omega) (by omega) (fun h19 => ?_) (fun h19 => by exfalso; first | omega | contradiction | simp_all)
  refine Z.iload_n B dX12_act_24 (x := nI 2) rfl ?_
  refine Z.if_neN B dX12_act_25 (tgt := 37) rfl (by omega) (fun h25 => ?_) (fun h25 => by exfalso; first | omega | contradiction | simp_all)
  refine Z.iload_n B dX12_act_37 (x := nI 2) rfl ?_
  refine Z.iconst B dX12_act_38 (v := nI 1) rfl ?_
  refine Z.icmp_neN B dX12_act_39 (tgt := 51) rfl (by omega) (by omega) (fun h39 => ?_) (fun h39 => by exfalso; first | omega | contradiction | simp_all)
  refine Z.aload_n B dX12_act_51 (v := .ref 45) rfl rfl ?_
  refine Z.iload_n B dX12_act_52 (x := nI i) rfl ?_
  refine Z.iload_n B dX12_act_53 (x := x) rfl ?_
  refine Z.callVI (σ := (zuX σ 45 (upd (zX σ 45) 31 (nI 0)))) B (M' := mX12_sums) (as := [.int (nI i), .int x]) (st := []) (v := .int (((x + nI i + nI pa) * nI 2) ^^^ ((x - nI pa) + nI i + nI pa))) dX12_act_54 wX12_sums iX12_sums sX12_sums kX12_239 (hl.n (k := 45) (by decide)) (hl.k (k := 45) (by decide)) (by decide) rfl rfl (t_X12_sums_1 (σ := (zuX σ 45 (upd (zX σ 45) 31 (nI 0)))) hl (w := i) (pa := pa) (r := 0) (x := x) hw rfl (by decide)) rfl rfl (by decide) (by decide) (Nat.le_of_ble_eq_true rfl) (by decide) (by decide) ?_
  refine Z.eqσ (τ := (zuX (zuX σ 45 (upd (zX σ 45) 31 (nI (0 + 6)))) 65 (upd (upd (upd (upd (upd (upd (zX σ 65) (0) (nI 12)) (0 + 1) (nI 11)) (0 + 2) (nI 20)) (0 + 3) (nI 10)) (0 + 4) (nI 20)) (0 + 5) (nI 10)))) (by rw [show zX (zuX σ 45 (upd (zX σ 45) 31 (nI 0))) 45 = upd (zX σ 45) 31 (nI 0) from rfl, upd_upd, zuX_sw (by decide)]; try rfl) ?_
  refine Z.iret B Rt dX12_act_57 (ty := .int) rfl rfl (by decide) (by decide) ?_
  exact ⟨rfl, rfl⟩

theorem t_K_act_feels_2 {σ : zSt} (hl : Lay σ) {n a y : Nat} (H : zHd σ n a y) {i q pa num : Nat} (hi : i < y) (hq : zR σ 24 i = some q) (hw : zWo σ q 2 pa num) {x : Int32} : Dt mX11_act [.ref 0, .int (nI i), .int (nI 0), .int x] σ (some (.int (x + nI num + nI pa))) (zuX (zuX σ 18 (upd (zX σ 18) 1 (nI (0 + 2)))) 19 (upd (upd (zX σ 19) (0) (nI 20)) (0 + 1) (nI 10))) := by
  refine Dt.of (by decide) (Nat.le_of_ble_eq_true rfl) fun κ B Rt => ?_
  show Z κ 0 0 σ 0 [(0, .ref 0), (1, .int (nI i)), (2, .int (nI 0)), (3, .int x)] []
  refine Z.aload_n B dX11_act_0 (v := .ref 0) rfl rfl ?_
  refine Z.getR (σ := σ) B fX11_19_11 dX11_act_1 (hl.n (k := 0) (by decide)) (hl.k (k := 0) (by decide)) (by decide) (j := 18) (hl.r (k := 0) (f := 1) (by decide) (by decide)) ?_
  refine Z.callVN (σ := σ) B (M' := mX8_begin) (as := []) (st := []) dX11_act_4 wX8_begin iX8_begin sX8_begin kX11_280 (hl.n (k := 18) (by decide)) (hl.k (k := 18) (by decide)) (by decide) rfl rfl (t_X8_begin (σ := σ) hl) rfl rfl (by decide) (by decide) (Nat.le_of_ble_eq_true rfl) (by decide) (by decide) ?_
  refine Z.eqσ (τ := (zuX σ 18 (upd (zX σ 18) 1 (nI 0)))) rfl ?_
  refine Z.aload_n B dX11_act_7 (v := .ref 0) rfl rfl ?_
  refine Z.getR (σ := (zuX σ 18 (upd (zX σ 18) 1 (nI 0)))) B fX11_28_11 dX11_act_8 (hl.n (k := 0) (by decide)) (hl.k (k := 0) (by decide)) (by decide) (j := 20) (hl.r (k := 0) (f := 2) (by decide) (by decide)) ?_
  refine Z.iload_n B dX11_act_11 (x := nI i) rfl ?_
  refine Z.callVI (σ := (zuX σ 18 (upd (zX σ 18) 1 (nI 0)))) B (M' := mX1_wayAt) (as := [.int (nI i)]) (st := []) (v := .ref q) dX11_act_12 wX1_wayAt iX1_wayAt sX1_wayAt kX11_102 (hl.n (k := 20) (by decide)) (hl.k (k := 20) (by decide)) (by decide) rfl rfl (t_X1_wayAt_in (σ := (zuX σ 18 (upd (zX σ 18) 1 (nI 0)))) H hi hq) rfl rfl (by decide) (by decide) (Nat.le_of_ble_eq_true rfl) (by decide) (by decide) ?_
  refine Z.astore B dX11_act_15 (by decide) rfl (L' := [(0, .ref 0), (1, .int (nI i)), (2, .int (nI 0)), (3, .int x), (4, .ref q)]) rfl ?_
  refine Z.aload B dX11_act_17 (v := .ref q) rfl rfl ?_
  refine Z.ifnonnull_r B dX11_act_19 (tgt := 24) rfl ?_
  refine Z.iload_n B dX11_act_24 (x := nI 0) rfl ?_
  refine Z.tabIn B dX11_act_25 (by decide) (by decide) (off := 27) (by decide) (tgt := 52) rfl ?_
  refine Z.aload B dX11_act_52 (v := .ref q) rfl rfl ?_
  refine Z.iload_n B dX11_act_54 (x := x) rfl ?_
  refine Z.callUI (σ := (zuX σ 18 (upd (zX σ 18) 1 (nI 0)))) B (M' := mX7_feels) (as := [.int x]) (st := []) (v := .int (x + nI num + nI pa)) dX11_act_55 wX7_feels iX7_feels (x := yX9_feels) (owner := "FourAskOne$Way") kX11_283 (zT_at 981 (by decide +kernel) rfl) iX9_feels wX9_feels.1 (by decide +kernel) hw.1 hw.2.1 (by decide) rfl (zT_at 991 (by decide +kernel) rfl) (t_C_X7_feels_2 (σ := (zuX σ 18 (upd (zX σ 18) 1 (nI 0)))) hl (q := q) (r := 0) (x := x) (hw.uX (by decide)) rfl (by decide)) rfl rfl (by decide) (by decide) (Nat.le_of_ble_eq_true rfl) (by decide) (by decide) ?_
  refine Z.eqσ (τ := (zuX (zuX σ 18 (upd (zX σ 18) 1 (nI (0 + 2)))) 19 (upd (upd (zX σ 19) (0) (nI 20)) (0 + 1) (nI 10)))) (by rw [show zX (zuX σ 18 (upd (zX σ 18) 1 (nI 0))) 18 = upd (zX σ 18) 1 (nI 0) from rfl, upd_upd, zuX_sw (by decide)]; try rfl) ?_
  refine Z.iret B Rt dX11_act_58 (ty := .int) rfl rfl (by decide) (by decide) ?_
  exact ⟨rfl, rfl⟩

theorem t_M_act_feels_2 {σ : zSt} (hl : Lay σ) {n a y : Nat} (H : zMd σ n a y) {i pa : Nat} (hi : i < y) (hw : zMy σ i 2 pa) {x : Int32} : Dt mX12_act [.ref 45, .int (nI i), .int (nI 0), .int x] σ (some (.int (x + nI i + nI pa))) (zuX (zuX σ 45 (upd (zX σ 45) 31 (nI (0 + 2)))) 65 (upd (upd (zX σ 65) (0) (nI 20)) (0 + 1) (nI 10))) := by
  refine Dt.of (by decide) (Nat.le_of_ble_eq_true rfl) fun κ B Rt => ?_
  show Z κ 0 0 σ 0 [(0, .ref 45), (1, .int (nI i)), (2, .int (nI 0)), (3, .int x)] []
  refine Z.aload_n B dX12_act_0 (v := .ref 45) rfl rfl ?_
  refine Z.iconst B dX12_act_1 (v := nI 0) rfl ?_
  refine Z.putI (σ := σ) B fX12_226_12 (ty := .int) ⟨_, _, _, rfl, rfl, by decide +kernel⟩ dX12_act_2 (hl.n (k := 45) (by decide)) (hl.k (k := 45) (by decide)) (by decide) rfl rfl (τ := (zuX σ 45 (upd (zX σ 45) 31 (nI 0)))) rfl ?_
  refine Z.aload_n B dX12_act_5 (v := .ref 45) rfl rfl ?_
  refine Z.iload_n B dX12_act_6 (x := nI i) rfl ?_
  refine Z.callVI (σ := (zuX σ 45 (upd (zX σ 45) 31 (nI 0)))) B (M' := mX12_isWay) (as := [.int (nI i)]) (st := []) (v := .int (nI 1)) dX12_act_7 wX12_isWay iX12_isWay sX12_isWay kX12_98 (hl.n (k := 45) (by decide)) (hl.k (k := 45) (by decide)) (by decide) rfl rfl (t_X12_isWay_in (σ := (zuX σ 45 (upd (zX σ 45) 31 (nI 0)))) H hi) rfl rfl (by decide) (by decide) (Nat.le_of_ble_eq_true rfl) (by decide) (by decide) ?_
  refine Z.if_eqN B dX12_act_10 (tgt := 22) rfl (by omega) (fun h10 => by exfalso; first | omega | contradiction | simp_all) (fun h10 => ?_)
  refine Z.iload_n B dX12_act_13 (x := nI 0) rfl ?_
  refine Z.if_ltN B dX12_act_14 (tgt := 22) rfl (by omega) ?_
  refine Z.iload_n B dX12_act_17 (x := nI 0) rfl ?_
  refine Z.iconst B dX12_act_18 (v := nI 2) rfl ?_
  refine Z.icmp_leN B dX12_act_19 (tgt := 24) rfl (by omega) (by omega) (fun h19 => ?_) (fun h19 => by exfalso; first | omega | contradiction | simp_all)
  refine Z.iload_n B dX12_act_24 (x := nI 0) rfl ?_
  refine Z.if_neN B dX12_act_25 (tgt := 37) rfl (by omega) (fun h25 => by exfalso; first | omega | contradiction | simp_all) (fun h25 => ?_)
  refine Z.aload_n B dX12_act_28 (v := .ref 45) rfl rfl ?_
  refine Z.iload_n B dX12_act_29 (x := nI i) rfl ?_
  refine Z.iload_n B dX12_act_30 (x := x) rfl ?_
  refine Z.callVI (σ := (zuX σ 45 (upd (zX σ 45) 31 (nI 0)))) B (M' := mX12_feels) (as := [.int (nI i), .int x]) (st := []) (v := .int (x + nI i + nI pa)) dX12_act_31 wX12_feels iX12_feels sX12_feels kX12_233 (hl.n (k := 45) (by decide)) (hl.k (k := 45) (by decide)) (by decide) rfl rfl (t_X12_feels_2 (σ := (zuX σ 45 (upd (zX σ 45) 31 (nI 0)))) hl (w := i) (pa := pa) (r := 0) (x := x) hw rfl (by decide)) rfl rfl (by decide) (by decide) (Nat.le_of_ble_eq_true rfl) (by decide) (by decide) ?_
  refine Z.eqσ (τ := (zuX (zuX σ 45 (upd (zX σ 45) 31 (nI (0 + 2)))) 65 (upd (upd (zX σ 65) (0) (nI 20)) (0 + 1) (nI 10)))) (by rw [show zX (zuX σ 45 (upd (zX σ 45) 31 (nI 0))) 45 = upd (zX σ 45) 31 (nI 0) from rfl, upd_upd, zuX_sw (by decide)]; try rfl) ?_
  refine Z.goto B dX12_act_34 (tgt := 57) rfl ?_
  refine Z.iret B Rt dX12_act_57 (ty := .int) rfl rfl (by decide) (by decide) ?_
  exact ⟨rfl, rfl⟩

theorem t_K_act_asks_2 {σ : zSt} (hl : Lay σ) {n a y : Nat} (H : zHd σ n a y) {i q pa num : Nat} (hi : i < y) (hq : zR σ 24 i = some q) (hw : zWo σ q 2 pa num) {x : Int32} : Dt mX11_act [.ref 0, .int (nI i), .int (nI 1), .int x] σ (some (.int (((x + nI num + nI pa) * nI 2) * nI 3))) (zuX (zuX σ 18 (upd (zX σ 18) 1 (nI (0 + 4)))) 19 (upd (upd (upd (upd (zX σ 19) (0) (nI 30)) (0 + 1) (nI 11)) (0 + 2) (nI 20)) (0 + 3) (nI 10))) := by
  refine Dt.of (by decide) (Nat.le_of_ble_eq_true rfl) fun κ B Rt => ?_
  show Z κ 0 0 σ 0 [(0, .ref 0), (1, .int (nI i)), (2, .int (nI 1)), (3, .int x)] []
  refine Z.aload_n B dX11_act_0 (v := .ref 0) rfl rfl ?_
  refine Z.getR (σ := σ) B fX11_19_11 dX11_act_1 (hl.n (k := 0) (by decide)) (hl.k (k := 0) (by decide)) (by decide) (j := 18) (hl.r (k := 0) (f := 1) (by decide) (by decide)) ?_
  refine Z.callVN (σ := σ) B (M' := mX8_begin) (as := []) (st := []) dX11_act_4 wX8_begin iX8_begin sX8_begin kX11_280 (hl.n (k := 18) (by decide)) (hl.k (k := 18) (by decide)) (by decide) rfl rfl (t_X8_begin (σ := σ) hl) rfl rfl (by decide) (by decide) (Nat.le_of_ble_eq_true rfl) (by decide) (by decide) ?_
  refine Z.eqσ (τ := (zuX σ 18 (upd (zX σ 18) 1 (nI 0)))) rfl ?_
  refine Z.aload_n B dX11_act_7 (v := .ref 0) rfl rfl ?_
  refine Z.getR (σ := (zuX σ 18 (upd (zX σ 18) 1 (nI 0)))) B fX11_28_11 dX11_act_8 (hl.n (k := 0) (by decide)) (hl.k (k := 0) (by decide)) (by decide) (j := 20) (hl.r (k := 0) (f := 2) (by decide) (by decide)) ?_
  refine Z.iload_n B dX11_act_11 (x := nI i) rfl ?_
  refine Z.callVI (σ := (zuX σ 18 (upd (zX σ 18) 1 (nI 0)))) B (M' := mX1_wayAt) (as := [.int (nI i)]) (st := []) (v := .ref q) dX11_act_12 wX1_wayAt iX1_wayAt sX1_wayAt kX11_102 (hl.n (k := 20) (by decide)) (hl.k (k := 20) (by decide)) (by decide) rfl rfl (t_X1_wayAt_in (σ := (zuX σ 18 (upd (zX σ 18) 1 (nI 0)))) H hi hq) rfl rfl (by decide) (by decide) (Nat.le_of_ble_eq_true rfl) (by decide) (by decide) ?_
  refine Z.astore B dX11_act_15 (by decide) rfl (L' := [(0, .ref 0), (1, .int (nI i)), (2, .int (nI 1)), (3, .int x), (4, .ref q)]) rfl ?_
  refine Z.aload B dX11_act_17 (v := .ref q) rfl rfl ?_
  refine Z.ifnonnull_r B dX11_act_19 (tgt := 24) rfl ?_
  refine Z.iload_n B dX11_act_24 (x := nI 1) rfl ?_
  refine Z.tabIn B dX11_act_25 (by decide) (by decide) (off := 34) (by decide) (tgt := 59) rfl ?_
  refine Z.aload B dX11_act_59 (v := .ref q) rfl rfl ?_
  refine Z.iload_n B dX11_act_61 (x := x) rfl ?_
  refine Z.callUI (σ := (zuX σ 18 (upd (zX σ 18) 1 (nI 0)))) B (M' := mX4_asks) (as := [.int x]) (st := []) (v := .int (((x + nI num + nI pa) * nI 2) * nI 3)) dX11_act_62 wX4_asks iX4_asks (x := yX9_asks) (owner := "FourAskOne$Way") kX11_286 (zT_at 1004 (by decide +kernel) rfl) iX9_asks wX9_asks.1 (by decide +kernel) hw.1 hw.2.1 (by decide) rfl (zT_at 1013 (by decide +kernel) rfl) (t_C_X4_asks_2 (σ := (zuX σ 18 (upd (zX σ 18) 1 (nI 0)))) hl (q := q) (r := 0) (x := x) (hw.uX (by decide)) rfl (by decide)) rfl rfl (by decide) (by decide) (Nat.le_of_ble_eq_true rfl) (by decide) (by decide) ?_
  refine Z.eqσ (τ := (zuX (zuX σ 18 (upd (zX σ 18) 1 (nI (0 + 4)))) 19 (upd (upd (upd (upd (zX σ 19) (0) (nI 30)) (0 + 1) (nI 11)) (0 + 2) (nI 20)) (0 + 3) (nI 10)))) (by rw [show zX (zuX σ 18 (upd (zX σ 18) 1 (nI 0))) 18 = upd (zX σ 18) 1 (nI 0) from rfl, upd_upd, zuX_sw (by decide)]; try rfl) ?_
  refine Z.iret B Rt dX11_act_65 (ty := .int) rfl rfl (by decide) (by decide) ?_
  exact ⟨rfl, rfl⟩

theorem t_M_act_asks_2 {σ : zSt} (hl : Lay σ) {n a y : Nat} (H : zMd σ n a y) {i pa : Nat} (hi : i < y) (hw : zMy σ i 2 pa) {x : Int32} : Dt mX12_act [.ref 45, .int (nI i), .int (nI 1), .int x] σ (some (.int (((x + nI i + nI pa) * nI 2) * nI 3))) (zuX (zuX σ 45 (upd (zX σ 45) 31 (nI (0 + 4)))) 65 (upd (upd (upd (upd (zX σ 65) (0) (nI 30)) (0 + 1) (nI 11)) (0 + 2) (nI 20)) (0 + 3) (nI 10))) := by
  refine Dt.of (by decide) (Nat.le_of_ble_eq_true rfl) fun κ B Rt => ?_
  show Z κ 0 0 σ 0 [(0, .ref 45), (1, .int (nI i)), (2, .int (nI 1)), (3, .int x)] []
  refine Z.aload_n B dX12_act_0 (v := .ref 45) rfl rfl ?_
  refine Z.iconst B dX12_act_1 (v := nI 0) rfl ?_
  refine Z.putI (σ := σ) B fX12_226_12 (ty := .int) ⟨_, _, _, rfl, rfl, by decide +kernel⟩ dX12_act_2 (hl.n (k := 45) (by decide)) (hl.k (k := 45) (by decide)) (by decide) rfl rfl (τ := (zuX σ 45 (upd (zX σ 45) 31 (nI 0)))) rfl ?_
  refine Z.aload_n B dX12_act_5 (v := .ref 45) rfl rfl ?_
  refine Z.iload_n B dX12_act_6 (x := nI i) rfl ?_
  refine Z.callVI (σ := (zuX σ 45 (upd (zX σ 45) 31 (nI 0)))) B (M' := mX12_isWay) (as := [.int (nI i)]) (st := []) (v := .int (nI 1)) dX12_act_7 wX12_isWay iX12_isWay sX12_isWay kX12_98 (hl.n (k := 45) (by decide)) (hl.k (k := 45) (by decide)) (by decide) rfl rfl (t_X12_isWay_in (σ := (zuX σ 45 (upd (zX σ 45) 31 (nI 0)))) H hi) rfl rfl (by decide) (by decide) (Nat.le_of_ble_eq_true rfl) (by decide) (by decide) ?_
  refine Z.if_eqN B dX12_act_10 (tgt := 22) rfl (by omega) (fun h10 => by exfalso; first | omega | contradiction | simp_all) (fun h10 => ?_)
  refine Z.iload_n B dX12_act_13 (x := nI 1) rfl ?_
  refine Z.if_ltN B dX12_act_14 (tgt := 22) rfl (by omega) ?_
  refine Z.iload_n B dX12_act_17 (x := nI 1) rfl ?_
  refine Z.iconst B dX12_act_18 (v := nI 2) rfl ?_
  refine Z.icmp_leN B dX12_act_19 (tgt := 24) rfl (by omega) (by omega) (fun h19 => ?_) (fun h19 => by exfalso; first | omega | contradiction | simp_all)
  refine Z.iload_n B dX12_act_24 (x := nI 1) rfl ?_
  refine Z.if_neN B dX12_act_25 (tgt := 37) rfl (by omega) (fun h25 => ?_) (fun h25 => by exfalso; first | omega | contradiction | simp_all)
  refine Z.iload_n B dX12_act_37 (x := nI 1) rfl ?_
  refine Z.iconst B dX12_act_38 (v := nI 1) rfl ?_
  refine Z.icmp_neN B dX12_act_39 (tgt := 51) rfl (by omega) (by omega) (fun h39 => by exfalso; first | omega | contradiction | simp_all) (fun h39 => ?_)
  refine Z.aload_n B dX12_act_42 (v := .ref 45) rfl rfl ?_
  refine Z.iload_n B dX12_act_43 (x := nI i) rfl ?_
  refine Z.iload_n B dX12_act_44 (x := x) rfl ?_
  refine Z.callVI (σ := (zuX σ 45 (upd (zX σ 45) 31 (nI 0)))) B (M' := mX12_asks) (as := [.int (nI i), .int x]) (st := []) (v := .int (((x + nI i + nI pa) * nI 2) * nI 3)) dX12_act_45 wX12_asks iX12_asks sX12_asks kX12_236 (hl.n (k := 45) (by decide)) (hl.k (k := 45) (by decide)) (by decide) rfl rfl (t_X12_asks_2 (σ := (zuX σ 45 (upd (zX σ 45) 31 (nI 0)))) hl (w := i) (pa := pa) (r := 0) (x := x) hw rfl (by decide)) rfl rfl (by decide) (by decide) (Nat.le_of_ble_eq_true rfl) (by decide) (by decide) ?_
  refine Z.eqσ (τ := (zuX (zuX σ 45 (upd (zX σ 45) 31 (nI (0 + 4)))) 65 (upd (upd (upd (upd (zX σ 65) (0) (nI 30)) (0 + 1) (nI 11)) (0 + 2) (nI 20)) (0 + 3) (nI 10)))) (by rw [show zX (zuX σ 45 (upd (zX σ 45) 31 (nI 0))) 45 = upd (zX σ 45) 31 (nI 0) from rfl, upd_upd, zuX_sw (by decide)]; try rfl) ?_
  refine Z.goto B dX12_act_48 (tgt := 57) rfl ?_
  refine Z.iret B Rt dX12_act_57 (ty := .int) rfl rfl (by decide) (by decide) ?_
  exact ⟨rfl, rfl⟩

theorem t_K_act_sums_2 {σ : zSt} (hl : Lay σ) {n a y : Nat} (H : zHd σ n a y) {i q pa num : Nat} (hi : i < y) (hq : zR σ 24 i = some q) (hw : zWo σ q 2 pa num) {x : Int32} : Dt mX11_act [.ref 0, .int (nI i), .int (nI 2), .int x] σ (some (.int ((((x + nI num + nI pa) * nI 2) * nI 3) ^^^ ((x - nI pa) + nI num + nI pa)))) (zuX (zuX σ 18 (upd (zX σ 18) 1 (nI (0 + 7)))) 19 (upd (upd (upd (upd (upd (upd (upd (zX σ 19) (0) (nI 12)) (0 + 1) (nI 30)) (0 + 2) (nI 11)) (0 + 3) (nI 20)) (0 + 4) (nI 10)) (0 + 5) (nI 20)) (0 + 6) (nI 10))) := by
  refine Dt.of (by decide) (Nat.le_of_ble_eq_true rfl) fun κ B Rt => ?_
  show Z κ 0 0 σ 0 [(0, .ref 0), (1, .int (nI i)), (2, .int (nI 2)), (3, .int x)] []
  refine Z.aload_n B dX11_act_0 (v := .ref 0) rfl rfl ?_
  refine Z.getR (σ := σ) B fX11_19_11 dX11_act_1 (hl.n (k := 0) (by decide)) (hl.k (k := 0) (by decide)) (by decide) (j := 18) (hl.r (k := 0) (f := 1) (by decide) (by decide)) ?_
  refine Z.callVN (σ := σ) B (M' := mX8_begin) (as := []) (st := []) dX11_act_4 wX8_begin iX8_begin sX8_begin kX11_280 (hl.n (k := 18) (by decide)) (hl.k (k := 18) (by decide)) (by decide) rfl rfl (t_X8_begin (σ := σ) hl) rfl rfl (by decide) (by decide) (Nat.le_of_ble_eq_true rfl) (by decide) (by decide) ?_
  refine Z.eqσ (τ := (zuX σ 18 (upd (zX σ 18) 1 (nI 0)))) rfl ?_
  refine Z.aload_n B dX11_act_7 (v := .ref 0) rfl rfl ?_
  refine Z.getR (σ := (zuX σ 18 (upd (zX σ 18) 1 (nI 0)))) B fX11_28_11 dX11_act_8 (hl.n (k := 0) (by decide)) (hl.k (k := 0) (by decide)) (by decide) (j := 20) (hl.r (k := 0) (f := 2) (by decide) (by decide)) ?_
  refine Z.iload_n B dX11_act_11 (x := nI i) rfl ?_
  refine Z.callVI (σ := (zuX σ 18 (upd (zX σ 18) 1 (nI 0)))) B (M' := mX1_wayAt) (as := [.int (nI i)]) (st := []) (v := .ref q) dX11_act_12 wX1_wayAt iX1_wayAt sX1_wayAt kX11_102 (hl.n (k := 20) (by decide)) (hl.k (k := 20) (by decide)) (by decide) rfl rfl (t_X1_wayAt_in (σ := (zuX σ 18 (upd (zX σ 18) 1 (nI 0)))) H hi hq) rfl rfl (by decide) (by decide) (Nat.le_of_ble_eq_true rfl) (by decide) (by decide) ?_
  refine Z.astore B dX11_act_15 (by decide) rfl (L' := [(0, .ref 0), (1, .int (nI i)), (2, .int (nI 2)), (3, .int x), (4, .ref q)]) rfl ?_
  refine Z.aload B dX11_act_17 (v := .ref q) rfl rfl ?_
  refine Z.ifnonnull_r B dX11_act_19 (tgt := 24) rfl ?_
  refine Z.iload_n B dX11_act_24 (x := nI 2) rfl ?_
  refine Z.tabIn B dX11_act_25 (by decide) (by decide) (off := 41) (by decide) (tgt := 66) rfl ?_
  refine Z.aload B dX11_act_66 (v := .ref q) rfl rfl ?_
  refine Z.iload_n B dX11_act_68 (x := x) rfl ?_
  refine Z.callUI (σ := (zuX σ 18 (upd (zX σ 18) 1 (nI 0)))) B (M' := mX9_sums) (as := [.int x]) (st := []) (v := .int ((((x + nI num + nI pa) * nI 2) * nI 3) ^^^ ((x - nI pa) + nI num + nI pa))) dX11_act_69 wX9_sums iX9_sums (x := yX9_sums) (owner := "FourAskOne$Way") kX11_289 (zT_at 1031 (by decide +kernel) rfl) iX9_sums wX9_sums.1 (by decide +kernel) hw.1 hw.2.1 (by decide) rfl (zT_at 1043 (by decide +kernel) rfl) (t_C_X9_sums_2 (σ := (zuX σ 18 (upd (zX σ 18) 1 (nI 0)))) hl (q := q) (r := 0) (x := x) (hw.uX (by decide)) rfl (by decide)) rfl rfl (by decide) (by decide) (Nat.le_of_ble_eq_true rfl) (by decide) (by decide) ?_
  refine Z.eqσ (τ := (zuX (zuX σ 18 (upd (zX σ 18) 1 (nI (0 + 7)))) 19 (upd (upd (upd (upd (upd (upd (upd (zX σ 19) (0) (nI 12)) (0 + 1) (nI 30)) (0 + 2) (nI 11)) (0 + 3) (nI 20)) (0 + 4) (nI 10)) (0 + 5) (nI 20)) (0 + 6) (nI 10)))) (by rw [show zX (zuX σ 18 (upd (zX σ 18) 1 (nI 0))) 18 = upd (zX σ 18) 1 (nI 0) from rfl, upd_upd, zuX_sw (by decide)]; try rfl) ?_
  refine Z.iret B Rt dX11_act_72 (ty := .int) rfl rfl (by decide) (by decide) ?_
  exact ⟨rfl, rfl⟩

theorem t_M_act_sums_2 {σ : zSt} (hl : Lay σ) {n a y : Nat} (H : zMd σ n a y) {i pa : Nat} (hi : i < y) (hw : zMy σ i 2 pa) {x : Int32} : Dt mX12_act [.ref 45, .int (nI i), .int (nI 2), .int x] σ (some (.int ((((x + nI i + nI pa) * nI 2) * nI 3) ^^^ ((x - nI pa) + nI i + nI pa)))) (zuX (zuX σ 45 (upd (zX σ 45) 31 (nI (0 + 7)))) 65 (upd (upd (upd (upd (upd (upd (upd (zX σ 65) (0) (nI 12)) (0 + 1) (nI 30)) (0 + 2) (nI 11)) (0 + 3) (nI 20)) (0 + 4) (nI 10)) (0 + 5) (nI 20)) (0 + 6) (nI 10))) := by
  refine Dt.of (by decide) (Nat.le_of_ble_eq_true rfl) fun κ B Rt => ?_
  show Z κ 0 0 σ 0 [(0, .ref 45), (1, .int (nI i)), (2, .int (nI 2)), (3, .int x)] []
  refine Z.aload_n B dX12_act_0 (v := .ref 45) rfl rfl ?_
  refine Z.iconst B dX12_act_1 (v := nI 0) rfl ?_
  refine Z.putI (σ := σ) B fX12_226_12 (ty := .int) ⟨_, _, _, rfl, rfl, by decide +kernel⟩ dX12_act_2 (hl.n (k := 45) (by decide)) (hl.k (k := 45) (by decide)) (by decide) rfl rfl (τ := (zuX σ 45 (upd (zX σ 45) 31 (nI 0)))) rfl ?_
  refine Z.aload_n B dX12_act_5 (v := .ref 45) rfl rfl ?_
  refine Z.iload_n B dX12_act_6 (x := nI i) rfl ?_
  refine Z.callVI (σ := (zuX σ 45 (upd (zX σ 45) 31 (nI 0)))) B (M' := mX12_isWay) (as := [.int (nI i)]) (st := []) (v := .int (nI 1)) dX12_act_7 wX12_isWay iX12_isWay sX12_isWay kX12_98 (hl.n (k := 45) (by decide)) (hl.k (k := 45) (by decide)) (by decide) rfl rfl (t_X12_isWay_in (σ := (zuX σ 45 (upd (zX σ 45) 31 (nI 0)))) H hi) rfl rfl (by decide) (by decide) (Nat.le_of_ble_eq_true rfl) (by decide) (by decide) ?_
  refine Z.if_eqN B dX12_act_10 (tgt := 22) rfl (by omega) (fun h10 => by exfalso; first | omega | contradiction | simp_all) (fun h10 => ?_)
  refine Z.iload_n B dX12_act_13 (x := nI 2) rfl ?_
  refine Z.if_ltN B dX12_act_14 (tgt := 22) rfl (by omega) ?_
  refine Z.iload_n B dX12_act_17 (x := nI 2) rfl ?_
  refine Z.iconst B dX12_act_18 (v := nI 2) rfl ?_
  refine Z.icmp_leN B dX12_act_19 (tgt := 24) rfl (by omega) (by omega) (fun h19 => ?_) (fun h19 => by exfalso; first | omega | contradiction | simp_all)
  refine Z.iload_n B dX12_act_24 (x := nI 2) rfl ?_
  refine Z.if_neN B dX12_act_25 (tgt := 37) rfl (by omega) (fun h25 => ?_) (fun h25 => by exfalso; first | omega | contradiction | simp_all)
  refine Z.iload_n B dX12_act_37 (x := nI 2) rfl ?_
  refine Z.iconst B dX12_act_38 (v := nI 1) rfl ?_
  refine Z.icmp_neN B dX12_act_39 (tgt := 51) rfl (by omega) (by omega) (fun h39 => ?_) (fun h39 => by exfalso; first | omega | contradiction | simp_all)
  refine Z.aload_n B dX12_act_51 (v := .ref 45) rfl rfl ?_
  refine Z.iload_n B dX12_act_52 (x := nI i) rfl ?_
  refine Z.iload_n B dX12_act_53 (x := x) rfl ?_
  refine Z.callVI (σ := (zuX σ 45 (upd (zX σ 45) 31 (nI 0)))) B (M' := mX12_sums) (as := [.int (nI i), .int x]) (st := []) (v := .int ((((x + nI i + nI pa) * nI 2) * nI 3) ^^^ ((x - nI pa) + nI i + nI pa))) dX12_act_54 wX12_sums iX12_sums sX12_sums kX12_239 (hl.n (k := 45) (by decide)) (hl.k (k := 45) (by decide)) (by decide) rfl rfl (t_X12_sums_2 (σ := (zuX σ 45 (upd (zX σ 45) 31 (nI 0)))) hl (w := i) (pa := pa) (r := 0) (x := x) hw rfl (by decide)) rfl rfl (by decide) (by decide) (Nat.le_of_ble_eq_true rfl) (by decide) (by decide) ?_
  refine Z.eqσ (τ := (zuX (zuX σ 45 (upd (zX σ 45) 31 (nI (0 + 7)))) 65 (upd (upd (upd (upd (upd (upd (upd (zX σ 65) (0) (nI 12)) (0 + 1) (nI 30)) (0 + 2) (nI 11)) (0 + 3) (nI 20)) (0 + 4) (nI 10)) (0 + 5) (nI 20)) (0 + 6) (nI 10)))) (by rw [show zX (zuX σ 45 (upd (zX σ 45) 31 (nI 0))) 45 = upd (zX σ 45) 31 (nI 0) from rfl, upd_upd, zuX_sw (by decide)]; try rfl) ?_
  refine Z.iret B Rt dX12_act_57 (ty := .int) rfl rfl (by decide) (by decide) ?_
  exact ⟨rfl, rfl⟩

theorem t_K_act_feels_3 {σ : zSt} (hl : Lay σ) {n a y : Nat} (H : zHd σ n a y) {i q pa num : Nat} (hi : i < y) (hq : zR σ 24 i = some q) (hw : zWo σ q 3 pa num) {x : Int32} : Dt mX11_act [.ref 0, .int (nI i), .int (nI 0), .int x] σ (some (.int (x + nI num))) (zuX (zuX σ 18 (upd (zX σ 18) 1 (nI (0 + 1)))) 19 (upd (zX σ 19) (0) (nI 10))) := by
  refine Dt.of (by decide) (Nat.le_of_ble_eq_true rfl) fun κ B Rt => ?_
  show Z κ 0 0 σ 0 [(0, .ref 0), (1, .int (nI i)), (2, .int (nI 0)), (3, .int x)] []
  refine Z.aload_n B dX11_act_0 (v := .ref 0) rfl rfl ?_
  refine Z.getR (σ := σ) B fX11_19_11 dX11_act_1 (hl.n (k := 0) (by decide)) (hl.k (k := 0) (by decide)) (by decide) (j := 18) (hl.r (k := 0) (f := 1) (by decide) (by decide)) ?_
  refine Z.callVN (σ := σ) B (M' := mX8_begin) (as := []) (st := []) dX11_act_4 wX8_begin iX8_begin sX8_begin kX11_280 (hl.n (k := 18) (by decide)) (hl.k (k := 18) (by decide)) (by decide) rfl rfl (t_X8_begin (σ := σ) hl) rfl rfl (by decide) (by decide) (Nat.le_of_ble_eq_true rfl) (by decide) (by decide) ?_
  refine Z.eqσ (τ := (zuX σ 18 (upd (zX σ 18) 1 (nI 0)))) rfl ?_
  refine Z.aload_n B dX11_act_7 (v := .ref 0) rfl rfl ?_
  refine Z.getR (σ := (zuX σ 18 (upd (zX σ 18) 1 (nI 0)))) B fX11_28_11 dX11_act_8 (hl.n (k := 0) (by decide)) (hl.k (k := 0) (by decide)) (by decide) (j := 20) (hl.r (k := 0) (f := 2) (by decide) (by decide)) ?_
  refine Z.iload_n B dX11_act_11 (x := nI i) rfl ?_
  refine Z.callVI (σ := (zuX σ 18 (upd (zX σ 18) 1 (nI 0)))) B (M' := mX1_wayAt) (as := [.int (nI i)]) (st := []) (v := .ref q) dX11_act_12 wX1_wayAt iX1_wayAt sX1_wayAt kX11_102 (hl.n (k := 20) (by decide)) (hl.k (k := 20) (by decide)) (by decide) rfl rfl (t_X1_wayAt_in (σ := (zuX σ 18 (upd (zX σ 18) 1 (nI 0)))) H hi hq) rfl rfl (by decide) (by decide) (Nat.le_of_ble_eq_true rfl) (by decide) (by decide) ?_
  refine Z.astore B dX11_act_15 (by decide) rfl (L' := [(0, .ref 0), (1, .int (nI i)), (2, .int (nI 0)), (3, .int x), (4, .ref q)]) rfl ?_
  refine Z.aload B dX11_act_17 (v := .ref q) rfl rfl ?_
  refine Z.ifnonnull_r B dX11_act_19 (tgt := 24) rfl ?_
  refine Z.iload_n B dX11_act_24 (x := nI 0) rfl ?_
  refine Z.tabIn B dX11_act_25 (by decide) (by decide) (off := 27) (by decide) (tgt := 52) rfl ?_
  refine Z.aload B dX11_act_52 (v := .ref q) rfl rfl ?_
  refine Z.iload_n B dX11_act_54 (x := x) rfl ?_
  refine Z.callUI (σ := (zuX σ 18 (upd (zX σ 18) 1 (nI 0)))) B (M' := mX9_feels) (as := [.int x]) (st := []) (v := .int (x + nI num)) dX11_act_55 wX9_feels iX9_feels (x := yX9_feels) (owner := "FourAskOne$Way") kX11_283 (zT_at 981 (by decide +kernel) rfl) iX9_feels wX9_feels.1 (by decide +kernel) hw.1 hw.2.1 (by decide) rfl (zT_at 998 (by decide +kernel) rfl) (t_C_X9_feels_3 (σ := (zuX σ 18 (upd (zX σ 18) 1 (nI 0)))) hl (q := q) (r := 0) (x := x) (hw.uX (by decide)) rfl (by decide)) rfl rfl (by decide) (by decide) (Nat.le_of_ble_eq_true rfl) (by decide) (by decide) ?_
  refine Z.eqσ (τ := (zuX (zuX σ 18 (upd (zX σ 18) 1 (nI (0 + 1)))) 19 (upd (zX σ 19) (0) (nI 10)))) (by rw [show zX (zuX σ 18 (upd (zX σ 18) 1 (nI 0))) 18 = upd (zX σ 18) 1 (nI 0) from rfl, upd_upd, zuX_sw (by decide)]; try rfl) ?_
  refine Z.iret B Rt dX11_act_58 (ty := .int) rfl rfl (by decide) (by decide) ?_
  exact ⟨rfl, rfl⟩

theorem t_M_act_feels_3 {σ : zSt} (hl : Lay σ) {n a y : Nat} (H : zMd σ n a y) {i pa : Nat} (hi : i < y) (hw : zMy σ i 3 pa) {x : Int32} : Dt mX12_act [.ref 45, .int (nI i), .int (nI 0), .int x] σ (some (.int (x + nI i))) (zuX (zuX σ 45 (upd (zX σ 45) 31 (nI (0 + 1)))) 65 (upd (zX σ 65) (0) (nI 10))) := by
  refine Dt.of (by decide) (Nat.le_of_ble_eq_true rfl) fun κ B Rt => ?_
  show Z κ 0 0 σ 0 [(0, .ref 45), (1, .int (nI i)), (2, .int (nI 0)), (3, .int x)] []
  refine Z.aload_n B dX12_act_0 (v := .ref 45) rfl rfl ?_
  refine Z.iconst B dX12_act_1 (v := nI 0) rfl ?_
  refine Z.putI (σ := σ) B fX12_226_12 (ty := .int) ⟨_, _, _, rfl, rfl, by decide +kernel⟩ dX12_act_2 (hl.n (k := 45) (by decide)) (hl.k (k := 45) (by decide)) (by decide) rfl rfl (τ := (zuX σ 45 (upd (zX σ 45) 31 (nI 0)))) rfl ?_
  refine Z.aload_n B dX12_act_5 (v := .ref 45) rfl rfl ?_
  refine Z.iload_n B dX12_act_6 (x := nI i) rfl ?_
  refine Z.callVI (σ := (zuX σ 45 (upd (zX σ 45) 31 (nI 0)))) B (M' := mX12_isWay) (as := [.int (nI i)]) (st := []) (v := .int (nI 1)) dX12_act_7 wX12_isWay iX12_isWay sX12_isWay kX12_98 (hl.n (k := 45) (by decide)) (hl.k (k := 45) (by decide)) (by decide) rfl rfl (t_X12_isWay_in (σ := (zuX σ 45 (upd (zX σ 45) 31 (nI 0)))) H hi) rfl rfl (by decide) (by decide) (Nat.le_of_ble_eq_true rfl) (by decide) (by decide) ?_
  refine Z.if_eqN B dX12_act_10 (tgt := 22) rfl (by omega) (fun h10 => by exfalso; first | omega | contradiction | simp_all) (fun h10 => ?_)
  refine Z.iload_n B dX12_act_13 (x := nI 0) rfl ?_
  refine Z.if_ltN B dX12_act_14 (tgt := 22) rfl (by omega) ?_
  refine Z.iload_n B dX12_act_17 (x := nI 0) rfl ?_
  refine Z.iconst B dX12_act_18 (v := nI 2) rfl ?_
  refine Z.icmp_leN B dX12_act_19 (tgt := 24) rfl (by omega) (by omega) (fun h19 => ?_) (fun h19 => by exfalso; first | omega | contradiction | simp_all)
  refine Z.iload_n B dX12_act_24 (x := nI 0) rfl ?_
  refine Z.if_neN B dX12_act_25 (tgt := 37) rfl (by omega) (fun h25 => by exfalso; first | omega | contradiction | simp_all) (fun h25 => ?_)
  refine Z.aload_n B dX12_act_28 (v := .ref 45) rfl rfl ?_
  refine Z.iload_n B dX12_act_29 (x := nI i) rfl ?_
  refine Z.iload_n B dX12_act_30 (x := x) rfl ?_
  refine Z.callVI (σ := (zuX σ 45 (upd (zX σ 45) 31 (nI 0)))) B (M' := mX12_feels) (as := [.int (nI i), .int x]) (st := []) (v := .int (x + nI i)) dX12_act_31 wX12_feels iX12_feels sX12_feels kX12_233 (hl.n (k := 45) (by decide)) (hl.k (k := 45) (by decide)) (by decide) rfl rfl (t_X12_feels_3 (σ := (zuX σ 45 (upd (zX σ 45) 31 (nI 0)))) hl (w := i) (pa := pa) (r := 0) (x := x) hw rfl (by decide)) rfl rfl (by decide) (by decide) (Nat.le_of_ble_eq_true rfl) (by decide) (by decide) ?_
  refine Z.eqσ (τ := (zuX (zuX σ 45 (upd (zX σ 45) 31 (nI (0 + 1)))) 65 (upd (zX σ 65) (0) (nI 10)))) (by rw [show zX (zuX σ 45 (upd (zX σ 45) 31 (nI 0))) 45 = upd (zX σ 45) 31 (nI 0) from rfl, upd_upd, zuX_sw (by decide)]; try rfl) ?_
  refine Z.goto B dX12_act_34 (tgt := 57) rfl ?_
  refine Z.iret B Rt dX12_act_57 (ty := .int) rfl rfl (by decide) (by decide) ?_
  exact ⟨rfl, rfl⟩

theorem t_K_act_asks_3 {σ : zSt} (hl : Lay σ) {n a y : Nat} (H : zHd σ n a y) {i q pa num : Nat} (hi : i < y) (hq : zR σ 24 i = some q) (hw : zWo σ q 3 pa num) {x : Int32} : Dt mX11_act [.ref 0, .int (nI i), .int (nI 1), .int x] σ (some (.int (((x + nI 1) + nI num) * nI 2))) (zuX (zuX σ 18 (upd (zX σ 18) 1 (nI (0 + 3)))) 19 (upd (upd (upd (zX σ 19) (0) (nI 40)) (0 + 1) (nI 11)) (0 + 2) (nI 10))) := by
  refine Dt.of (by decide) (Nat.le_of_ble_eq_true rfl) fun κ B Rt => ?_
  show Z κ 0 0 σ 0 [(0, .ref 0), (1, .int (nI i)), (2, .int (nI 1)), (3, .int x)] []
  refine Z.aload_n B dX11_act_0 (v := .ref 0) rfl rfl ?_
  refine Z.getR (σ := σ) B fX11_19_11 dX11_act_1 (hl.n (k := 0) (by decide)) (hl.k (k := 0) (by decide)) (by decide) (j := 18) (hl.r (k := 0) (f := 1) (by decide) (by decide)) ?_
  refine Z.callVN (σ := σ) B (M' := mX8_begin) (as := []) (st := []) dX11_act_4 wX8_begin iX8_begin sX8_begin kX11_280 (hl.n (k := 18) (by decide)) (hl.k (k := 18) (by decide)) (by decide) rfl rfl (t_X8_begin (σ := σ) hl) rfl rfl (by decide) (by decide) (Nat.le_of_ble_eq_true rfl) (by decide) (by decide) ?_
  refine Z.eqσ (τ := (zuX σ 18 (upd (zX σ 18) 1 (nI 0)))) rfl ?_
  refine Z.aload_n B dX11_act_7 (v := .ref 0) rfl rfl ?_
  refine Z.getR (σ := (zuX σ 18 (upd (zX σ 18) 1 (nI 0)))) B fX11_28_11 dX11_act_8 (hl.n (k := 0) (by decide)) (hl.k (k := 0) (by decide)) (by decide) (j := 20) (hl.r (k := 0) (f := 2) (by decide) (by decide)) ?_
  refine Z.iload_n B dX11_act_11 (x := nI i) rfl ?_
  refine Z.callVI (σ := (zuX σ 18 (upd (zX σ 18) 1 (nI 0)))) B (M' := mX1_wayAt) (as := [.int (nI i)]) (st := []) (v := .ref q) dX11_act_12 wX1_wayAt iX1_wayAt sX1_wayAt kX11_102 (hl.n (k := 20) (by decide)) (hl.k (k := 20) (by decide)) (by decide) rfl rfl (t_X1_wayAt_in (σ := (zuX σ 18 (upd (zX σ 18) 1 (nI 0)))) H hi hq) rfl rfl (by decide) (by decide) (Nat.le_of_ble_eq_true rfl) (by decide) (by decide) ?_
  refine Z.astore B dX11_act_15 (by decide) rfl (L' := [(0, .ref 0), (1, .int (nI i)), (2, .int (nI 1)), (3, .int x), (4, .ref q)]) rfl ?_
  refine Z.aload B dX11_act_17 (v := .ref q) rfl rfl ?_
  refine Z.ifnonnull_r B dX11_act_19 (tgt := 24) rfl ?_
  refine Z.iload_n B dX11_act_24 (x := nI 1) rfl ?_
  refine Z.tabIn B dX11_act_25 (by decide) (by decide) (off := 34) (by decide) (tgt := 59) rfl ?_
  refine Z.aload B dX11_act_59 (v := .ref q) rfl rfl ?_
  refine Z.iload_n B dX11_act_61 (x := x) rfl ?_
  refine Z.callUI (σ := (zuX σ 18 (upd (zX σ 18) 1 (nI 0)))) B (M' := mX10_asks) (as := [.int x]) (st := []) (v := .int (((x + nI 1) + nI num) * nI 2)) dX11_act_62 wX10_asks iX10_asks (x := yX9_asks) (owner := "FourAskOne$Way") kX11_286 (zT_at 1004 (by decide +kernel) rfl) iX9_asks wX9_asks.1 (by decide +kernel) hw.1 hw.2.1 (by decide) rfl (zT_at 1021 (by decide +kernel) rfl) (t_C_X10_asks_3 (σ := (zuX σ 18 (upd (zX σ 18) 1 (nI 0)))) hl (q := q) (r := 0) (x := x) (hw.uX (by decide)) rfl (by decide)) rfl rfl (by decide) (by decide) (Nat.le_of_ble_eq_true rfl) (by decide) (by decide) ?_
  refine Z.eqσ (τ := (zuX (zuX σ 18 (upd (zX σ 18) 1 (nI (0 + 3)))) 19 (upd (upd (upd (zX σ 19) (0) (nI 40)) (0 + 1) (nI 11)) (0 + 2) (nI 10)))) (by rw [show zX (zuX σ 18 (upd (zX σ 18) 1 (nI 0))) 18 = upd (zX σ 18) 1 (nI 0) from rfl, upd_upd, zuX_sw (by decide)]; try rfl) ?_
  refine Z.iret B Rt dX11_act_65 (ty := .int) rfl rfl (by decide) (by decide) ?_
  exact ⟨rfl, rfl⟩

theorem t_M_act_asks_3 {σ : zSt} (hl : Lay σ) {n a y : Nat} (H : zMd σ n a y) {i pa : Nat} (hi : i < y) (hw : zMy σ i 3 pa) {x : Int32} : Dt mX12_act [.ref 45, .int (nI i), .int (nI 1), .int x] σ (some (.int (((x + nI 1) + nI i) * nI 2))) (zuX (zuX σ 45 (upd (zX σ 45) 31 (nI (0 + 3)))) 65 (upd (upd (upd (zX σ 65) (0) (nI 40)) (0 + 1) (nI 11)) (0 + 2) (nI 10))) := by
  refine Dt.of (by decide) (Nat.le_of_ble_eq_true rfl) fun κ B Rt => ?_
  show Z κ 0 0 σ 0 [(0, .ref 45), (1, .int (nI i)), (2, .int (nI 1)), (3, .int x)] []
  refine Z.aload_n B dX12_act_0 (v := .ref 45) rfl rfl ?_
  refine Z.iconst B dX12_act_1 (v := nI 0) rfl ?_
  refine Z.putI (σ := σ) B fX12_226_12 (ty := .int) ⟨_, _, _, rfl, rfl, by decide +kernel⟩ dX12_act_2 (hl.n (k := 45) (by decide)) (hl.k (k := 45) (by decide)) (by decide) rfl rfl (τ := (zuX σ 45 (upd (zX σ 45) 31 (nI 0)))) rfl ?_
  refine Z.aload_n B dX12_act_5 (v := .ref 45) rfl rfl ?_
  refine Z.iload_n B dX12_act_6 (x := nI i) rfl ?_
  refine Z.callVI (σ := (zuX σ 45 (upd (zX σ 45) 31 (nI 0)))) B (M' := mX12_isWay) (as := [.int (nI i)]) (st := []) (v := .int (nI 1)) dX12_act_7 wX12_isWay iX12_isWay sX12_isWay kX12_98 (hl.n (k := 45) (by decide)) (hl.k (k := 45) (by decide)) (by decide) rfl rfl (t_X12_isWay_in (σ := (zuX σ 45 (upd (zX σ 45) 31 (nI 0)))) H hi) rfl rfl (by decide) (by decide) (Nat.le_of_ble_eq_true rfl) (by decide) (by decide) ?_
  refine Z.if_eqN B dX12_act_10 (tgt := 22) rfl (by omega) (fun h10 => by exfalso; first | omega | contradiction | simp_all) (fun h10 => ?_)
  refine Z.iload_n B dX12_act_13 (x := nI 1) rfl ?_
  refine Z.if_ltN B dX12_act_14 (tgt := 22) rfl (by omega) ?_
  refine Z.iload_n B dX12_act_17 (x := nI 1) rfl ?_
  refine Z.iconst B dX12_act_18 (v := nI 2) rfl ?_
  refine Z.icmp_leN B dX12_act_19 (tgt := 24) rfl (by omega) (by omega) (fun h19 => ?_) (fun h19 => by exfalso; first | omega | contradiction | simp_all)
  refine Z.iload_n B dX12_act_24 (x := nI 1) rfl ?_
  refine Z.if_neN B dX12_act_25 (tgt := 37) rfl (by omega) (fun h25 => ?_) (fun h25 => by exfalso; first | omega | contradiction | simp_all)
  refine Z.iload_n B dX12_act_37 (x := nI 1) rfl ?_
  refine Z.iconst B dX12_act_38 (v := nI 1) rfl ?_
  refine Z.icmp_neN B dX12_act_39 (tgt := 51) rfl (by omega) (by omega) (fun h39 => by exfalso; first | omega | contradiction | simp_all) (fun h39 => ?_)
  refine Z.aload_n B dX12_act_42 (v := .ref 45) rfl rfl ?_
  refine Z.iload_n B dX12_act_43 (x := nI i) rfl ?_
  refine Z.iload_n B dX12_act_44 (x := x) rfl ?_
  refine Z.callVI (σ := (zuX σ 45 (upd (zX σ 45) 31 (nI 0)))) B (M' := mX12_asks) (as := [.int (nI i), .int x]) (st := []) (v := .int (((x + nI 1) + nI i) * nI 2)) dX12_act_45 wX12_asks iX12_asks sX12_asks kX12_236 (hl.n (k := 45) (by decide)) (hl.k (k := 45) (by decide)) (by decide) rfl rfl (t_X12_asks_3 (σ := (zuX σ 45 (upd (zX σ 45) 31 (nI 0)))) hl (w := i) (pa := pa) (r := 0) (x := x) hw rfl (by decide)) rfl rfl (by decide) (by decide) (Nat.le_of_ble_eq_true rfl) (by decide) (by decide) ?_
  refine Z.eqσ (τ := (zuX (zuX σ 45 (upd (zX σ 45) 31 (nI (0 + 3)))) 65 (upd (upd (upd (zX σ 65) (0) (nI 40)) (0 + 1) (nI 11)) (0 + 2) (nI 10)))) (by rw [show zX (zuX σ 45 (upd (zX σ 45) 31 (nI 0))) 45 = upd (zX σ 45) 31 (nI 0) from rfl, upd_upd, zuX_sw (by decide)]; try rfl) ?_
  refine Z.goto B dX12_act_48 (tgt := 57) rfl ?_
  refine Z.iret B Rt dX12_act_57 (ty := .int) rfl rfl (by decide) (by decide) ?_
  exact ⟨rfl, rfl⟩

theorem t_K_act_sums_3 {σ : zSt} (hl : Lay σ) {n a y : Nat} (H : zHd σ n a y) {i q pa num : Nat} (hi : i < y) (hq : zR σ 24 i = some q) (hw : zWo σ q 3 pa num) {x : Int32} : Dt mX11_act [.ref 0, .int (nI i), .int (nI 2), .int x] σ (some (.int (((((x + nI 1) + nI num) * nI 2) ^^^ ((x - nI pa) + nI num)) - nI num))) (zuX (zuX σ 18 (upd (zX σ 18) 1 (nI (0 + 6)))) 19 (upd (upd (upd (upd (upd (upd (zX σ 19) (0) (nI 41)) (0 + 1) (nI 12)) (0 + 2) (nI 40)) (0 + 3) (nI 11)) (0 + 4) (nI 10)) (0 + 5) (nI 10))) := by
  refine Dt.of (by decide) (Nat.le_of_ble_eq_true rfl) fun κ B Rt => ?_
  show Z κ 0 0 σ 0 [(0, .ref 0), (1, .int (nI i)), (2, .int (nI 2)), (3, .int x)] []
  refine Z.aload_n B dX11_act_0 (v := .ref 0) rfl rfl ?_
  refine Z.getR (σ := σ) B fX11_19_11 dX11_act_1 (hl.n (k := 0) (by decide)) (hl.k (k := 0) (by decide)) (by decide) (j := 18) (hl.r (k := 0) (f := 1) (by decide) (by decide)) ?_
  refine Z.callVN (σ := σ) B (M' := mX8_begin) (as := []) (st := []) dX11_act_4 wX8_begin iX8_begin sX8_begin kX11_280 (hl.n (k := 18) (by decide)) (hl.k (k := 18) (by decide)) (by decide) rfl rfl (t_X8_begin (σ := σ) hl) rfl rfl (by decide) (by decide) (Nat.le_of_ble_eq_true rfl) (by decide) (by decide) ?_
  refine Z.eqσ (τ := (zuX σ 18 (upd (zX σ 18) 1 (nI 0)))) rfl ?_
  refine Z.aload_n B dX11_act_7 (v := .ref 0) rfl rfl ?_
  refine Z.getR (σ := (zuX σ 18 (upd (zX σ 18) 1 (nI 0)))) B fX11_28_11 dX11_act_8 (hl.n (k := 0) (by decide)) (hl.k (k := 0) (by decide)) (by decide) (j := 20) (hl.r (k := 0) (f := 2) (by decide) (by decide)) ?_
  refine Z.iload_n B dX11_act_11 (x := nI i) rfl ?_
  refine Z.callVI (σ := (zuX σ 18 (upd (zX σ 18) 1 (nI 0)))) B (M' := mX1_wayAt) (as := [.int (nI i)]) (st := []) (v := .ref q) dX11_act_12 wX1_wayAt iX1_wayAt sX1_wayAt kX11_102 (hl.n (k := 20) (by decide)) (hl.k (k := 20) (by decide)) (by decide) rfl rfl (t_X1_wayAt_in (σ := (zuX σ 18 (upd (zX σ 18) 1 (nI 0)))) H hi hq) rfl rfl (by decide) (by decide) (Nat.le_of_ble_eq_true rfl) (by decide) (by decide) ?_
  refine Z.astore B dX11_act_15 (by decide) rfl (L' := [(0, .ref 0), (1, .int (nI i)), (2, .int (nI 2)), (3, .int x), (4, .ref q)]) rfl ?_
  refine Z.aload B dX11_act_17 (v := .ref q) rfl rfl ?_
  refine Z.ifnonnull_r B dX11_act_19 (tgt := 24) rfl ?_
  refine Z.iload_n B dX11_act_24 (x := nI 2) rfl ?_
  refine Z.tabIn B dX11_act_25 (by decide) (by decide) (off := 41) (by decide) (tgt := 66) rfl ?_
  refine Z.aload B dX11_act_66 (v := .ref q) rfl rfl ?_
  refine Z.iload_n B dX11_act_68 (x := x) rfl ?_
  refine Z.callUI (σ := (zuX σ 18 (upd (zX σ 18) 1 (nI 0)))) B (M' := mX10_sums) (as := [.int x]) (st := []) (v := .int (((((x + nI 1) + nI num) * nI 2) ^^^ ((x - nI pa) + nI num)) - nI num)) dX11_act_69 wX10_sums iX10_sums (x := yX9_sums) (owner := "FourAskOne$Way") kX11_289 (zT_at 1031 (by decide +kernel) rfl) iX9_sums wX9_sums.1 (by decide +kernel) hw.1 hw.2.1 (by decide) rfl (zT_at 1046 (by decide +kernel) rfl) (t_C_X10_sums_3 (σ := (zuX σ 18 (upd (zX σ 18) 1 (nI 0)))) hl (q := q) (r := 0) (x := x) (hw.uX (by decide)) rfl (by decide)) rfl rfl (by decide) (by decide) (Nat.le_of_ble_eq_true rfl) (by decide) (by decide) ?_
  refine Z.eqσ (τ := (zuX (zuX σ 18 (upd (zX σ 18) 1 (nI (0 + 6)))) 19 (upd (upd (upd (upd (upd (upd (zX σ 19) (0) (nI 41)) (0 + 1) (nI 12)) (0 + 2) (nI 40)) (0 + 3) (nI 11)) (0 + 4) (nI 10)) (0 + 5) (nI 10)))) (by rw [show zX (zuX σ 18 (upd (zX σ 18) 1 (nI 0))) 18 = upd (zX σ 18) 1 (nI 0) from rfl, upd_upd, zuX_sw (by decide)]; try rfl) ?_
  refine Z.iret B Rt dX11_act_72 (ty := .int) rfl rfl (by decide) (by decide) ?_
  exact ⟨rfl, rfl⟩

theorem t_M_act_sums_3 {σ : zSt} (hl : Lay σ) {n a y : Nat} (H : zMd σ n a y) {i pa : Nat} (hi : i < y) (hw : zMy σ i 3 pa) {x : Int32} : Dt mX12_act [.ref 45, .int (nI i), .int (nI 2), .int x] σ (some (.int (((((x + nI 1) + nI i) * nI 2) ^^^ ((x - nI pa) + nI i)) - nI i))) (zuX (zuX σ 45 (upd (zX σ 45) 31 (nI (0 + 6)))) 65 (upd (upd (upd (upd (upd (upd (zX σ 65) (0) (nI 41)) (0 + 1) (nI 12)) (0 + 2) (nI 40)) (0 + 3) (nI 11)) (0 + 4) (nI 10)) (0 + 5) (nI 10))) := by
  refine Dt.of (by decide) (Nat.le_of_ble_eq_true rfl) fun κ B Rt => ?_
  show Z κ 0 0 σ 0 [(0, .ref 45), (1, .int (nI i)), (2, .int (nI 2)), (3, .int x)] []
  refine Z.aload_n B dX12_act_0 (v := .ref 45) rfl rfl ?_
  refine Z.iconst B dX12_act_1 (v := nI 0) rfl ?_
  refine Z.putI (σ := σ) B fX12_226_12 (ty := .int) ⟨_, _, _, rfl, rfl, by decide +kernel⟩ dX12_act_2 (hl.n (k := 45) (by decide)) (hl.k (k := 45) (by decide)) (by decide) rfl rfl (τ := (zuX σ 45 (upd (zX σ 45) 31 (nI 0)))) rfl ?_
  refine Z.aload_n B dX12_act_5 (v := .ref 45) rfl rfl ?_
  refine Z.iload_n B dX12_act_6 (x := nI i) rfl ?_
  refine Z.callVI (σ := (zuX σ 45 (upd (zX σ 45) 31 (nI 0)))) B (M' := mX12_isWay) (as := [.int (nI i)]) (st := []) (v := .int (nI 1)) dX12_act_7 wX12_isWay iX12_isWay sX12_isWay kX12_98 (hl.n (k := 45) (by decide)) (hl.k (k := 45) (by decide)) (by decide) rfl rfl (t_X12_isWay_in (σ := (zuX σ 45 (upd (zX σ 45) 31 (nI 0)))) H hi) rfl rfl (by decide) (by decide) (Nat.le_of_ble_eq_true rfl) (by decide) (by decide) ?_
  refine Z.if_eqN B dX12_act_10 (tgt := 22) rfl (by omega) (fun h10 => by exfalso; first | omega | contradiction | simp_all) (fun h10 => ?_)
  refine Z.iload_n B dX12_act_13 (x := nI 2) rfl ?_
  refine Z.if_ltN B dX12_act_14 (tgt := 22) rfl (by omega) ?_
  refine Z.iload_n B dX12_act_17 (x := nI 2) rfl ?_
  refine Z.iconst B dX12_act_18 (v := nI 2) rfl ?_
  refine Z.icmp_leN B dX12_act_19 (tgt := 24) rfl (by omega) (by omega) (fun h19 => ?_) (fun h19 => by exfalso; first | omega | contradiction | simp_all)
  refine Z.iload_n B dX12_act_24 (x := nI 2) rfl ?_
  refine Z.if_neN B dX12_act_25 (tgt := 37) rfl (by omega) (fun h25 => ?_) (fun h25 => by exfalso; first | omega | contradiction | simp_all)
  refine Z.iload_n B dX12_act_37 (x := nI 2) rfl ?_
  refine Z.iconst B dX12_act_38 (v := nI 1) rfl ?_
  refine Z.icmp_neN B dX12_act_39 (tgt := 51) rfl (by omega) (by omega) (fun h39 => ?_) (fun h39 => by exfalso; first | omega | contradiction | simp_all)
  refine Z.aload_n B dX12_act_51 (v := .ref 45) rfl rfl ?_
  refine Z.iload_n B dX12_act_52 (x := nI i) rfl ?_
  refine Z.iload_n B dX12_act_53 (x := x) rfl ?_
  refine Z.callVI (σ := (zuX σ 45 (upd (zX σ 45) 31 (nI 0)))) B (M' := mX12_sums) (as := [.int (nI i), .int x]) (st := []) (v := .int (((((x + nI 1) + nI i) * nI 2) ^^^ ((x - nI pa) + nI i)) - nI i)) dX12_act_54 wX12_sums iX12_sums sX12_sums kX12_239 (hl.n (k := 45) (by decide)) (hl.k (k := 45) (by decide)) (by decide) rfl rfl (t_X12_sums_3 (σ := (zuX σ 45 (upd (zX σ 45) 31 (nI 0)))) hl (w := i) (pa := pa) (r := 0) (x := x) hw rfl (by decide)) rfl rfl (by decide) (by decide) (Nat.le_of_ble_eq_true rfl) (by decide) (by decide) ?_
  refine Z.eqσ (τ := (zuX (zuX σ 45 (upd (zX σ 45) 31 (nI (0 + 6)))) 65 (upd (upd (upd (upd (upd (upd (zX σ 65) (0) (nI 41)) (0 + 1) (nI 12)) (0 + 2) (nI 40)) (0 + 3) (nI 11)) (0 + 4) (nI 10)) (0 + 5) (nI 10)))) (by rw [show zX (zuX σ 45 (upd (zX σ 45) 31 (nI 0))) 45 = upd (zX σ 45) 31 (nI 0) from rfl, upd_upd, zuX_sw (by decide)]; try rfl) ?_
  refine Z.iret B Rt dX12_act_57 (ty := .int) rfl rfl (by decide) (by decide) ?_
  exact ⟨rfl, rfl⟩

theorem t_K_act_feels_4 {σ : zSt} (hl : Lay σ) {n a y : Nat} (H : zHd σ n a y) {i q pa num : Nat} (hi : i < y) (hq : zR σ 24 i = some q) (hw : zWo σ q 4 pa num) {x : Int32} : Dt mX11_act [.ref 0, .int (nI i), .int (nI 0), .int x] σ (some (.int (x + nI num))) (zuX (zuX σ 18 (upd (zX σ 18) 1 (nI (0 + 1)))) 19 (upd (zX σ 19) (0) (nI 10))) := by
  refine Dt.of (by decide) (Nat.le_of_ble_eq_true rfl) fun κ B Rt => ?_
  show Z κ 0 0 σ 0 [(0, .ref 0), (1, .int (nI i)), (2, .int (nI 0)), (3, .int x)] []
  refine Z.aload_n B dX11_act_0 (v := .ref 0) rfl rfl ?_
  refine Z.getR (σ := σ) B fX11_19_11 dX11_act_1 (hl.n (k := 0) (by decide)) (hl.k (k := 0) (by decide)) (by decide) (j := 18) (hl.r (k := 0) (f := 1) (by decide) (by decide)) ?_
  refine Z.callVN (σ := σ) B (M' := mX8_begin) (as := []) (st := []) dX11_act_4 wX8_begin iX8_begin sX8_begin kX11_280 (hl.n (k := 18) (by decide)) (hl.k (k := 18) (by decide)) (by decide) rfl rfl (t_X8_begin (σ := σ) hl) rfl rfl (by decide) (by decide) (Nat.le_of_ble_eq_true rfl) (by decide) (by decide) ?_
  refine Z.eqσ (τ := (zuX σ 18 (upd (zX σ 18) 1 (nI 0)))) rfl ?_
  refine Z.aload_n B dX11_act_7 (v := .ref 0) rfl rfl ?_
  refine Z.getR (σ := (zuX σ 18 (upd (zX σ 18) 1 (nI 0)))) B fX11_28_11 dX11_act_8 (hl.n (k := 0) (by decide)) (hl.k (k := 0) (by decide)) (by decide) (j := 20) (hl.r (k := 0) (f := 2) (by decide) (by decide)) ?_
  refine Z.iload_n B dX11_act_11 (x := nI i) rfl ?_
  refine Z.callVI (σ := (zuX σ 18 (upd (zX σ 18) 1 (nI 0)))) B (M' := mX1_wayAt) (as := [.int (nI i)]) (st := []) (v := .ref q) dX11_act_12 wX1_wayAt iX1_wayAt sX1_wayAt kX11_102 (hl.n (k := 20) (by decide)) (hl.k (k := 20) (by decide)) (by decide) rfl rfl (t_X1_wayAt_in (σ := (zuX σ 18 (upd (zX σ 18) 1 (nI 0)))) H hi hq) rfl rfl (by decide) (by decide) (Nat.le_of_ble_eq_true rfl) (by decide) (by decide) ?_
  refine Z.astore B dX11_act_15 (by decide) rfl (L' := [(0, .ref 0), (1, .int (nI i)), (2, .int (nI 0)), (3, .int x), (4, .ref q)]) rfl ?_
  refine Z.aload B dX11_act_17 (v := .ref q) rfl rfl ?_
  refine Z.ifnonnull_r B dX11_act_19 (tgt := 24) rfl ?_
  refine Z.iload_n B dX11_act_24 (x := nI 0) rfl ?_
  refine Z.tabIn B dX11_act_25 (by decide) (by decide) (off := 27) (by decide) (tgt := 52) rfl ?_
  refine Z.aload B dX11_act_52 (v := .ref q) rfl rfl ?_
  refine Z.iload_n B dX11_act_54 (x := x) rfl ?_
  refine Z.callUI (σ := (zuX σ 18 (upd (zX σ 18) 1 (nI 0)))) B (M' := mX9_feels) (as := [.int x]) (st := []) (v := .int (x + nI num)) dX11_act_55 wX9_feels iX9_feels (x := yX9_feels) (owner := "FourAskOne$Way") kX11_283 (zT_at 981 (by decide +kernel) rfl) iX9_feels wX9_feels.1 (by decide +kernel) hw.1 hw.2.1 (by decide) rfl (zT_at 990 (by decide +kernel) rfl) (t_C_X9_feels_4 (σ := (zuX σ 18 (upd (zX σ 18) 1 (nI 0)))) hl (q := q) (r := 0) (x := x) (hw.uX (by decide)) rfl (by decide)) rfl rfl (by decide) (by decide) (Nat.le_of_ble_eq_true rfl) (by decide) (by decide) ?_
  refine Z.eqσ (τ := (zuX (zuX σ 18 (upd (zX σ 18) 1 (nI (0 + 1)))) 19 (upd (zX σ 19) (0) (nI 10)))) (by rw [show zX (zuX σ 18 (upd (zX σ 18) 1 (nI 0))) 18 = upd (zX σ 18) 1 (nI 0) from rfl, upd_upd, zuX_sw (by decide)]; try rfl) ?_
  refine Z.iret B Rt dX11_act_58 (ty := .int) rfl rfl (by decide) (by decide) ?_
  exact ⟨rfl, rfl⟩

theorem t_M_act_feels_4 {σ : zSt} (hl : Lay σ) {n a y : Nat} (H : zMd σ n a y) {i pa : Nat} (hi : i < y) (hw : zMy σ i 4 pa) {x : Int32} : Dt mX12_act [.ref 45, .int (nI i), .int (nI 0), .int x] σ (some (.int (x + nI i))) (zuX (zuX σ 45 (upd (zX σ 45) 31 (nI (0 + 1)))) 65 (upd (zX σ 65) (0) (nI 10))) := by
  refine Dt.of (by decide) (Nat.le_of_ble_eq_true rfl) fun κ B Rt => ?_
  show Z κ 0 0 σ 0 [(0, .ref 45), (1, .int (nI i)), (2, .int (nI 0)), (3, .int x)] []
  refine Z.aload_n B dX12_act_0 (v := .ref 45) rfl rfl ?_
  refine Z.iconst B dX12_act_1 (v := nI 0) rfl ?_
  refine Z.putI (σ := σ) B fX12_226_12 (ty := .int) ⟨_, _, _, rfl, rfl, by decide +kernel⟩ dX12_act_2 (hl.n (k := 45) (by decide)) (hl.k (k := 45) (by decide)) (by decide) rfl rfl (τ := (zuX σ 45 (upd (zX σ 45) 31 (nI 0)))) rfl ?_
  refine Z.aload_n B dX12_act_5 (v := .ref 45) rfl rfl ?_
  refine Z.iload_n B dX12_act_6 (x := nI i) rfl ?_
  refine Z.callVI (σ := (zuX σ 45 (upd (zX σ 45) 31 (nI 0)))) B (M' := mX12_isWay) (as := [.int (nI i)]) (st := []) (v := .int (nI 1)) dX12_act_7 wX12_isWay iX12_isWay sX12_isWay kX12_98 (hl.n (k := 45) (by decide)) (hl.k (k := 45) (by decide)) (by decide) rfl rfl (t_X12_isWay_in (σ := (zuX σ 45 (upd (zX σ 45) 31 (nI 0)))) H hi) rfl rfl (by decide) (by decide) (Nat.le_of_ble_eq_true rfl) (by decide) (by decide) ?_
  refine Z.if_eqN B dX12_act_10 (tgt := 22) rfl (by omega) (fun h10 => by exfalso; first | omega | contradiction | simp_all) (fun h10 => ?_)
  refine Z.iload_n B dX12_act_13 (x := nI 0) rfl ?_
  refine Z.if_ltN B dX12_act_14 (tgt := 22) rfl (by omega) ?_
  refine Z.iload_n B dX12_act_17 (x := nI 0) rfl ?_
  refine Z.iconst B dX12_act_18 (v := nI 2) rfl ?_
  refine Z.icmp_leN B dX12_act_19 (tgt := 24) rfl (by omega) (by omega) (fun h19 => ?_) (fun h19 => by exfalso; first | omega | contradiction | simp_all)
  refine Z.iload_n B dX12_act_24 (x := nI 0) rfl ?_
  refine Z.if_neN B dX12_act_25 (tgt := 37) rfl (by omega) (fun h25 => by exfalso; first | omega | contradiction | simp_all) (fun h25 => ?_)
  refine Z.aload_n B dX12_act_28 (v := .ref 45) rfl rfl ?_
  refine Z.iload_n B dX12_act_29 (x := nI i) rfl ?_
  refine Z.iload_n B dX12_act_30 (x := x) rfl ?_
  refine Z.callVI (σ := (zuX σ 45 (upd (zX σ 45) 31 (nI 0)))) B (M' := mX12_feels) (as := [.int (nI i), .int x]) (st := []) (v := .int (x + nI i)) dX12_act_31 wX12_feels iX12_feels sX12_feels kX12_233 (hl.n (k := 45) (by decide)) (hl.k (k := 45) (by decide)) (by decide) rfl rfl (t_X12_feels_4 (σ := (zuX σ 45 (upd (zX σ 45) 31 (nI 0)))) hl (w := i) (pa := pa) (r := 0) (x := x) hw rfl (by decide)) rfl rfl (by decide) (by decide) (Nat.le_of_ble_eq_true rfl) (by decide) (by decide) ?_
  refine Z.eqσ (τ := (zuX (zuX σ 45 (upd (zX σ 45) 31 (nI (0 + 1)))) 65 (upd (zX σ 65) (0) (nI 10)))) (by rw [show zX (zuX σ 45 (upd (zX σ 45) 31 (nI 0))) 45 = upd (zX σ 45) 31 (nI 0) from rfl, upd_upd, zuX_sw (by decide)]; try rfl) ?_
  refine Z.goto B dX12_act_34 (tgt := 57) rfl ?_
  refine Z.iret B Rt dX12_act_57 (ty := .int) rfl rfl (by decide) (by decide) ?_
  exact ⟨rfl, rfl⟩

theorem t_K_act_asks_4 {σ : zSt} (hl : Lay σ) {n a y : Nat} (H : zHd σ n a y) {i q pa num : Nat} (hi : i < y) (hq : zR σ 24 i = some q) (hw : zWo σ q 4 pa num) {x : Int32} : Dt mX11_act [.ref 0, .int (nI i), .int (nI 1), .int x] σ (some (.int ((x + nI num) * nI 2))) (zuX (zuX σ 18 (upd (zX σ 18) 1 (nI (0 + 2)))) 19 (upd (upd (zX σ 19) (0) (nI 11)) (0 + 1) (nI 10))) := by
  refine Dt.of (by decide) (Nat.le_of_ble_eq_true rfl) fun κ B Rt => ?_
  show Z κ 0 0 σ 0 [(0, .ref 0), (1, .int (nI i)), (2, .int (nI 1)), (3, .int x)] []
  refine Z.aload_n B dX11_act_0 (v := .ref 0) rfl rfl ?_
  refine Z.getR (σ := σ) B fX11_19_11 dX11_act_1 (hl.n (k := 0) (by decide)) (hl.k (k := 0) (by decide)) (by decide) (j := 18) (hl.r (k := 0) (f := 1) (by decide) (by decide)) ?_
  refine Z.callVN (σ := σ) B (M' := mX8_begin) (as := []) (st := []) dX11_act_4 wX8_begin iX8_begin sX8_begin kX11_280 (hl.n (k := 18) (by decide)) (hl.k (k := 18) (by decide)) (by decide) rfl rfl (t_X8_begin (σ := σ) hl) rfl rfl (by decide) (by decide) (Nat.le_of_ble_eq_true rfl) (by decide) (by decide) ?_
  refine Z.eqσ (τ := (zuX σ 18 (upd (zX σ 18) 1 (nI 0)))) rfl ?_
  refine Z.aload_n B dX11_act_7 (v := .ref 0) rfl rfl ?_
  refine Z.getR (σ := (zuX σ 18 (upd (zX σ 18) 1 (nI 0)))) B fX11_28_11 dX11_act_8 (hl.n (k := 0) (by decide)) (hl.k (k := 0) (by decide)) (by decide) (j := 20) (hl.r (k := 0) (f := 2) (by decide) (by decide)) ?_
  refine Z.iload_n B dX11_act_11 (x := nI i) rfl ?_
  refine Z.callVI (σ := (zuX σ 18 (upd (zX σ 18) 1 (nI 0)))) B (M' := mX1_wayAt) (as := [.int (nI i)]) (st := []) (v := .ref q) dX11_act_12 wX1_wayAt iX1_wayAt sX1_wayAt kX11_102 (hl.n (k := 20) (by decide)) (hl.k (k := 20) (by decide)) (by decide) rfl rfl (t_X1_wayAt_in (σ := (zuX σ 18 (upd (zX σ 18) 1 (nI 0)))) H hi hq) rfl rfl (by decide) (by decide) (Nat.le_of_ble_eq_true rfl) (by decide) (by decide) ?_
  refine Z.astore B dX11_act_15 (by decide) rfl (L' := [(0, .ref 0), (1, .int (nI i)), (2, .int (nI 1)), (3, .int x), (4, .ref q)]) rfl ?_
  refine Z.aload B dX11_act_17 (v := .ref q) rfl rfl ?_
  refine Z.ifnonnull_r B dX11_act_19 (tgt := 24) rfl ?_
  refine Z.iload_n B dX11_act_24 (x := nI 1) rfl ?_
  refine Z.tabIn B dX11_act_25 (by decide) (by decide) (off := 34) (by decide) (tgt := 59) rfl ?_
  refine Z.aload B dX11_act_59 (v := .ref q) rfl rfl ?_
  refine Z.iload_n B dX11_act_61 (x := x) rfl ?_
  refine Z.callUI (σ := (zuX σ 18 (upd (zX σ 18) 1 (nI 0)))) B (M' := mX9_asks) (as := [.int x]) (st := []) (v := .int ((x + nI num) * nI 2)) dX11_act_62 wX9_asks iX9_asks (x := yX9_asks) (owner := "FourAskOne$Way") kX11_286 (zT_at 1004 (by decide +kernel) rfl) iX9_asks wX9_asks.1 (by decide +kernel) hw.1 hw.2.1 (by decide) rfl (zT_at 1012 (by decide +kernel) rfl) (t_C_X9_asks_4 (σ := (zuX σ 18 (upd (zX σ 18) 1 (nI 0)))) hl (q := q) (r := 0) (x := x) (hw.uX (by decide)) rfl (by decide)) rfl rfl (by decide) (by decide) (Nat.le_of_ble_eq_true rfl) (by decide) (by decide) ?_
  refine Z.eqσ (τ := (zuX (zuX σ 18 (upd (zX σ 18) 1 (nI (0 + 2)))) 19 (upd (upd (zX σ 19) (0) (nI 11)) (0 + 1) (nI 10)))) (by rw [show zX (zuX σ 18 (upd (zX σ 18) 1 (nI 0))) 18 = upd (zX σ 18) 1 (nI 0) from rfl, upd_upd, zuX_sw (by decide)]; try rfl) ?_
  refine Z.iret B Rt dX11_act_65 (ty := .int) rfl rfl (by decide) (by decide) ?_
  exact ⟨rfl, rfl⟩

theorem t_M_act_asks_4 {σ : zSt} (hl : Lay σ) {n a y : Nat} (H : zMd σ n a y) {i pa : Nat} (hi : i < y) (hw : zMy σ i 4 pa) {x : Int32} : Dt mX12_act [.ref 45, .int (nI i), .int (nI 1), .int x] σ (some (.int ((x + nI i) * nI 2))) (zuX (zuX σ 45 (upd (zX σ 45) 31 (nI (0 + 2)))) 65 (upd (upd (zX σ 65) (0) (nI 11)) (0 + 1) (nI 10))) := by
  refine Dt.of (by decide) (Nat.le_of_ble_eq_true rfl) fun κ B Rt => ?_
  show Z κ 0 0 σ 0 [(0, .ref 45), (1, .int (nI i)), (2, .int (nI 1)), (3, .int x)] []
  refine Z.aload_n B dX12_act_0 (v := .ref 45) rfl rfl ?_
  refine Z.iconst B dX12_act_1 (v := nI 0) rfl ?_
  refine Z.putI (σ := σ) B fX12_226_12 (ty := .int) ⟨_, _, _, rfl, rfl, by decide +kernel⟩ dX12_act_2 (hl.n (k := 45) (by decide)) (hl.k (k := 45) (by decide)) (by decide) rfl rfl (τ := (zuX σ 45 (upd (zX σ 45) 31 (nI 0)))) rfl ?_
  refine Z.aload_n B dX12_act_5 (v := .ref 45) rfl rfl ?_
  refine Z.iload_n B dX12_act_6 (x := nI i) rfl ?_
  refine Z.callVI (σ := (zuX σ 45 (upd (zX σ 45) 31 (nI 0)))) B (M' := mX12_isWay) (as := [.int (nI i)]) (st := []) (v := .int (nI 1)) dX12_act_7 wX12_isWay iX12_isWay sX12_isWay kX12_98 (hl.n (k := 45) (by decide)) (hl.k (k := 45) (by decide)) (by decide) rfl rfl (t_X12_isWay_in (σ := (zuX σ 45 (upd (zX σ 45) 31 (nI 0)))) H hi) rfl rfl (by decide) (by decide) (Nat.le_of_ble_eq_true rfl) (by decide) (by decide) ?_
  refine Z.if_eqN B dX12_act_10 (tgt := 22) rfl (by omega) (fun h10 => by exfalso; first | omega | contradiction | simp_all) (fun h10 => ?_)
  refine Z.iload_n B dX12_act_13 (x := nI 1) rfl ?_
  refine Z.if_ltN B dX12_act_14 (tgt := 22) rfl (by omega) ?_
  refine Z.iload_n B dX12_act_17 (x := nI 1) rfl ?_
  refine Z.iconst B dX12_act_18 (v := nI 2) rfl ?_
  refine Z.icmp_leN B dX12_act_19 (tgt := 24) rfl (by omega) (by omega) (fun h19 => ?_) (fun h19 => by exfalso; first | omega | contradiction | simp_all)
  refine Z.iload_n B dX12_act_24 (x := nI 1) rfl ?_
  refine Z.if_neN B dX12_act_25 (tgt := 37) rfl (by omega) (fun h25 => ?_) (fun h25 => by exfalso; first | omega | contradiction | simp_all)
  refine Z.iload_n B dX12_act_37 (x := nI 1) rfl ?_
  refine Z.iconst B dX12_act_38 (v := nI 1) rfl ?_
  refine Z.icmp_neN B dX12_act_39 (tgt := 51) rfl (by omega) (by omega) (fun h39 => by exfalso; first | omega | contradiction | simp_all) (fun h39 => ?_)
  refine Z.aload_n B dX12_act_42 (v := .ref 45) rfl rfl ?_
  refine Z.iload_n B dX12_act_43 (x := nI i) rfl ?_
  refine Z.iload_n B dX12_act_44 (x := x) rfl ?_
  refine Z.callVI (σ := (zuX σ 45 (upd (zX σ 45) 31 (nI 0)))) B (M' := mX12_asks) (as := [.int (nI i), .int x]) (st := []) (v := .int ((x + nI i) * nI 2)) dX12_act_45 wX12_asks iX12_asks sX12_asks kX12_236 (hl.n (k := 45) (by decide)) (hl.k (k := 45) (by decide)) (by decide) rfl rfl (t_X12_asks_4 (σ := (zuX σ 45 (upd (zX σ 45) 31 (nI 0)))) hl (w := i) (pa := pa) (r := 0) (x := x) hw rfl (by decide)) rfl rfl (by decide) (by decide) (Nat.le_of_ble_eq_true rfl) (by decide) (by decide) ?_
  refine Z.eqσ (τ := (zuX (zuX σ 45 (upd (zX σ 45) 31 (nI (0 + 2)))) 65 (upd (upd (zX σ 65) (0) (nI 11)) (0 + 1) (nI 10)))) (by rw [show zX (zuX σ 45 (upd (zX σ 45) 31 (nI 0))) 45 = upd (zX σ 45) 31 (nI 0) from rfl, upd_upd, zuX_sw (by decide)]; try rfl) ?_
  refine Z.goto B dX12_act_48 (tgt := 57) rfl ?_
  refine Z.iret B Rt dX12_act_57 (ty := .int) rfl rfl (by decide) (by decide) ?_
  exact ⟨rfl, rfl⟩

theorem t_K_act_sums_4 {σ : zSt} (hl : Lay σ) {n a y : Nat} (H : zHd σ n a y) {i q pa num : Nat} (hi : i < y) (hq : zR σ 24 i = some q) (hw : zWo σ q 4 pa num) {x : Int32} : Dt mX11_act [.ref 0, .int (nI i), .int (nI 2), .int x] σ (some (.int (-(((x + nI num) * nI 2) ^^^ ((x - nI pa) + nI num))))) (zuX (zuX σ 18 (upd (zX σ 18) 1 (nI (0 + 5)))) 19 (upd (upd (upd (upd (upd (zX σ 19) (0) (nI 50)) (0 + 1) (nI 12)) (0 + 2) (nI 11)) (0 + 3) (nI 10)) (0 + 4) (nI 10))) := by
  refine Dt.of (by decide) (Nat.le_of_ble_eq_true rfl) fun κ B Rt => ?_
  show Z κ 0 0 σ 0 [(0, .ref 0), (1, .int (nI i)), (2, .int (nI 2)), (3, .int x)] []
  refine Z.aload_n B dX11_act_0 (v := .ref 0) rfl rfl ?_
  refine Z.getR (σ := σ) B fX11_19_11 dX11_act_1 (hl.n (k := 0) (by decide)) (hl.k (k := 0) (by decide)) (by decide) (j := 18) (hl.r (k := 0) (f := 1) (by decide) (by decide)) ?_
  refine Z.callVN (σ := σ) B (M' := mX8_begin) (as := []) (st := []) dX11_act_4 wX8_begin iX8_begin sX8_begin kX11_280 (hl.n (k := 18) (by decide)) (hl.k (k := 18) (by decide)) (by decide) rfl rfl (t_X8_begin (σ := σ) hl) rfl rfl (by decide) (by decide) (Nat.le_of_ble_eq_true rfl) (by decide) (by decide) ?_
  refine Z.eqσ (τ := (zuX σ 18 (upd (zX σ 18) 1 (nI 0)))) rfl ?_
  refine Z.aload_n B dX11_act_7 (v := .ref 0) rfl rfl ?_
  refine Z.getR (σ := (zuX σ 18 (upd (zX σ 18) 1 (nI 0)))) B fX11_28_11 dX11_act_8 (hl.n (k := 0) (by decide)) (hl.k (k := 0) (by decide)) (by decide) (j := 20) (hl.r (k := 0) (f := 2) (by decide) (by decide)) ?_
  refine Z.iload_n B dX11_act_11 (x := nI i) rfl ?_
  refine Z.callVI (σ := (zuX σ 18 (upd (zX σ 18) 1 (nI 0)))) B (M' := mX1_wayAt) (as := [.int (nI i)]) (st := []) (v := .ref q) dX11_act_12 wX1_wayAt iX1_wayAt sX1_wayAt kX11_102 (hl.n (k := 20) (by decide)) (hl.k (k := 20) (by decide)) (by decide) rfl rfl (t_X1_wayAt_in (σ := (zuX σ 18 (upd (zX σ 18) 1 (nI 0)))) H hi hq) rfl rfl (by decide) (by decide) (Nat.le_of_ble_eq_true rfl) (by decide) (by decide) ?_
  refine Z.astore B dX11_act_15 (by decide) rfl (L' := [(0, .ref 0), (1, .int (nI i)), (2, .int (nI 2)), (3, .int x), (4, .ref q)]) rfl ?_
  refine Z.aload B dX11_act_17 (v := .ref q) rfl rfl ?_
  refine Z.ifnonnull_r B dX11_act_19 (tgt := 24) rfl ?_
  refine Z.iload_n B dX11_act_24 (x := nI 2) rfl ?_
  refine Z.tabIn B dX11_act_25 (by decide) (by decide) (off := 41) (by decide) (tgt := 66) rfl ?_
  refine Z.aload B dX11_act_66 (v := .ref q) rfl rfl ?_
  refine Z.iload_n B dX11_act_68 (x := x) rfl ?_
  refine Z.callUI (σ := (zuX σ 18 (upd (zX σ 18) 1 (nI 0)))) B (M' := mX3_sums) (as := [.int x]) (st := []) (v := .int (-(((x + nI num) * nI 2) ^^^ ((x - nI pa) + nI num)))) dX11_act_69 wX3_sums iX3_sums (x := yX9_sums) (owner := "FourAskOne$Way") kX11_289 (zT_at 1031 (by decide +kernel) rfl) iX9_sums wX9_sums.1 (by decide +kernel) hw.1 hw.2.1 (by decide) rfl (zT_at 1038 (by decide +kernel) rfl) (t_C_X3_sums_4 (σ := (zuX σ 18 (upd (zX σ 18) 1 (nI 0)))) hl (q := q) (r := 0) (x := x) (hw.uX (by decide)) rfl (by decide)) rfl rfl (by decide) (by decide) (Nat.le_of_ble_eq_true rfl) (by decide) (by decide) ?_
  refine Z.eqσ (τ := (zuX (zuX σ 18 (upd (zX σ 18) 1 (nI (0 + 5)))) 19 (upd (upd (upd (upd (upd (zX σ 19) (0) (nI 50)) (0 + 1) (nI 12)) (0 + 2) (nI 11)) (0 + 3) (nI 10)) (0 + 4) (nI 10)))) (by rw [show zX (zuX σ 18 (upd (zX σ 18) 1 (nI 0))) 18 = upd (zX σ 18) 1 (nI 0) from rfl, upd_upd, zuX_sw (by decide)]; try rfl) ?_
  refine Z.iret B Rt dX11_act_72 (ty := .int) rfl rfl (by decide) (by decide) ?_
  exact ⟨rfl, rfl⟩

theorem t_M_act_sums_4 {σ : zSt} (hl : Lay σ) {n a y : Nat} (H : zMd σ n a y) {i pa : Nat} (hi : i < y) (hw : zMy σ i 4 pa) {x : Int32} : Dt mX12_act [.ref 45, .int (nI i), .int (nI 2), .int x] σ (some (.int (-(((x + nI i) * nI 2) ^^^ ((x - nI pa) + nI i))))) (zuX (zuX σ 45 (upd (zX σ 45) 31 (nI (0 + 5)))) 65 (upd (upd (upd (upd (upd (zX σ 65) (0) (nI 50)) (0 + 1) (nI 12)) (0 + 2) (nI 11)) (0 + 3) (nI 10)) (0 + 4) (nI 10))) := by
  refine Dt.of (by decide) (Nat.le_of_ble_eq_true rfl) fun κ B Rt => ?_
  show Z κ 0 0 σ 0 [(0, .ref 45), (1, .int (nI i)), (2, .int (nI 2)), (3, .int x)] []
  refine Z.aload_n B dX12_act_0 (v := .ref 45) rfl rfl ?_
  refine Z.iconst B dX12_act_1 (v := nI 0) rfl ?_
  refine Z.putI (σ := σ) B fX12_226_12 (ty := .int) ⟨_, _, _, rfl, rfl, by decide +kernel⟩ dX12_act_2 (hl.n (k := 45) (by decide)) (hl.k (k := 45) (by decide)) (by decide) rfl rfl (τ := (zuX σ 45 (upd (zX σ 45) 31 (nI 0)))) rfl ?_
  refine Z.aload_n B dX12_act_5 (v := .ref 45) rfl rfl ?_
  refine Z.iload_n B dX12_act_6 (x := nI i) rfl ?_
  refine Z.callVI (σ := (zuX σ 45 (upd (zX σ 45) 31 (nI 0)))) B (M' := mX12_isWay) (as := [.int (nI i)]) (st := []) (v := .int (nI 1)) dX12_act_7 wX12_isWay iX12_isWay sX12_isWay kX12_98 (hl.n (k := 45) (by decide)) (hl.k (k := 45) (by decide)) (by decide) rfl rfl (t_X12_isWay_in (σ := (zuX σ 45 (upd (zX σ 45) 31 (nI 0)))) H hi) rfl rfl (by decide) (by decide) (Nat.le_of_ble_eq_true rfl) (by decide) (by decide) ?_
  refine Z.if_eqN B dX12_act_10 (tgt := 22) rfl (by omega) (fun h10 => by exfalso; first | omega | contradiction | simp_all) (fun h10 => ?_)
  refine Z.iload_n B dX12_act_13 (x := nI 2) rfl ?_
  refine Z.if_ltN B dX12_act_14 (tgt := 22) rfl (by omega) ?_
  refine Z.iload_n B dX12_act_17 (x := nI 2) rfl ?_
  refine Z.iconst B dX12_act_18 (v := nI 2) rfl ?_
  refine Z.icmp_leN B dX12_act_19 (tgt := 24) rfl (by omega) (by omega) (fun h19 => ?_) (fun h19 => by exfalso; first | omega | contradiction | simp_all)
  refine Z.iload_n B dX12_act_24 (x := nI 2) rfl ?_
  refine Z.if_neN B dX12_act_25 (tgt := 37) rfl (by omega) (fun h25 => ?_) (fun h25 => by exfalso; first | omega | contradiction | simp_all)
  refine Z.iload_n B dX12_act_37 (x := nI 2) rfl ?_
  refine Z.iconst B dX12_act_38 (v := nI 1) rfl ?_
  refine Z.icmp_neN B dX12_act_39 (tgt := 51) rfl (by omega) (by omega) (fun h39 => ?_) (fun h39 => by exfalso; first | omega | contradiction | simp_all)
  refine Z.aload_n B dX12_act_51 (v := .ref 45) rfl rfl ?_
  refine Z.iload_n B dX12_act_52 (x := nI i) rfl ?_
  refine Z.iload_n B dX12_act_53 (x := x) rfl ?_
  refine Z.callVI (σ := (zuX σ 45 (upd (zX σ 45) 31 (nI 0)))) B (M' := mX12_sums) (as := [.int (nI i), .int x]) (st := []) (v := .int (-(((x + nI i) * nI 2) ^^^ ((x - nI pa) + nI i)))) dX12_act_54 wX12_sums iX12_sums sX12_sums kX12_239 (hl.n (k := 45) (by decide)) (hl.k (k := 45) (by decide)) (by decide) rfl rfl (t_X12_sums_4 (σ := (zuX σ 45 (upd (zX σ 45) 31 (nI 0)))) hl (w := i) (pa := pa) (r := 0) (x := x) hw rfl (by decide)) rfl rfl (by decide) (by decide) (Nat.le_of_ble_eq_true rfl) (by decide) (by decide) ?_
  refine Z.eqσ (τ := (zuX (zuX σ 45 (upd (zX σ 45) 31 (nI (0 + 5)))) 65 (upd (upd (upd (upd (upd (zX σ 65) (0) (nI 50)) (0 + 1) (nI 12)) (0 + 2) (nI 11)) (0 + 3) (nI 10)) (0 + 4) (nI 10)))) (by rw [show zX (zuX σ 45 (upd (zX σ 45) 31 (nI 0))) 45 = upd (zX σ 45) 31 (nI 0) from rfl, upd_upd, zuX_sw (by decide)]; try rfl) ?_
  refine Z.iret B Rt dX12_act_57 (ty := .int) rfl rfl (by decide) (by decide) ?_
  exact ⟨rfl, rfl⟩

theorem t_K_act_feels_5 {σ : zSt} (hl : Lay σ) {n a y : Nat} (H : zHd σ n a y) {i q pa num : Nat} (hi : i < y) (hq : zR σ 24 i = some q) (hw : zWo σ q 5 pa num) {x : Int32} : Dt mX11_act [.ref 0, .int (nI i), .int (nI 0), .int x] σ (some (.int ((x + nI num) * nI 2))) (zuX (zuX σ 18 (upd (zX σ 18) 1 (nI (0 + 2)))) 19 (upd (upd (zX σ 19) (0) (nI 60)) (0 + 1) (nI 10))) := by
  refine Dt.of (by decide) (Nat.le_of_ble_eq_true rfl) fun κ B Rt => ?_
  show Z κ 0 0 σ 0 [(0, .ref 0), (1, .int (nI i)), (2, .int (nI 0)), (3, .int x)] []
  refine Z.aload_n B dX11_act_0 (v := .ref 0) rfl rfl ?_
  refine Z.getR (σ := σ) B fX11_19_11 dX11_act_1 (hl.n (k := 0) (by decide)) (hl.k (k := 0) (by decide)) (by decide) (j := 18) (hl.r (k := 0) (f := 1) (by decide) (by decide)) ?_
  refine Z.callVN (σ := σ) B (M' := mX8_begin) (as := []) (st := []) dX11_act_4 wX8_begin iX8_begin sX8_begin kX11_280 (hl.n (k := 18) (by decide)) (hl.k (k := 18) (by decide)) (by decide) rfl rfl (t_X8_begin (σ := σ) hl) rfl rfl (by decide) (by decide) (Nat.le_of_ble_eq_true rfl) (by decide) (by decide) ?_
  refine Z.eqσ (τ := (zuX σ 18 (upd (zX σ 18) 1 (nI 0)))) rfl ?_
  refine Z.aload_n B dX11_act_7 (v := .ref 0) rfl rfl ?_
  refine Z.getR (σ := (zuX σ 18 (upd (zX σ 18) 1 (nI 0)))) B fX11_28_11 dX11_act_8 (hl.n (k := 0) (by decide)) (hl.k (k := 0) (by decide)) (by decide) (j := 20) (hl.r (k := 0) (f := 2) (by decide) (by decide)) ?_
  refine Z.iload_n B dX11_act_11 (x := nI i) rfl ?_
  refine Z.callVI (σ := (zuX σ 18 (upd (zX σ 18) 1 (nI 0)))) B (M' := mX1_wayAt) (as := [.int (nI i)]) (st := []) (v := .ref q) dX11_act_12 wX1_wayAt iX1_wayAt sX1_wayAt kX11_102 (hl.n (k := 20) (by decide)) (hl.k (k := 20) (by decide)) (by decide) rfl rfl (t_X1_wayAt_in (σ := (zuX σ 18 (upd (zX σ 18) 1 (nI 0)))) H hi hq) rfl rfl (by decide) (by decide) (Nat.le_of_ble_eq_true rfl) (by decide) (by decide) ?_
  refine Z.astore B dX11_act_15 (by decide) rfl (L' := [(0, .ref 0), (1, .int (nI i)), (2, .int (nI 0)), (3, .int x), (4, .ref q)]) rfl ?_
  refine Z.aload B dX11_act_17 (v := .ref q) rfl rfl ?_
  refine Z.ifnonnull_r B dX11_act_19 (tgt := 24) rfl ?_
  refine Z.iload_n B dX11_act_24 (x := nI 0) rfl ?_
  refine Z.tabIn B dX11_act_25 (by decide) (by decide) (off := 27) (by decide) (tgt := 52) rfl ?_
  refine Z.aload B dX11_act_52 (v := .ref q) rfl rfl ?_
  refine Z.iload_n B dX11_act_54 (x := x) rfl ?_
  refine Z.callUI (σ := (zuX σ 18 (upd (zX σ 18) 1 (nI 0)))) B (M' := mX5_feels) (as := [.int x]) (st := []) (v := .int ((x + nI num) * nI 2)) dX11_act_55 wX5_feels iX5_feels (x := yX9_feels) (owner := "FourAskOne$Way") kX11_283 (zT_at 981 (by decide +kernel) rfl) iX9_feels wX9_feels.1 (by decide +kernel) hw.1 hw.2.1 (by decide) rfl (zT_at 996 (by decide +kernel) rfl) (t_C_X5_feels_5 (σ := (zuX σ 18 (upd (zX σ 18) 1 (nI 0)))) hl (q := q) (r := 0) (x := x) (hw.uX (by decide)) rfl (by decide)) rfl rfl (by decide) (by decide) (Nat.le_of_ble_eq_true rfl) (by decide) (by decide) ?_
  refine Z.eqσ (τ := (zuX (zuX σ 18 (upd (zX σ 18) 1 (nI (0 + 2)))) 19 (upd (upd (zX σ 19) (0) (nI 60)) (0 + 1) (nI 10)))) (by rw [show zX (zuX σ 18 (upd (zX σ 18) 1 (nI 0))) 18 = upd (zX σ 18) 1 (nI 0) from rfl, upd_upd, zuX_sw (by decide)]; try rfl) ?_
  refine Z.iret B Rt dX11_act_58 (ty := .int) rfl rfl (by decide) (by decide) ?_
  exact ⟨rfl, rfl⟩

theorem t_M_act_feels_5 {σ : zSt} (hl : Lay σ) {n a y : Nat} (H : zMd σ n a y) {i pa : Nat} (hi : i < y) (hw : zMy σ i 5 pa) {x : Int32} : Dt mX12_act [.ref 45, .int (nI i), .int (nI 0), .int x] σ (some (.int ((x + nI i) * nI 2))) (zuX (zuX σ 45 (upd (zX σ 45) 31 (nI (0 + 2)))) 65 (upd (upd (zX σ 65) (0) (nI 60)) (0 + 1) (nI 10))) := by
  refine Dt.of (by decide) (Nat.le_of_ble_eq_true rfl) fun κ B Rt => ?_
  show Z κ 0 0 σ 0 [(0, .ref 45), (1, .int (nI i)), (2, .int (nI 0)), (3, .int x)] []
  refine Z.aload_n B dX12_act_0 (v := .ref 45) rfl rfl ?_
  refine Z.iconst B dX12_act_1 (v := nI 0) rfl ?_
  refine Z.putI (σ := σ) B fX12_226_12 (ty := .int) ⟨_, _, _, rfl, rfl, by decide +kernel⟩ dX12_act_2 (hl.n (k := 45) (by decide)) (hl.k (k := 45) (by decide)) (by decide) rfl rfl (τ := (zuX σ 45 (upd (zX σ 45) 31 (nI 0)))) rfl ?_
  refine Z.aload_n B dX12_act_5 (v := .ref 45) rfl rfl ?_
  refine Z.iload_n B dX12_act_6 (x := nI i) rfl ?_
  refine Z.callVI (σ := (zuX σ 45 (upd (zX σ 45) 31 (nI 0)))) B (M' := mX12_isWay) (as := [.int (nI i)]) (st := []) (v := .int (nI 1)) dX12_act_7 wX12_isWay iX12_isWay sX12_isWay kX12_98 (hl.n (k := 45) (by decide)) (hl.k (k := 45) (by decide)) (by decide) rfl rfl (t_X12_isWay_in (σ := (zuX σ 45 (upd (zX σ 45) 31 (nI 0)))) H hi) rfl rfl (by decide) (by decide) (Nat.le_of_ble_eq_true rfl) (by decide) (by decide) ?_
  refine Z.if_eqN B dX12_act_10 (tgt := 22) rfl (by omega) (fun h10 => by exfalso; first | omega | contradiction | simp_all) (fun h10 => ?_)
  refine Z.iload_n B dX12_act_13 (x := nI 0) rfl ?_
  refine Z.if_ltN B dX12_act_14 (tgt := 22) rfl (by omega) ?_
  refine Z.iload_n B dX12_act_17 (x := nI 0) rfl ?_
  refine Z.iconst B dX12_act_18 (v := nI 2) rfl ?_
  refine Z.icmp_leN B dX12_act_19 (tgt := 24) rfl (by omega) (by omega) (fun h19 => ?_) (fun h19 => by exfalso; first | omega | contradiction | simp_all)
  refine Z.iload_n B dX12_act_24 (x := nI 0) rfl ?_
  refine Z.if_neN B dX12_act_25 (tgt := 37) rfl (by omega) (fun h25 => by exfalso; first | omega | contradiction | simp_all) (fun h25 => ?_)
  refine Z.aload_n B dX12_act_28 (v := .ref 45) rfl rfl ?_
  refine Z.iload_n B dX12_act_29 (x := nI i) rfl ?_
  refine Z.iload_n B dX12_act_30 (x := x) rfl ?_
  refine Z.callVI (σ := (zuX σ 45 (upd (zX σ 45) 31 (nI 0)))) B (M' := mX12_feels) (as := [.int (nI i), .int x]) (st := []) (v := .int ((x + nI i) * nI 2)) dX12_act_31 wX12_feels iX12_feels sX12_feels kX12_233 (hl.n (k := 45) (by decide)) (hl.k (k := 45) (by decide)) (by decide) rfl rfl (t_X12_feels_5 (σ := (zuX σ 45 (upd (zX σ 45) 31 (nI 0)))) hl (w := i) (pa := pa) (r := 0) (x := x) hw rfl (by decide)) rfl rfl (by decide) (by decide) (Nat.le_of_ble_eq_true rfl) (by decide) (by decide) ?_
  refine Z.eqσ (τ := (zuX (zuX σ 45 (upd (zX σ 45) 31 (nI (0 + 2)))) 65 (upd (upd (zX σ 65) (0) (nI 60)) (0 + 1) (nI 10)))) (by rw [show zX (zuX σ 45 (upd (zX σ 45) 31 (nI 0))) 45 = upd (zX σ 45) 31 (nI 0) from rfl, upd_upd, zuX_sw (by decide)]; try rfl) ?_
  refine Z.goto B dX12_act_34 (tgt := 57) rfl ?_
  refine Z.iret B Rt dX12_act_57 (ty := .int) rfl rfl (by decide) (by decide) ?_
  exact ⟨rfl, rfl⟩

theorem t_K_act_asks_5 {σ : zSt} (hl : Lay σ) {n a y : Nat} (H : zHd σ n a y) {i q pa num : Nat} (hi : i < y) (hq : zR σ 24 i = some q) (hw : zWo σ q 5 pa num) {x : Int32} : Dt mX11_act [.ref 0, .int (nI i), .int (nI 1), .int x] σ (some (.int (((x + nI num) * nI 2) * nI 2))) (zuX (zuX σ 18 (upd (zX σ 18) 1 (nI (0 + 3)))) 19 (upd (upd (upd (zX σ 19) (0) (nI 11)) (0 + 1) (nI 60)) (0 + 2) (nI 10))) := by
  refine Dt.of (by decide) (Nat.le_of_ble_eq_true rfl) fun κ B Rt => ?_
  show Z κ 0 0 σ 0 [(0, .ref 0), (1, .int (nI i)), (2, .int (nI 1)), (3, .int x)] []
  refine Z.aload_n B dX11_act_0 (v := .ref 0) rfl rfl ?_
  refine Z.getR (σ := σ) B fX11_19_11 dX11_act_1 (hl.n (k := 0) (by decide)) (hl.k (k := 0) (by decide)) (by decide) (j := 18) (hl.r (k := 0) (f := 1) (by decide) (by decide)) ?_
  refine Z.callVN (σ := σ) B (M' := mX8_begin) (as := []) (st := []) dX11_act_4 wX8_begin iX8_begin sX8_begin kX11_280 (hl.n (k := 18) (by decide)) (hl.k (k := 18) (by decide)) (by decide) rfl rfl (t_X8_begin (σ := σ) hl) rfl rfl (by decide) (by decide) (Nat.le_of_ble_eq_true rfl) (by decide) (by decide) ?_
  refine Z.eqσ (τ := (zuX σ 18 (upd (zX σ 18) 1 (nI 0)))) rfl ?_
  refine Z.aload_n B dX11_act_7 (v := .ref 0) rfl rfl ?_
  refine Z.getR (σ := (zuX σ 18 (upd (zX σ 18) 1 (nI 0)))) B fX11_28_11 dX11_act_8 (hl.n (k := 0) (by decide)) (hl.k (k := 0) (by decide)) (by decide) (j := 20) (hl.r (k := 0) (f := 2) (by decide) (by decide)) ?_
  refine Z.iload_n B dX11_act_11 (x := nI i) rfl ?_
  refine Z.callVI (σ := (zuX σ 18 (upd (zX σ 18) 1 (nI 0)))) B (M' := mX1_wayAt) (as := [.int (nI i)]) (st := []) (v := .ref q) dX11_act_12 wX1_wayAt iX1_wayAt sX1_wayAt kX11_102 (hl.n (k := 20) (by decide)) (hl.k (k := 20) (by decide)) (by decide) rfl rfl (t_X1_wayAt_in (σ := (zuX σ 18 (upd (zX σ 18) 1 (nI 0)))) H hi hq) rfl rfl (by decide) (by decide) (Nat.le_of_ble_eq_true rfl) (by decide) (by decide) ?_
  refine Z.astore B dX11_act_15 (by decide) rfl (L' := [(0, .ref 0), (1, .int (nI i)), (2, .int (nI 1)), (3, .int x), (4, .ref q)]) rfl ?_
  refine Z.aload B dX11_act_17 (v := .ref q) rfl rfl ?_
  refine Z.ifnonnull_r B dX11_act_19 (tgt := 24) rfl ?_
  refine Z.iload_n B dX11_act_24 (x := nI 1) rfl ?_
  refine Z.tabIn B dX11_act_25 (by decide) (by decide) (off := 34) (by decide) (tgt := 59) rfl ?_
  refine Z.aload B dX11_act_59 (v := .ref q) rfl rfl ?_
  refine Z.iload_n B dX11_act_61 (x := x) rfl ?_
  refine Z.callUI (σ := (zuX σ 18 (upd (zX σ 18) 1 (nI 0)))) B (M' := mX9_asks) (as := [.int x]) (st := []) (v := .int (((x + nI num) * nI 2) * nI 2)) dX11_act_62 wX9_asks iX9_asks (x := yX9_asks) (owner := "FourAskOne$Way") kX11_286 (zT_at 1004 (by decide +kernel) rfl) iX9_asks wX9_asks.1 (by decide +kernel) hw.1 hw.2.1 (by decide) rfl (zT_at 1019 (by decide +kernel) rfl) (t_C_X9_asks_5 (σ := (zuX σ 18 (upd (zX σ 18) 1 (nI 0)))) hl (q := q) (r := 0) (x := x) (hw.uX (by decide)) rfl (by decide)) rfl rfl (by decide) (by decide) (Nat.le_of_ble_eq_true rfl) (by decide) (by decide) ?_
  refine Z.eqσ (τ := (zuX (zuX σ 18 (upd (zX σ 18) 1 (nI (0 + 3)))) 19 (upd (upd (upd (zX σ 19) (0) (nI 11)) (0 + 1) (nI 60)) (0 + 2) (nI 10)))) (by rw [show zX (zuX σ 18 (upd (zX σ 18) 1 (nI 0))) 18 = upd (zX σ 18) 1 (nI 0) from rfl, upd_upd, zuX_sw (by decide)]; try rfl) ?_
  refine Z.iret B Rt dX11_act_65 (ty := .int) rfl rfl (by decide) (by decide) ?_
  exact ⟨rfl, rfl⟩

theorem t_M_act_asks_5 {σ : zSt} (hl : Lay σ) {n a y : Nat} (H : zMd σ n a y) {i pa : Nat} (hi : i < y) (hw : zMy σ i 5 pa) {x : Int32} : Dt mX12_act [.ref 45, .int (nI i), .int (nI 1), .int x] σ (some (.int (((x + nI i) * nI 2) * nI 2))) (zuX (zuX σ 45 (upd (zX σ 45) 31 (nI (0 + 3)))) 65 (upd (upd (upd (zX σ 65) (0) (nI 11)) (0 + 1) (nI 60)) (0 + 2) (nI 10))) := by
  refine Dt.of (by decide) (Nat.le_of_ble_eq_true rfl) fun κ B Rt => ?_
  show Z κ 0 0 σ 0 [(0, .ref 45), (1, .int (nI i)), (2, .int (nI 1)), (3, .int x)] []
  refine Z.aload_n B dX12_act_0 (v := .ref 45) rfl rfl ?_
  refine Z.iconst B dX12_act_1 (v := nI 0) rfl ?_
  refine Z.putI (σ := σ) B fX12_226_12 (ty := .int) ⟨_, _, _, rfl, rfl, by decide +kernel⟩ dX12_act_2 (hl.n (k := 45) (by decide)) (hl.k (k := 45) (by decide)) (by decide) rfl rfl (τ := (zuX σ 45 (upd (zX σ 45) 31 (nI 0)))) rfl ?_
  refine Z.aload_n B dX12_act_5 (v := .ref 45) rfl rfl ?_
  refine Z.iload_n B dX12_act_6 (x := nI i) rfl ?_
  refine Z.callVI (σ := (zuX σ 45 (upd (zX σ 45) 31 (nI 0)))) B (M' := mX12_isWay) (as := [.int (nI i)]) (st := []) (v := .int (nI 1)) dX12_act_7 wX12_isWay iX12_isWay sX12_isWay kX12_98 (hl.n (k := 45) (by decide)) (hl.k (k := 45) (by decide)) (by decide) rfl rfl (t_X12_isWay_in (σ := (zuX σ 45 (upd (zX σ 45) 31 (nI 0)))) H hi) rfl rfl (by decide) (by decide) (Nat.le_of_ble_eq_true rfl) (by decide) (by decide) ?_
  refine Z.if_eqN B dX12_act_10 (tgt := 22) rfl (by omega) (fun h10 => by exfalso; first | omega | contradiction | simp_all) (fun h10 => ?_)
  refine Z.iload_n B dX12_act_13 (x := nI 1) rfl ?_
  refine Z.if_ltN B dX12_act_14 (tgt := 22) rfl (by omega) ?_
  refine Z.iload_n B dX12_act_17 (x := nI 1) rfl ?_
  refine Z.iconst B dX12_act_18 (v := nI 2) rfl ?_
  refine Z.icmp_leN B dX12_act_19 (tgt := 24) rfl (by omega) (by omega) (fun h19 => ?_) (fun h19 => by exfalso; first | omega | contradiction | simp_all)
  refine Z.iload_n B dX12_act_24 (x := nI 1) rfl ?_
  refine Z.if_neN B dX12_act_25 (tgt := 37) rfl (by omega) (fun h25 => ?_) (fun h25 => by exfalso; first | omega | contradiction | simp_all)
  refine Z.iload_n B dX12_act_37 (x := nI 1) rfl ?_
  refine Z.iconst B dX12_act_38 (v := nI 1) rfl ?_
  refine Z.icmp_neN B dX12_act_39 (tgt := 51) rfl (by omega) (by omega) (fun h39 => by exfalso; first | omega | contradiction | simp_all) (fun h39 => ?_)
  refine Z.aload_n B dX12_act_42 (v := .ref 45) rfl rfl ?_
  refine Z.iload_n B dX12_act_43 (x := nI i) rfl ?_
  refine Z.iload_n B dX12_act_44 (x := x) rfl ?_
  refine Z.callVI (σ := (zuX σ 45 (upd (zX σ 45) 31 (nI 0)))) B (M' := mX12_asks) (as := [.int (nI i), .int x]) (st := []) (v := .int (((x + nI i) * nI 2) * nI 2)) dX12_act_45 wX12_asks iX12_asks sX12_asks kX12_236 (hl.n (k := 45) (by decide)) (hl.k (k := 45) (by decide)) (by decide) rfl rfl (t_X12_asks_5 (σ := (zuX σ 45 (upd (zX σ 45) 31 (nI 0)))) hl (w := i) (pa := pa) (r := 0) (x := x) hw rfl (by decide)) rfl rfl (by decide) (by decide) (Nat.le_of_ble_eq_true rfl) (by decide) (by decide) ?_
  refine Z.eqσ (τ := (zuX (zuX σ 45 (upd (zX σ 45) 31 (nI (0 + 3)))) 65 (upd (upd (upd (zX σ 65) (0) (nI 11)) (0 + 1) (nI 60)) (0 + 2) (nI 10)))) (by rw [show zX (zuX σ 45 (upd (zX σ 45) 31 (nI 0))) 45 = upd (zX σ 45) 31 (nI 0) from rfl, upd_upd, zuX_sw (by decide)]; try rfl) ?_
  refine Z.goto B dX12_act_48 (tgt := 57) rfl ?_
  refine Z.iret B Rt dX12_act_57 (ty := .int) rfl rfl (by decide) (by decide) ?_
  exact ⟨rfl, rfl⟩

theorem t_K_act_sums_5 {σ : zSt} (hl : Lay σ) {n a y : Nat} (H : zHd σ n a y) {i q pa num : Nat} (hi : i < y) (hq : zR σ 24 i = some q) (hw : zWo σ q 5 pa num) {x : Int32} : Dt mX11_act [.ref 0, .int (nI i), .int (nI 2), .int x] σ (some (.int ((((x + nI num) * nI 2) * nI 2) ^^^ (((x - nI pa) + nI num) * nI 2)))) (zuX (zuX σ 18 (upd (zX σ 18) 1 (nI (0 + 6)))) 19 (upd (upd (upd (upd (upd (upd (zX σ 19) (0) (nI 12)) (0 + 1) (nI 11)) (0 + 2) (nI 60)) (0 + 3) (nI 10)) (0 + 4) (nI 60)) (0 + 5) (nI 10))) := by
  refine Dt.of (by decide) (Nat.le_of_ble_eq_true rfl) fun κ B Rt => ?_
  show Z κ 0 0 σ 0 [(0, .ref 0), (1, .int (nI i)), (2, .int (nI 2)), (3, .int x)] []
  refine Z.aload_n B dX11_act_0 (v := .ref 0) rfl rfl ?_
  refine Z.getR (σ := σ) B fX11_19_11 dX11_act_1 (hl.n (k := 0) (by decide)) (hl.k (k := 0) (by decide)) (by decide) (j := 18) (hl.r (k := 0) (f := 1) (by decide) (by decide)) ?_
  refine Z.callVN (σ := σ) B (M' := mX8_begin) (as := []) (st := []) dX11_act_4 wX8_begin iX8_begin sX8_begin kX11_280 (hl.n (k := 18) (by decide)) (hl.k (k := 18) (by decide)) (by decide) rfl rfl (t_X8_begin (σ := σ) hl) rfl rfl (by decide) (by decide) (Nat.le_of_ble_eq_true rfl) (by decide) (by decide) ?_
  refine Z.eqσ (τ := (zuX σ 18 (upd (zX σ 18) 1 (nI 0)))) rfl ?_
  refine Z.aload_n B dX11_act_7 (v := .ref 0) rfl rfl ?_
  refine Z.getR (σ := (zuX σ 18 (upd (zX σ 18) 1 (nI 0)))) B fX11_28_11 dX11_act_8 (hl.n (k := 0) (by decide)) (hl.k (k := 0) (by decide)) (by decide) (j := 20) (hl.r (k := 0) (f := 2) (by decide) (by decide)) ?_
  refine Z.iload_n B dX11_act_11 (x := nI i) rfl ?_
  refine Z.callVI (σ := (zuX σ 18 (upd (zX σ 18) 1 (nI 0)))) B (M' := mX1_wayAt) (as := [.int (nI i)]) (st := []) (v := .ref q) dX11_act_12 wX1_wayAt iX1_wayAt sX1_wayAt kX11_102 (hl.n (k := 20) (by decide)) (hl.k (k := 20) (by decide)) (by decide) rfl rfl (t_X1_wayAt_in (σ := (zuX σ 18 (upd (zX σ 18) 1 (nI 0)))) H hi hq) rfl rfl (by decide) (by decide) (Nat.le_of_ble_eq_true rfl) (by decide) (by decide) ?_
  refine Z.astore B dX11_act_15 (by decide) rfl (L' := [(0, .ref 0), (1, .int (nI i)), (2, .int (nI 2)), (3, .int x), (4, .ref q)]) rfl ?_
  refine Z.aload B dX11_act_17 (v := .ref q) rfl rfl ?_
  refine Z.ifnonnull_r B dX11_act_19 (tgt := 24) rfl ?_
  refine Z.iload_n B dX11_act_24 (x := nI 2) rfl ?_
  refine Z.tabIn B dX11_act_25 (by decide) (by decide) (off := 41) (by decide) (tgt := 66) rfl ?_
  refine Z.aload B dX11_act_66 (v := .ref q) rfl rfl ?_
  refine Z.iload_n B dX11_act_68 (x := x) rfl ?_
  refine Z.callUI (σ := (zuX σ 18 (upd (zX σ 18) 1 (nI 0)))) B (M' := mX9_sums) (as := [.int x]) (st := []) (v := .int ((((x + nI num) * nI 2) * nI 2) ^^^ (((x - nI pa) + nI num) * nI 2))) dX11_act_69 wX9_sums iX9_sums (x := yX9_sums) (owner := "FourAskOne$Way") kX11_289 (zT_at 1031 (by decide +kernel) rfl) iX9_sums wX9_sums.1 (by decide +kernel) hw.1 hw.2.1 (by decide) rfl (zT_at 1044 (by decide +kernel) rfl) (t_C_X9_sums_5 (σ := (zuX σ 18 (upd (zX σ 18) 1 (nI 0)))) hl (q := q) (r := 0) (x := x) (hw.uX (by decide)) rfl (by decide)) rfl rfl (by decide) (by decide) (Nat.le_of_ble_eq_true rfl) (by decide) (by decide) ?_
  refine Z.eqσ (τ := (zuX (zuX σ 18 (upd (zX σ 18) 1 (nI (0 + 6)))) 19 (upd (upd (upd (upd (upd (upd (zX σ 19) (0) (nI 12)) (0 + 1) (nI 11)) (0 + 2) (nI 60)) (0 + 3) (nI 10)) (0 + 4) (nI 60)) (0 + 5) (nI 10)))) (by rw [show zX (zuX σ 18 (upd (zX σ 18) 1 (nI 0))) 18 = upd (zX σ 18) 1 (nI 0) from rfl, upd_upd, zuX_sw (by decide)]; try rfl) ?_
  refine Z.iret B Rt dX11_act_72 (ty := .int) rfl rfl (by decide) (by decide) ?_
  exact ⟨rfl, rfl⟩

theorem t_M_act_sums_5 {σ : zSt} (hl : Lay σ) {n a y : Nat} (H : zMd σ n a y) {i pa : Nat} (hi : i < y) (hw : zMy σ i 5 pa) {x : Int32} : Dt mX12_act [.ref 45, .int (nI i), .int (nI 2), .int x] σ (some (.int ((((x + nI i) * nI 2) * nI 2) ^^^ (((x - nI pa) + nI i) * nI 2)))) (zuX (zuX σ 45 (upd (zX σ 45) 31 (nI (0 + 6)))) 65 (upd (upd (upd (upd (upd (upd (zX σ 65) (0) (nI 12)) (0 + 1) (nI 11)) (0 + 2) (nI 60)) (0 + 3) (nI 10)) (0 + 4) (nI 60)) (0 + 5) (nI 10))) := by
  refine Dt.of (by decide) (Nat.le_of_ble_eq_true rfl) fun κ B Rt => ?_
  show Z κ 0 0 σ 0 [(0, .ref 45), (1, .int (nI i)), (2, .int (nI 2)), (3, .int x)] []
  refine Z.aload_n B dX12_act_0 (v := .ref 45) rfl rfl ?_
  refine Z.iconst B dX12_act_1 (v := nI 0) rfl ?_
  refine Z.putI (σ := σ) B fX12_226_12 (ty := .int) ⟨_, _, _, rfl, rfl, by decide +kernel⟩ dX12_act_2 (hl.n (k := 45) (by decide)) (hl.k (k := 45) (by decide)) (by decide) rfl rfl (τ := (zuX σ 45 (upd (zX σ 45) 31 (nI 0)))) rfl ?_
  refine Z.aload_n B dX12_act_5 (v := .ref 45) rfl rfl ?_
  refine Z.iload_n B dX12_act_6 (x := nI i) rfl ?_
  refine Z.callVI (σ := (zuX σ 45 (upd (zX σ 45) 31 (nI 0)))) B (M' := mX12_isWay) (as := [.int (nI i)]) (st := []) (v := .int (nI 1)) dX12_act_7 wX12_isWay iX12_isWay sX12_isWay kX12_98 (hl.n (k := 45) (by decide)) (hl.k (k := 45) (by decide)) (by decide) rfl rfl (t_X12_isWay_in (σ := (zuX σ 45 (upd (zX σ 45) 31 (nI 0)))) H hi) rfl rfl (by decide) (by decide) (Nat.le_of_ble_eq_true rfl) (by decide) (by decide) ?_
  refine Z.if_eqN B dX12_act_10 (tgt := 22) rfl (by omega) (fun h10 => by exfalso; first | omega | contradiction | simp_all) (fun h10 => ?_)
  refine Z.iload_n B dX12_act_13 (x := nI 2) rfl ?_
  refine Z.if_ltN B dX12_act_14 (tgt := 22) rfl (by omega) ?_
  refine Z.iload_n B dX12_act_17 (x := nI 2) rfl ?_
  refine Z.iconst B dX12_act_18 (v := nI 2) rfl ?_
  refine Z.icmp_leN B dX12_act_19 (tgt := 24) rfl (by omega) (by omega) (fun h19 => ?_) (fun h19 => by exfalso; first | omega | contradiction | simp_all)
  refine Z.iload_n B dX12_act_24 (x := nI 2) rfl ?_
  refine Z.if_neN B dX12_act_25 (tgt := 37) rfl (by omega) (fun h25 => ?_) (fun h25 => by exfalso; first | omega | contradiction | simp_all)
  refine Z.iload_n B dX12_act_37 (x := nI 2) rfl ?_
  refine Z.iconst B dX12_act_38 (v := nI 1) rfl ?_
  refine Z.icmp_neN B dX12_act_39 (tgt := 51) rfl (by omega) (by omega) (fun h39 => ?_) (fun h39 => by exfalso; first | omega | contradiction | simp_all)
  refine Z.aload_n B dX12_act_51 (v := .ref 45) rfl rfl ?_
  refine Z.iload_n B dX12_act_52 (x := nI i) rfl ?_
  refine Z.iload_n B dX12_act_53 (x := x) rfl ?_
  refine Z.callVI (σ := (zuX σ 45 (upd (zX σ 45) 31 (nI 0)))) B (M' := mX12_sums) (as := [.int (nI i), .int x]) (st := []) (v := .int ((((x + nI i) * nI 2) * nI 2) ^^^ (((x - nI pa) + nI i) * nI 2))) dX12_act_54 wX12_sums iX12_sums sX12_sums kX12_239 (hl.n (k := 45) (by decide)) (hl.k (k := 45) (by decide)) (by decide) rfl rfl (t_X12_sums_5 (σ := (zuX σ 45 (upd (zX σ 45) 31 (nI 0)))) hl (w := i) (pa := pa) (r := 0) (x := x) hw rfl (by decide)) rfl rfl (by decide) (by decide) (Nat.le_of_ble_eq_true rfl) (by decide) (by decide) ?_
  refine Z.eqσ (τ := (zuX (zuX σ 45 (upd (zX σ 45) 31 (nI (0 + 6)))) 65 (upd (upd (upd (upd (upd (upd (zX σ 65) (0) (nI 12)) (0 + 1) (nI 11)) (0 + 2) (nI 60)) (0 + 3) (nI 10)) (0 + 4) (nI 60)) (0 + 5) (nI 10)))) (by rw [show zX (zuX σ 45 (upd (zX σ 45) 31 (nI 0))) 45 = upd (zX σ 45) 31 (nI 0) from rfl, upd_upd, zuX_sw (by decide)]; try rfl) ?_
  refine Z.iret B Rt dX12_act_57 (ty := .int) rfl rfl (by decide) (by decide) ?_
  exact ⟨rfl, rfl⟩

theorem t_K_act_feels_6 {σ : zSt} (hl : Lay σ) {n a y : Nat} (H : zHd σ n a y) {i q pa num : Nat} (hi : i < y) (hq : zR σ 24 i = some q) (hw : zWo σ q 6 pa num) {x : Int32} : Dt mX11_act [.ref 0, .int (nI i), .int (nI 0), .int x] σ (some (.int ((x + nI num) * nI 2))) (zuX (zuX σ 18 (upd (zX σ 18) 1 (nI (0 + 2)))) 19 (upd (upd (zX σ 19) (0) (nI 60)) (0 + 1) (nI 10))) := by
  refine Dt.of (by decide) (Nat.le_of_ble_eq_true rfl) fun κ B Rt => ?_
  show Z κ 0 0 σ 0 [(0, .ref 0), (1, .int (nI i)), (2, .int (nI 0)), (3, .int x)] []
  refine Z.aload_n B dX11_act_0 (v := .ref 0) rfl rfl ?_
  refine Z.getR (σ := σ) B fX11_19_11 dX11_act_1 (hl.n (k := 0) (by decide)) (hl.k (k := 0) (by decide)) (by decide) (j := 18) (hl.r (k := 0) (f := 1) (by decide) (by decide)) ?_
  refine Z.callVN (σ := σ) B (M' := mX8_begin) (as := []) (st := []) dX11_act_4 wX8_begin iX8_begin sX8_begin kX11_280 (hl.n (k := 18) (by decide)) (hl.k (k := 18) (by decide)) (by decide) rfl rfl (t_X8_begin (σ := σ) hl) rfl rfl (by decide) (by decide) (Nat.le_of_ble_eq_true rfl) (by decide) (by decide) ?_
  refine Z.eqσ (τ := (zuX σ 18 (upd (zX σ 18) 1 (nI 0)))) rfl ?_
  refine Z.aload_n B dX11_act_7 (v := .ref 0) rfl rfl ?_
  refine Z.getR (σ := (zuX σ 18 (upd (zX σ 18) 1 (nI 0)))) B fX11_28_11 dX11_act_8 (hl.n (k := 0) (by decide)) (hl.k (k := 0) (by decide)) (by decide) (j := 20) (hl.r (k := 0) (f := 2) (by decide) (by decide)) ?_
  refine Z.iload_n B dX11_act_11 (x := nI i) rfl ?_
  refine Z.callVI (σ := (zuX σ 18 (upd (zX σ 18) 1 (nI 0)))) B (M' := mX1_wayAt) (as := [.int (nI i)]) (st := []) (v := .ref q) dX11_act_12 wX1_wayAt iX1_wayAt sX1_wayAt kX11_102 (hl.n (k := 20) (by decide)) (hl.k (k := 20) (by decide)) (by decide) rfl rfl (t_X1_wayAt_in (σ := (zuX σ 18 (upd (zX σ 18) 1 (nI 0)))) H hi hq) rfl rfl (by decide) (by decide) (Nat.le_of_ble_eq_true rfl) (by decide) (by decide) ?_
  refine Z.astore B dX11_act_15 (by decide) rfl (L' := [(0, .ref 0), (1, .int (nI i)), (2, .int (nI 0)), (3, .int x), (4, .ref q)]) rfl ?_
  refine Z.aload B dX11_act_17 (v := .ref q) rfl rfl ?_
  refine Z.ifnonnull_r B dX11_act_19 (tgt := 24) rfl ?_
  refine Z.iload_n B dX11_act_24 (x := nI 0) rfl ?_
  refine Z.tabIn B dX11_act_25 (by decide) (by decide) (off := 27) (by decide) (tgt := 52) rfl ?_
  refine Z.aload B dX11_act_52 (v := .ref q) rfl rfl ?_
  refine Z.iload_n B dX11_act_54 (x := x) rfl ?_
  refine Z.callUI (σ := (zuX σ 18 (upd (zX σ 18) 1 (nI 0)))) B (M' := mX5_feels) (as := [.int x]) (st := []) (v := .int ((x + nI num) * nI 2)) dX11_act_55 wX5_feels iX5_feels (x := yX9_feels) (owner := "FourAskOne$Way") kX11_283 (zT_at 981 (by decide +kernel) rfl) iX9_feels wX9_feels.1 (by decide +kernel) hw.1 hw.2.1 (by decide) rfl (zT_at 982 (by decide +kernel) rfl) (t_C_X5_feels_6 (σ := (zuX σ 18 (upd (zX σ 18) 1 (nI 0)))) hl (q := q) (r := 0) (x := x) (hw.uX (by decide)) rfl (by decide)) rfl rfl (by decide) (by decide) (Nat.le_of_ble_eq_true rfl) (by decide) (by decide) ?_
  refine Z.eqσ (τ := (zuX (zuX σ 18 (upd (zX σ 18) 1 (nI (0 + 2)))) 19 (upd (upd (zX σ 19) (0) (nI 60)) (0 + 1) (nI 10)))) (by rw [show zX (zuX σ 18 (upd (zX σ 18) 1 (nI 0))) 18 = upd (zX σ 18) 1 (nI 0) from rfl, upd_upd, zuX_sw (by decide)]; try rfl) ?_
  refine Z.iret B Rt dX11_act_58 (ty := .int) rfl rfl (by decide) (by decide) ?_
  exact ⟨rfl, rfl⟩

theorem t_M_act_feels_6 {σ : zSt} (hl : Lay σ) {n a y : Nat} (H : zMd σ n a y) {i pa : Nat} (hi : i < y) (hw : zMy σ i 6 pa) {x : Int32} : Dt mX12_act [.ref 45, .int (nI i), .int (nI 0), .int x] σ (some (.int ((x + nI i) * nI 2))) (zuX (zuX σ 45 (upd (zX σ 45) 31 (nI (0 + 2)))) 65 (upd (upd (zX σ 65) (0) (nI 60)) (0 + 1) (nI 10))) := by
  refine Dt.of (by decide) (Nat.le_of_ble_eq_true rfl) fun κ B Rt => ?_
  show Z κ 0 0 σ 0 [(0, .ref 45), (1, .int (nI i)), (2, .int (nI 0)), (3, .int x)] []
  refine Z.aload_n B dX12_act_0 (v := .ref 45) rfl rfl ?_
  refine Z.iconst B dX12_act_1 (v := nI 0) rfl ?_
  refine Z.putI (σ := σ) B fX12_226_12 (ty := .int) ⟨_, _, _, rfl, rfl, by decide +kernel⟩ dX12_act_2 (hl.n (k := 45) (by decide)) (hl.k (k := 45) (by decide)) (by decide) rfl rfl (τ := (zuX σ 45 (upd (zX σ 45) 31 (nI 0)))) rfl ?_
  refine Z.aload_n B dX12_act_5 (v := .ref 45) rfl rfl ?_
  refine Z.iload_n B dX12_act_6 (x := nI i) rfl ?_
  refine Z.callVI (σ := (zuX σ 45 (upd (zX σ 45) 31 (nI 0)))) B (M' := mX12_isWay) (as := [.int (nI i)]) (st := []) (v := .int (nI 1)) dX12_act_7 wX12_isWay iX12_isWay sX12_isWay kX12_98 (hl.n (k := 45) (by decide)) (hl.k (k := 45) (by decide)) (by decide) rfl rfl (t_X12_isWay_in (σ := (zuX σ 45 (upd (zX σ 45) 31 (nI 0)))) H hi) rfl rfl (by decide) (by decide) (Nat.le_of_ble_eq_true rfl) (by decide) (by decide) ?_
  refine Z.if_eqN B dX12_act_10 (tgt := 22) rfl (by omega) (fun h10 => by exfalso; first | omega | contradiction | simp_all) (fun h10 => ?_)
  refine Z.iload_n B dX12_act_13 (x := nI 0) rfl ?_
  refine Z.if_ltN B dX12_act_14 (tgt := 22) rfl (by omega) ?_
  refine Z.iload_n B dX12_act_17 (x := nI 0) rfl ?_
  refine Z.iconst B dX12_act_18 (v := nI 2) rfl ?_
  refine Z.icmp_leN B dX12_act_19 (tgt := 24) rfl (by omega) (by omega) (fun h19 => ?_) (fun h19 => by exfalso; first | omega | contradiction | simp_all)
  refine Z.iload_n B dX12_act_24 (x := nI 0) rfl ?_
  refine Z.if_neN B dX12_act_25 (tgt := 37) rfl (by omega) (fun h25 => by exfalso; first | omega | contradiction | simp_all) (fun h25 => ?_)
  refine Z.aload_n B dX12_act_28 (v := .ref 45) rfl rfl ?_
  refine Z.iload_n B dX12_act_29 (x := nI i) rfl ?_
  refine Z.iload_n B dX12_act_30 (x := x) rfl ?_
  refine Z.callVI (σ := (zuX σ 45 (upd (zX σ 45) 31 (nI 0)))) B (M' := mX12_feels) (as := [.int (nI i), .int x]) (st := []) (v := .int ((x + nI i) * nI 2)) dX12_act_31 wX12_feels iX12_feels sX12_feels kX12_233 (hl.n (k := 45) (by decide)) (hl.k (k := 45) (by decide)) (by decide) rfl rfl (t_X12_feels_6 (σ := (zuX σ 45 (upd (zX σ 45) 31 (nI 0)))) hl (w := i) (pa := pa) (r := 0) (x := x) hw rfl (by decide)) rfl rfl (by decide) (by decide) (Nat.le_of_ble_eq_true rfl) (by decide) (by decide) ?_
  refine Z.eqσ (τ := (zuX (zuX σ 45 (upd (zX σ 45) 31 (nI (0 + 2)))) 65 (upd (upd (zX σ 65) (0) (nI 60)) (0 + 1) (nI 10)))) (by rw [show zX (zuX σ 45 (upd (zX σ 45) 31 (nI 0))) 45 = upd (zX σ 45) 31 (nI 0) from rfl, upd_upd, zuX_sw (by decide)]; try rfl) ?_
  refine Z.goto B dX12_act_34 (tgt := 57) rfl ?_
  refine Z.iret B Rt dX12_act_57 (ty := .int) rfl rfl (by decide) (by decide) ?_
  exact ⟨rfl, rfl⟩

theorem t_K_act_asks_6 {σ : zSt} (hl : Lay σ) {n a y : Nat} (H : zHd σ n a y) {i q pa num : Nat} (hi : i < y) (hq : zR σ 24 i = some q) (hw : zWo σ q 6 pa num) {x : Int32} : Dt mX11_act [.ref 0, .int (nI i), .int (nI 1), .int x] σ (some (.int ((((x - nI pa) + nI num) * nI 2) * nI 2))) (zuX (zuX σ 18 (upd (zX σ 18) 1 (nI (0 + 4)))) 19 (upd (upd (upd (upd (zX σ 19) (0) (nI 71)) (0 + 1) (nI 11)) (0 + 2) (nI 60)) (0 + 3) (nI 10))) := by
  refine Dt.of (by decide) (Nat.le_of_ble_eq_true rfl) fun κ B Rt => ?_
  show Z κ 0 0 σ 0 [(0, .ref 0), (1, .int (nI i)), (2, .int (nI 1)), (3, .int x)] []
  refine Z.aload_n B dX11_act_0 (v := .ref 0) rfl rfl ?_
  refine Z.getR (σ := σ) B fX11_19_11 dX11_act_1 (hl.n (k := 0) (by decide)) (hl.k (k := 0) (by decide)) (by decide) (j := 18) (hl.r (k := 0) (f := 1) (by decide) (by decide)) ?_
  refine Z.callVN (σ := σ) B (M' := mX8_begin) (as := []) (st := []) dX11_act_4 wX8_begin iX8_begin sX8_begin kX11_280 (hl.n (k := 18) (by decide)) (hl.k (k := 18) (by decide)) (by decide) rfl rfl (t_X8_begin (σ := σ) hl) rfl rfl (by decide) (by decide) (Nat.le_of_ble_eq_true rfl) (by decide) (by decide) ?_
  refine Z.eqσ (τ := (zuX σ 18 (upd (zX σ 18) 1 (nI 0)))) rfl ?_
  refine Z.aload_n B dX11_act_7 (v := .ref 0) rfl rfl ?_
  refine Z.getR (σ := (zuX σ 18 (upd (zX σ 18) 1 (nI 0)))) B fX11_28_11 dX11_act_8 (hl.n (k := 0) (by decide)) (hl.k (k := 0) (by decide)) (by decide) (j := 20) (hl.r (k := 0) (f := 2) (by decide) (by decide)) ?_
  refine Z.iload_n B dX11_act_11 (x := nI i) rfl ?_
  refine Z.callVI (σ := (zuX σ 18 (upd (zX σ 18) 1 (nI 0)))) B (M' := mX1_wayAt) (as := [.int (nI i)]) (st := []) (v := .ref q) dX11_act_12 wX1_wayAt iX1_wayAt sX1_wayAt kX11_102 (hl.n (k := 20) (by decide)) (hl.k (k := 20) (by decide)) (by decide) rfl rfl (t_X1_wayAt_in (σ := (zuX σ 18 (upd (zX σ 18) 1 (nI 0)))) H hi hq) rfl rfl (by decide) (by decide) (Nat.le_of_ble_eq_true rfl) (by decide) (by decide) ?_
  refine Z.astore B dX11_act_15 (by decide) rfl (L' := [(0, .ref 0), (1, .int (nI i)), (2, .int (nI 1)), (3, .int x), (4, .ref q)]) rfl ?_
  refine Z.aload B dX11_act_17 (v := .ref q) rfl rfl ?_
  refine Z.ifnonnull_r B dX11_act_19 (tgt := 24) rfl ?_
  refine Z.iload_n B dX11_act_24 (x := nI 1) rfl ?_
  refine Z.tabIn B dX11_act_25 (by decide) (by decide) (off := 34) (by decide) (tgt := 59) rfl ?_
  refine Z.aload B dX11_act_59 (v := .ref q) rfl rfl ?_
  refine Z.iload_n B dX11_act_61 (x := x) rfl ?_
  refine Z.callUI (σ := (zuX σ 18 (upd (zX σ 18) 1 (nI 0)))) B (M' := mX0_asks) (as := [.int x]) (st := []) (v := .int ((((x - nI pa) + nI num) * nI 2) * nI 2)) dX11_act_62 wX0_asks iX0_asks (x := yX9_asks) (owner := "FourAskOne$Way") kX11_286 (zT_at 1004 (by decide +kernel) rfl) iX9_asks wX9_asks.1 (by decide +kernel) hw.1 hw.2.1 (by decide) rfl (zT_at 1005 (by decide +kernel) rfl) (t_C_X0_asks_6 (σ := (zuX σ 18 (upd (zX σ 18) 1 (nI 0)))) hl (q := q) (r := 0) (x := x) (hw.uX (by decide)) rfl (by decide)) rfl rfl (by decide) (by decide) (Nat.le_of_ble_eq_true rfl) (by decide) (by decide) ?_
  refine Z.eqσ (τ := (zuX (zuX σ 18 (upd (zX σ 18) 1 (nI (0 + 4)))) 19 (upd (upd (upd (upd (zX σ 19) (0) (nI 71)) (0 + 1) (nI 11)) (0 + 2) (nI 60)) (0 + 3) (nI 10)))) (by rw [show zX (zuX σ 18 (upd (zX σ 18) 1 (nI 0))) 18 = upd (zX σ 18) 1 (nI 0) from rfl, upd_upd, zuX_sw (by decide)]; try rfl) ?_
  refine Z.iret B Rt dX11_act_65 (ty := .int) rfl rfl (by decide) (by decide) ?_
  exact ⟨rfl, rfl⟩

theorem t_M_act_asks_6 {σ : zSt} (hl : Lay σ) {n a y : Nat} (H : zMd σ n a y) {i pa : Nat} (hi : i < y) (hw : zMy σ i 6 pa) {x : Int32} : Dt mX12_act [.ref 45, .int (nI i), .int (nI 1), .int x] σ (some (.int ((((x - nI pa) + nI i) * nI 2) * nI 2))) (zuX (zuX σ 45 (upd (zX σ 45) 31 (nI (0 + 4)))) 65 (upd (upd (upd (upd (zX σ 65) (0) (nI 71)) (0 + 1) (nI 11)) (0 + 2) (nI 60)) (0 + 3) (nI 10))) := by
  refine Dt.of (by decide) (Nat.le_of_ble_eq_true rfl) fun κ B Rt => ?_
  show Z κ 0 0 σ 0 [(0, .ref 45), (1, .int (nI i)), (2, .int (nI 1)), (3, .int x)] []
  refine Z.aload_n B dX12_act_0 (v := .ref 45) rfl rfl ?_
  refine Z.iconst B dX12_act_1 (v := nI 0) rfl ?_
  refine Z.putI (σ := σ) B fX12_226_12 (ty := .int) ⟨_, _, _, rfl, rfl, by decide +kernel⟩ dX12_act_2 (hl.n (k := 45) (by decide)) (hl.k (k := 45) (by decide)) (by decide) rfl rfl (τ := (zuX σ 45 (upd (zX σ 45) 31 (nI 0)))) rfl ?_
  refine Z.aload_n B dX12_act_5 (v := .ref 45) rfl rfl ?_
  refine Z.iload_n B dX12_act_6 (x := nI i) rfl ?_
  refine Z.callVI (σ := (zuX σ 45 (upd (zX σ 45) 31 (nI 0)))) B (M' := mX12_isWay) (as := [.int (nI i)]) (st := []) (v := .int (nI 1)) dX12_act_7 wX12_isWay iX12_isWay sX12_isWay kX12_98 (hl.n (k := 45) (by decide)) (hl.k (k := 45) (by decide)) (by decide) rfl rfl (t_X12_isWay_in (σ := (zuX σ 45 (upd (zX σ 45) 31 (nI 0)))) H hi) rfl rfl (by decide) (by decide) (Nat.le_of_ble_eq_true rfl) (by decide) (by decide) ?_
  refine Z.if_eqN B dX12_act_10 (tgt := 22) rfl (by omega) (fun h10 => by exfalso; first | omega | contradiction | simp_all) (fun h10 => ?_)
  refine Z.iload_n B dX12_act_13 (x := nI 1) rfl ?_
  refine Z.if_ltN B dX12_act_14 (tgt := 22) rfl (by omega) ?_
  refine Z.iload_n B dX12_act_17 (x := nI 1) rfl ?_
  refine Z.iconst B dX12_act_18 (v := nI 2) rfl ?_
  refine Z.icmp_leN B dX12_act_19 (tgt := 24) rfl (by omega) (by omega) (fun h19 => ?_) (fun h19 => by exfalso; first | omega | contradiction | simp_all)
  refine Z.iload_n B dX12_act_24 (x := nI 1) rfl ?_
  refine Z.if_neN B dX12_act_25 (tgt := 37) rfl (by omega) (fun h25 => ?_) (fun h25 => by exfalso; first | omega | contradiction | simp_all)
  refine Z.iload_n B dX12_act_37 (x := nI 1) rfl ?_
  refine Z.iconst B dX12_act_38 (v := nI 1) rfl ?_
  refine Z.icmp_neN B dX12_act_39 (tgt := 51) rfl (by omega) (by omega) (fun h39 => by exfalso; first | omega | contradiction | simp_all) (fun h39 => ?_)
  refine Z.aload_n B dX12_act_42 (v := .ref 45) rfl rfl ?_
  refine Z.iload_n B dX12_act_43 (x := nI i) rfl ?_
  refine Z.iload_n B dX12_act_44 (x := x) rfl ?_
  refine Z.callVI (σ := (zuX σ 45 (upd (zX σ 45) 31 (nI 0)))) B (M' := mX12_asks) (as := [.int (nI i), .int x]) (st := []) (v := .int ((((x - nI pa) + nI i) * nI 2) * nI 2)) dX12_act_45 wX12_asks iX12_asks sX12_asks kX12_236 (hl.n (k := 45) (by decide)) (hl.k (k := 45) (by decide)) (by decide) rfl rfl (t_X12_asks_6 (σ := (zuX σ 45 (upd (zX σ 45) 31 (nI 0)))) hl (w := i) (pa := pa) (r := 0) (x := x) hw rfl (by decide)) rfl rfl (by decide) (by decide) (Nat.le_of_ble_eq_true rfl) (by decide) (by decide) ?_
  refine Z.eqσ (τ := (zuX (zuX σ 45 (upd (zX σ 45) 31 (nI (0 + 4)))) 65 (upd (upd (upd (upd (zX σ 65) (0) (nI 71)) (0 + 1) (nI 11)) (0 + 2) (nI 60)) (0 + 3) (nI 10)))) (by rw [show zX (zuX σ 45 (upd (zX σ 45) 31 (nI 0))) 45 = upd (zX σ 45) 31 (nI 0) from rfl, upd_upd, zuX_sw (by decide)]; try rfl) ?_
  refine Z.goto B dX12_act_48 (tgt := 57) rfl ?_
  refine Z.iret B Rt dX12_act_57 (ty := .int) rfl rfl (by decide) (by decide) ?_
  exact ⟨rfl, rfl⟩

theorem t_K_act_sums_6 {σ : zSt} (hl : Lay σ) {n a y : Nat} (H : zHd σ n a y) {i q pa num : Nat} (hi : i < y) (hq : zR σ 24 i = some q) (hw : zWo σ q 6 pa num) {x : Int32} : Dt mX11_act [.ref 0, .int (nI i), .int (nI 2), .int x] σ (some (.int ((((((x - nI pa) + nI num) * nI 2) * nI 2) ^^^ (((x - nI pa) + nI num) * nI 2)) ^^^ nI 5))) (zuX (zuX σ 18 (upd (zX σ 18) 1 (nI (0 + 8)))) 19 (upd (upd (upd (upd (upd (upd (upd (upd (zX σ 19) (0) (nI 70)) (0 + 1) (nI 12)) (0 + 2) (nI 71)) (0 + 3) (nI 11)) (0 + 4) (nI 60)) (0 + 5) (nI 10)) (0 + 6) (nI 60)) (0 + 7) (nI 10))) := by
  refine Dt.of (by decide) (Nat.le_of_ble_eq_true rfl) fun κ B Rt => ?_
  show Z κ 0 0 σ 0 [(0, .ref 0), (1, .int (nI i)), (2, .int (nI 2)), (3, .int x)] []
  refine Z.aload_n B dX11_act_0 (v := .ref 0) rfl rfl ?_
  refine Z.getR (σ := σ) B fX11_19_11 dX11_act_1 (hl.n (k := 0) (by decide)) (hl.k (k := 0) (by decide)) (by decide) (j := 18) (hl.r (k := 0) (f := 1) (by decide) (by decide)) ?_
  refine Z.callVN (σ := σ) B (M' := mX8_begin) (as := []) (st := []) dX11_act_4 wX8_begin iX8_begin sX8_begin kX11_280 (hl.n (k := 18) (by decide)) (hl.k (k := 18) (by decide)) (by decide) rfl rfl (t_X8_begin (σ := σ) hl) rfl rfl (by decide) (by decide) (Nat.le_of_ble_eq_true rfl) (by decide) (by decide) ?_
  refine Z.eqσ (τ := (zuX σ 18 (upd (zX σ 18) 1 (nI 0)))) rfl ?_
  refine Z.aload_n B dX11_act_7 (v := .ref 0) rfl rfl ?_
  refine Z.getR (σ := (zuX σ 18 (upd (zX σ 18) 1 (nI 0)))) B fX11_28_11 dX11_act_8 (hl.n (k := 0) (by decide)) (hl.k (k := 0) (by decide)) (by decide) (j := 20) (hl.r (k := 0) (f := 2) (by decide) (by decide)) ?_
  refine Z.iload_n B dX11_act_11 (x := nI i) rfl ?_
  refine Z.callVI (σ := (zuX σ 18 (upd (zX σ 18) 1 (nI 0)))) B (M' := mX1_wayAt) (as := [.int (nI i)]) (st := []) (v := .ref q) dX11_act_12 wX1_wayAt iX1_wayAt sX1_wayAt kX11_102 (hl.n (k := 20) (by decide)) (hl.k (k := 20) (by decide)) (by decide) rfl rfl (t_X1_wayAt_in (σ := (zuX σ 18 (upd (zX σ 18) 1 (nI 0)))) H hi hq) rfl rfl (by decide) (by decide) (Nat.le_of_ble_eq_true rfl) (by decide) (by decide) ?_
  refine Z.astore B dX11_act_15 (by decide) rfl (L' := [(0, .ref 0), (1, .int (nI i)), (2, .int (nI 2)), (3, .int x), (4, .ref q)]) rfl ?_
  refine Z.aload B dX11_act_17 (v := .ref q) rfl rfl ?_
  refine Z.ifnonnull_r B dX11_act_19 (tgt := 24) rfl ?_
  refine Z.iload_n B dX11_act_24 (x := nI 2) rfl ?_
  refine Z.tabIn B dX11_act_25 (by decide) (by decide) (off := 41) (by decide) (tgt := 66) rfl ?_
  refine Z.aload B dX11_act_66 (v := .ref q) rfl rfl ?_
  refine Z.iload_n B dX11_act_68 (x := x) rfl ?_
  refine Z.callUI (σ := (zuX σ 18 (upd (zX σ 18) 1 (nI 0)))) B (M' := mX0_sums) (as := [.int x]) (st := []) (v := .int ((((((x - nI pa) + nI num) * nI 2) * nI 2) ^^^ (((x - nI pa) + nI num) * nI 2)) ^^^ nI 5)) dX11_act_69 wX0_sums iX0_sums (x := yX9_sums) (owner := "FourAskOne$Way") kX11_289 (zT_at 1031 (by decide +kernel) rfl) iX9_sums wX9_sums.1 (by decide +kernel) hw.1 hw.2.1 (by decide) rfl (zT_at 1032 (by decide +kernel) rfl) (t_C_X0_sums_6 (σ := (zuX σ 18 (upd (zX σ 18) 1 (nI 0)))) hl (q := q) (r := 0) (x := x) (hw.uX (by decide)) rfl (by decide)) rfl rfl (by decide) (by decide) (Nat.le_of_ble_eq_true rfl) (by decide) (by decide) ?_
  refine Z.eqσ (τ := (zuX (zuX σ 18 (upd (zX σ 18) 1 (nI (0 + 8)))) 19 (upd (upd (upd (upd (upd (upd (upd (upd (zX σ 19) (0) (nI 70)) (0 + 1) (nI 12)) (0 + 2) (nI 71)) (0 + 3) (nI 11)) (0 + 4) (nI 60)) (0 + 5) (nI 10)) (0 + 6) (nI 60)) (0 + 7) (nI 10)))) (by rw [show zX (zuX σ 18 (upd (zX σ 18) 1 (nI 0))) 18 = upd (zX σ 18) 1 (nI 0) from rfl, upd_upd, zuX_sw (by decide)]; try rfl) ?_
  refine Z.iret B Rt dX11_act_72 (ty := .int) rfl rfl (by decide) (by decide) ?_
  exact ⟨rfl, rfl⟩

theorem t_M_act_sums_6 {σ : zSt} (hl : Lay σ) {n a y : Nat} (H : zMd σ n a y) {i pa : Nat} (hi : i < y) (hw : zMy σ i 6 pa) {x : Int32} : Dt mX12_act [.ref 45, .int (nI i), .int (nI 2), .int x] σ (some (.int ((((((x - nI pa) + nI i) * nI 2) * nI 2) ^^^ (((x - nI pa) + nI i) * nI 2)) ^^^ nI 5))) (zuX (zuX σ 45 (upd (zX σ 45) 31 (nI (0 + 8)))) 65 (upd (upd (upd (upd (upd (upd (upd (upd (zX σ 65) (0) (nI 70)) (0 + 1) (nI 12)) (0 + 2) (nI 71)) (0 + 3) (nI 11)) (0 + 4) (nI 60)) (0 + 5) (nI 10)) (0 + 6) (nI 60)) (0 + 7) (nI 10))) := by
  refine Dt.of (by decide) (Nat.le_of_ble_eq_true rfl) fun κ B Rt => ?_
  show Z κ 0 0 σ 0 [(0, .ref 45), (1, .int (nI i)), (2, .int (nI 2)), (3, .int x)] []
  refine Z.aload_n B dX12_act_0 (v := .ref 45) rfl rfl ?_
  refine Z.iconst B dX12_act_1 (v := nI 0) rfl ?_
  refine Z.putI (σ := σ) B fX12_226_12 (ty := .int) ⟨_, _, _, rfl, rfl, by decide +kernel⟩ dX12_act_2 (hl.n (k := 45) (by decide)) (hl.k (k := 45) (by decide)) (by decide) rfl rfl (τ := (zuX σ 45 (upd (zX σ 45) 31 (nI 0)))) rfl ?_
  refine Z.aload_n B dX12_act_5 (v := .ref 45) rfl rfl ?_
  refine Z.iload_n B dX12_act_6 (x := nI i) rfl ?_
  refine Z.callVI (σ := (zuX σ 45 (upd (zX σ 45) 31 (nI 0)))) B (M' := mX12_isWay) (as := [.int (nI i)]) (st := []) (v := .int (nI 1)) dX12_act_7 wX12_isWay iX12_isWay sX12_isWay kX12_98 (hl.n (k := 45) (by decide)) (hl.k (k := 45) (by decide)) (by decide) rfl rfl (t_X12_isWay_in (σ := (zuX σ 45 (upd (zX σ 45) 31 (nI 0)))) H hi) rfl rfl (by decide) (by decide) (Nat.le_of_ble_eq_true rfl) (by decide) (by decide) ?_
  refine Z.if_eqN B dX12_act_10 (tgt := 22) rfl (by omega) (fun h10 => by exfalso; first | omega | contradiction | simp_all) (fun h10 => ?_)
  refine Z.iload_n B dX12_act_13 (x := nI 2) rfl ?_
  refine Z.if_ltN B dX12_act_14 (tgt := 22) rfl (by omega) ?_
  refine Z.iload_n B dX12_act_17 (x := nI 2) rfl ?_
  refine Z.iconst B dX12_act_18 (v := nI 2) rfl ?_
  refine Z.icmp_leN B dX12_act_19 (tgt := 24) rfl (by omega) (by omega) (fun h19 => ?_) (fun h19 => by exfalso; first | omega | contradiction | simp_all)
  refine Z.iload_n B dX12_act_24 (x := nI 2) rfl ?_
  refine Z.if_neN B dX12_act_25 (tgt := 37) rfl (by omega) (fun h25 => ?_) (fun h25 => by exfalso; first | omega | contradiction | simp_all)
  refine Z.iload_n B dX12_act_37 (x := nI 2) rfl ?_
  refine Z.iconst B dX12_act_38 (v := nI 1) rfl ?_
  refine Z.icmp_neN B dX12_act_39 (tgt := 51) rfl (by omega) (by omega) (fun h39 => ?_) (fun h39 => by exfalso; first | omega | contradiction | simp_all)
  refine Z.aload_n B dX12_act_51 (v := .ref 45) rfl rfl ?_
  refine Z.iload_n B dX12_act_52 (x := nI i) rfl ?_
  refine Z.iload_n B dX12_act_53 (x := x) rfl ?_
  refine Z.callVI (σ := (zuX σ 45 (upd (zX σ 45) 31 (nI 0)))) B (M' := mX12_sums) (as := [.int (nI i), .int x]) (st := []) (v := .int ((((((x - nI pa) + nI i) * nI 2) * nI 2) ^^^ (((x - nI pa) + nI i) * nI 2)) ^^^ nI 5)) dX12_act_54 wX12_sums iX12_sums sX12_sums kX12_239 (hl.n (k := 45) (by decide)) (hl.k (k := 45) (by decide)) (by decide) rfl rfl (t_X12_sums_6 (σ := (zuX σ 45 (upd (zX σ 45) 31 (nI 0)))) hl (w := i) (pa := pa) (r := 0) (x := x) hw rfl (by decide)) rfl rfl (by decide) (by decide) (Nat.le_of_ble_eq_true rfl) (by decide) (by decide) ?_
  refine Z.eqσ (τ := (zuX (zuX σ 45 (upd (zX σ 45) 31 (nI (0 + 8)))) 65 (upd (upd (upd (upd (upd (upd (upd (upd (zX σ 65) (0) (nI 70)) (0 + 1) (nI 12)) (0 + 2) (nI 71)) (0 + 3) (nI 11)) (0 + 4) (nI 60)) (0 + 5) (nI 10)) (0 + 6) (nI 60)) (0 + 7) (nI 10)))) (by rw [show zX (zuX σ 45 (upd (zX σ 45) 31 (nI 0))) 45 = upd (zX σ 45) 31 (nI 0) from rfl, upd_upd, zuX_sw (by decide)]; try rfl) ?_
  refine Z.iret B Rt dX12_act_57 (ty := .int) rfl rfl (by decide) (by decide) ?_
  exact ⟨rfl, rfl⟩
