/-! the model's calls, one row for each way that a call can end -/
def zMr (σ : zSt) (s o m : Nat) : Prop := zX σ 54 s = nI 1 ∧ zX σ 55 s = nI o ∧ o ≤ 3 ∧ zX σ 56 s = nI m ∧ m ≤ 160
def zMa (σ : zSt) (s i : Nat) : Prop := zX σ 54 s = nI 2 ∧ zX σ 57 s = nI i ∧ i < 8
def zMn (σ : zSt) (s : Nat) : Prop := zX σ 54 s = nI 0
/-- a stretch of longs set to 0 -/
def zfr (b i : Nat) (f : Nat → Int64) : Nat → Int64 := fun j => if b ≤ j ∧ j < b + i then 0 else f j
theorem zfr_0 {b : Nat} {f : Nat → Int64} : zfr b 0 f = f := by funext j; simp only [zfr]; rw [if_neg (by omega)]
theorem zfr_s {b i : Nat} {f : Nat → Int64} : vp_updL (zfr b i f) (b + i) 0 = zfr b (i + 1) f := by
  funext j
  simp only [vp_updL, zfr]
  by_cases h : j = b + i
  · subst h; rw [if_pos rfl, if_pos (by omega)]
  · rw [if_neg h]
    by_cases h2 : b ≤ j ∧ j < b + i
    · rw [if_pos h2, if_pos (by omega)]
    · rw [if_neg h2, if_neg (by omega)]
theorem cpyL_s {s d : Nat → Int64} {sp dp i : Nat} {v : Int64} (hv : v = s (sp + i)) : vp_updL (va_cpy s d sp dp i) (dp + i) v = va_cpy s d sp dp (i + 1) := by
  subst hv
  funext j
  simp only [vp_updL, va_cpy]
  by_cases h : j = dp + i
  · subst h; rw [if_pos rfl, if_pos (by omega), show dp + i - dp = i by omega]
  · rw [if_neg h]
    by_cases h2 : dp ≤ j ∧ j < dp + i
    · rw [if_pos h2, if_pos (by omega)]
    · rw [if_neg h2, if_neg (by omega)]
theorem cpyL_0 {s d : Nat → Int64} {sp dp : Nat} : va_cpy s d sp dp 0 = d := by
  funext j
  simp only [va_cpy]
  rw [if_neg (by omega)]
def zMf (σ : zSt) (y : Nat) (kdf paf : Nat → Nat) : Prop := ∀ w, w < y → zMy σ w (kdf w) (paf w)

theorem t_M_row_1 {σ : zSt} (hl : Lay σ) {s : Int32} (hs : zOut s 8) {o n : Int32} : Dt mX12_row [.ref 45, .int s, .int o, .int n] σ (some (.int (-1))) (zuX σ 46 (upd (zX σ 46) 1 (zX σ 46 1 + nI 1))) := by
  refine Dt.of (by decide) (Nat.le_of_ble_eq_true rfl) fun κ B Rt => ?_
  show Z κ 0 0 σ 0 [(0, .ref 45), (1, .int s), (2, .int o), (3, .int n)] []
  refine Z.aload_n B dX12_row_0 (v := .ref 45) rfl rfl ?_
  refine Z.iload_n B dX12_row_1 (x := s) rfl ?_
  refine Z.callVI (σ := σ) B (M' := mX12_isShelf) (as := [.int s]) (st := []) (v := .int (nI 0)) dX12_row_2 wX12_isShelf iX12_isShelf sX12_isShelf kX12_90 (hl.n (k := 45) (by decide)) (hl.k (k := 45) (by decide)) (by decide) rfl rfl (t_X12_isShelf_out (σ := σ) hs) rfl rfl (by decide) (by decide) (Nat.le_of_ble_eq_true rfl) (by decide) (by decide) ?_
  refine Z.if_neN B dX12_row_5 (tgt := 14) rfl (by omega) (fun h5 => by exfalso; first | omega | contradiction | simp_all) (fun h5 => ?_)
  refine Z.aload_n B dX12_row_8 (v := .ref 45) rfl rfl ?_
  refine Z.iconst B dX12_row_9 (v := (-1)) rfl ?_
  refine Z.callVI (σ := σ) B (M' := mX12_no) (as := [.int (-1)]) (st := []) (v := .int (-1)) dX12_row_10 wX12_no iX12_no sX12_no kX12_94 (hl.n (k := 45) (by decide)) (hl.k (k := 45) (by decide)) (by decide) rfl rfl (t_X12_no_1 (σ := σ) hl) rfl rfl (by decide) (by decide) (Nat.le_of_ble_eq_true rfl) (by decide) (by decide) ?_
  refine Z.eqσ (τ := (zuX σ 46 (upd (zX σ 46) 1 (zX σ 46 1 + nI 1)))) rfl ?_
  refine Z.iret B Rt dX12_row_13 (ty := .int) rfl rfl (by decide) (by decide) ?_
  exact ⟨rfl, rfl⟩

theorem t_M_row_4 {σ : zSt} (hl : Lay σ) {s : Nat} (hs : s < 8) {o n : Int32} (hn : n < 0) : Dt mX12_row [.ref 45, .int (nI s), .int o, .int n] σ (some (.int (-4))) (zuX σ 46 (upd (zX σ 46) 4 (zX σ 46 4 + nI 1))) := by
  refine Dt.of (by decide) (Nat.le_of_ble_eq_true rfl) fun κ B Rt => ?_
  show Z κ 0 0 σ 0 [(0, .ref 45), (1, .int (nI s)), (2, .int o), (3, .int n)] []
  refine Z.aload_n B dX12_row_0 (v := .ref 45) rfl rfl ?_
  refine Z.iload_n B dX12_row_1 (x := nI s) rfl ?_
  refine Z.callVI (σ := σ) B (M' := mX12_isShelf) (as := [.int (nI s)]) (st := []) (v := .int (nI 1)) dX12_row_2 wX12_isShelf iX12_isShelf sX12_isShelf kX12_90 (hl.n (k := 45) (by decide)) (hl.k (k := 45) (by decide)) (by decide) rfl rfl (t_X12_isShelf_in (σ := σ) hs) rfl rfl (by decide) (by decide) (Nat.le_of_ble_eq_true rfl) (by decide) (by decide) ?_
  refine Z.if_neN B dX12_row_5 (tgt := 14) rfl (by omega) (fun h5 => ?_) (fun h5 => by exfalso; first | omega | contradiction | simp_all)
  refine Z.iload_n B dX12_row_14 (x := n) rfl ?_
  refine Z.if_ge B dX12_row_15 (tgt := 25) rfl (fun h15 => (by exfalso; rw [zle_iff] at h15; rw [zlt_iff] at hn; omega)) (fun h15 => ?_)
  refine Z.aload_n B dX12_row_18 (v := .ref 45) rfl rfl ?_
  refine Z.bipush B dX12_row_19 (v := (-4)) rfl ?_
  refine Z.callVI (σ := σ) B (M' := mX12_no) (as := [.int (-4)]) (st := []) (v := .int (-4)) dX12_row_21 wX12_no iX12_no sX12_no kX12_94 (hl.n (k := 45) (by decide)) (hl.k (k := 45) (by decide)) (by decide) rfl rfl (t_X12_no_4 (σ := σ) hl) rfl rfl (by decide) (by decide) (Nat.le_of_ble_eq_true rfl) (by decide) (by decide) ?_
  refine Z.eqσ (τ := (zuX σ 46 (upd (zX σ 46) 4 (zX σ 46 4 + nI 1)))) rfl ?_
  refine Z.iret B Rt dX12_row_24 (ty := .int) rfl rfl (by decide) (by decide) ?_
  exact ⟨rfl, rfl⟩

theorem t_M_row_6 {σ : zSt} (hl : Lay σ) {s : Nat} (hs : s < 8) {o n : Int32} (hn : ¬ n < 0) (ho : zOut o 4) : Dt mX12_row [.ref 45, .int (nI s), .int o, .int n] σ (some (.int (-6))) (zuX σ 46 (upd (zX σ 46) 6 (zX σ 46 6 + nI 1))) := by
  refine Dt.of (by decide) (Nat.le_of_ble_eq_true rfl) fun κ B Rt => ?_
  show Z κ 0 0 σ 0 [(0, .ref 45), (1, .int (nI s)), (2, .int o), (3, .int n)] []
  refine Z.aload_n B dX12_row_0 (v := .ref 45) rfl rfl ?_
  refine Z.iload_n B dX12_row_1 (x := nI s) rfl ?_
  refine Z.callVI (σ := σ) B (M' := mX12_isShelf) (as := [.int (nI s)]) (st := []) (v := .int (nI 1)) dX12_row_2 wX12_isShelf iX12_isShelf sX12_isShelf kX12_90 (hl.n (k := 45) (by decide)) (hl.k (k := 45) (by decide)) (by decide) rfl rfl (t_X12_isShelf_in (σ := σ) hs) rfl rfl (by decide) (by decide) (Nat.le_of_ble_eq_true rfl) (by decide) (by decide) ?_
  refine Z.if_neN B dX12_row_5 (tgt := 14) rfl (by omega) (fun h5 => ?_) (fun h5 => by exfalso; first | omega | contradiction | simp_all)
  refine Z.iload_n B dX12_row_14 (x := n) rfl ?_
  refine Z.if_ge B dX12_row_15 (tgt := 25) rfl (fun h15 => ?_) (fun h15 => (by exfalso; rw [zle_iff] at h15; rw [zlt_iff] at hn; omega))
  refine Z.iload_n B dX12_row_25 (x := o) rfl ?_
  refine Z.if_lt B dX12_row_26 (tgt := 34) rfl (fun h26 => ?_) (fun h26 => ?_)
  · skip
    refine Z.aload_n B dX12_row_34 (v := .ref 45) rfl rfl ?_
    refine Z.bipush B dX12_row_35 (v := (-6)) rfl ?_
    refine Z.callVI (σ := σ) B (M' := mX12_no) (as := [.int (-6)]) (st := []) (v := .int (-6)) dX12_row_37 wX12_no iX12_no sX12_no kX12_94 (hl.n (k := 45) (by decide)) (hl.k (k := 45) (by decide)) (by decide) rfl rfl (t_X12_no_6 (σ := σ) hl) rfl rfl (by decide) (by decide) (Nat.le_of_ble_eq_true rfl) (by decide) (by decide) ?_
    refine Z.eqσ (τ := (zuX σ 46 (upd (zX σ 46) 6 (zX σ 46 6 + nI 1)))) rfl ?_
    refine Z.iret B Rt dX12_row_40 (ty := .int) rfl rfl (by decide) (by decide) ?_
    exact ⟨rfl, rfl⟩
  · skip
    refine Z.iload_n B dX12_row_29 (x := o) rfl ?_
    refine Z.iconst B dX12_row_30 (v := nI 3) rfl ?_
    refine Z.icmp_le B dX12_row_31 (tgt := 41) rfl (fun h31 => (zo_le ho h26 h31 (by decide)).elim) (fun h31 => ?_)
    refine Z.aload_n B dX12_row_34 (v := .ref 45) rfl rfl ?_
    refine Z.bipush B dX12_row_35 (v := (-6)) rfl ?_
    refine Z.callVI (σ := σ) B (M' := mX12_no) (as := [.int (-6)]) (st := []) (v := .int (-6)) dX12_row_37 wX12_no iX12_no sX12_no kX12_94 (hl.n (k := 45) (by decide)) (hl.k (k := 45) (by decide)) (by decide) rfl rfl (t_X12_no_6 (σ := σ) hl) rfl rfl (by decide) (by decide) (Nat.le_of_ble_eq_true rfl) (by decide) (by decide) ?_
    refine Z.eqσ (τ := (zuX σ 46 (upd (zX σ 46) 6 (zX σ 46 6 + nI 1)))) rfl ?_
    refine Z.iret B Rt dX12_row_40 (ty := .int) rfl rfl (by decide) (by decide) ?_
    exact ⟨rfl, rfl⟩

theorem t_M_row_7 {σ : zSt} (hl : Lay σ) {s : Nat} (hs : s < 8) {o : Nat} {n : Int32} (ho : o < 4) (hn : ¬ n < 0) (hn2 : nI 160 < n) : Dt mX12_row [.ref 45, .int (nI s), .int (nI o), .int n] σ (some (.int (-7))) (zuX σ 46 (upd (zX σ 46) 7 (zX σ 46 7 + nI 1))) := by
  refine Dt.of (by decide) (Nat.le_of_ble_eq_true rfl) fun κ B Rt => ?_
  show Z κ 0 0 σ 0 [(0, .ref 45), (1, .int (nI s)), (2, .int (nI o)), (3, .int n)] []
  refine Z.aload_n B dX12_row_0 (v := .ref 45) rfl rfl ?_
  refine Z.iload_n B dX12_row_1 (x := nI s) rfl ?_
  refine Z.callVI (σ := σ) B (M' := mX12_isShelf) (as := [.int (nI s)]) (st := []) (v := .int (nI 1)) dX12_row_2 wX12_isShelf iX12_isShelf sX12_isShelf kX12_90 (hl.n (k := 45) (by decide)) (hl.k (k := 45) (by decide)) (by decide) rfl rfl (t_X12_isShelf_in (σ := σ) hs) rfl rfl (by decide) (by decide) (Nat.le_of_ble_eq_true rfl) (by decide) (by decide) ?_
  refine Z.if_neN B dX12_row_5 (tgt := 14) rfl (by omega) (fun h5 => ?_) (fun h5 => by exfalso; first | omega | contradiction | simp_all)
  refine Z.iload_n B dX12_row_14 (x := n) rfl ?_
  refine Z.if_ge B dX12_row_15 (tgt := 25) rfl (fun h15 => ?_) (fun h15 => (by exfalso; rw [zle_iff] at h15; rw [zlt_iff] at hn; omega))
  refine Z.iload_n B dX12_row_25 (x := nI o) rfl ?_
  refine Z.if_ltN B dX12_row_26 (tgt := 34) rfl (by omega) ?_
  refine Z.iload_n B dX12_row_29 (x := nI o) rfl ?_
  refine Z.iconst B dX12_row_30 (v := nI 3) rfl ?_
  refine Z.icmp_leN B dX12_row_31 (tgt := 41) rfl (by omega) (by omega) (fun h31 => ?_) (fun h31 => by exfalso; first | omega | contradiction | simp_all)
  refine Z.iload_n B dX12_row_41 (x := n) rfl ?_
  refine Z.sipush B dX12_row_42 (v := nI 160) rfl ?_
  refine Z.icmp_le B dX12_row_45 (tgt := 55) rfl (fun h45 => (by exfalso; rw [zle_iff] at h45; rw [zlt_iff] at hn2; omega)) (fun h45 => ?_)
  refine Z.aload_n B dX12_row_48 (v := .ref 45) rfl rfl ?_
  refine Z.bipush B dX12_row_49 (v := (-7)) rfl ?_
  refine Z.callVI (σ := σ) B (M' := mX12_no) (as := [.int (-7)]) (st := []) (v := .int (-7)) dX12_row_51 wX12_no iX12_no sX12_no kX12_94 (hl.n (k := 45) (by decide)) (hl.k (k := 45) (by decide)) (by decide) rfl rfl (t_X12_no_7 (σ := σ) hl) rfl rfl (by decide) (by decide) (Nat.le_of_ble_eq_true rfl) (by decide) (by decide) ?_
  refine Z.eqσ (τ := (zuX σ 46 (upd (zX σ 46) 7 (zX σ 46 7 + nI 1)))) rfl ?_
  refine Z.iret B Rt dX12_row_54 (ty := .int) rfl rfl (by decide) (by decide) ?_
  exact ⟨rfl, rfl⟩

theorem t_M_row_0 {σ : zSt} (hl : Lay σ) {s : Nat} (hs : s < 8) {o m : Nat} (ho : o < 4) (hm : m ≤ 160) : Dt mX12_row [.ref 45, .int (nI s), .int (nI o), .int (nI m)] σ (some (.int (nI 1))) (zuY (zuX (zuX (zuX σ 54 (upd (zX σ 54) s (nI 1))) 55 (upd (zX σ 55) s (nI o))) 56 (upd (zX σ 56) s (nI m))) 58 (zfr (s * 160) 160 (zY σ 58))) := by
  refine Dt.of (by decide) (Nat.le_of_ble_eq_true rfl) fun κ B Rt => ?_
  show Z κ 0 0 σ 0 [(0, .ref 45), (1, .int (nI s)), (2, .int (nI o)), (3, .int (nI m))] []
  refine Z.aload_n B dX12_row_0 (v := .ref 45) rfl rfl ?_
  refine Z.iload_n B dX12_row_1 (x := nI s) rfl ?_
  refine Z.callVI (σ := σ) B (M' := mX12_isShelf) (as := [.int (nI s)]) (st := []) (v := .int (nI 1)) dX12_row_2 wX12_isShelf iX12_isShelf sX12_isShelf kX12_90 (hl.n (k := 45) (by decide)) (hl.k (k := 45) (by decide)) (by decide) rfl rfl (t_X12_isShelf_in (σ := σ) hs) rfl rfl (by decide) (by decide) (Nat.le_of_ble_eq_true rfl) (by decide) (by decide) ?_
  refine Z.if_neN B dX12_row_5 (tgt := 14) rfl (by omega) (fun h5 => ?_) (fun h5 => by exfalso; first | omega | contradiction | simp_all)
  refine Z.iload_n B dX12_row_14 (x := nI m) rfl ?_
  refine Z.if_geN B dX12_row_15 (tgt := 25) rfl (by omega) ?_
  refine Z.iload_n B dX12_row_25 (x := nI o) rfl ?_
  refine Z.if_ltN B dX12_row_26 (tgt := 34) rfl (by omega) ?_
  refine Z.iload_n B dX12_row_29 (x := nI o) rfl ?_
  refine Z.iconst B dX12_row_30 (v := nI 3) rfl ?_
  refine Z.icmp_leN B dX12_row_31 (tgt := 41) rfl (by omega) (by omega) (fun h31 => ?_) (fun h31 => by exfalso; first | omega | contradiction | simp_all)
  refine Z.iload_n B dX12_row_41 (x := nI m) rfl ?_
  refine Z.sipush B dX12_row_42 (v := nI 160) rfl ?_
  refine Z.icmp_leN B dX12_row_45 (tgt := 55) rfl (by omega) (by omega) (fun h45 => ?_) (fun h45 => by exfalso; first | omega | contradiction | simp_all)
  refine Z.aload_n B dX12_row_55 (v := .ref 45) rfl rfl ?_
  refine Z.getR (σ := σ) B fX12_41_12 dX12_row_56 (hl.n (k := 45) (by decide)) (hl.k (k := 45) (by decide)) (by decide) (j := 54) (hl.r (k := 45) (f := 13) (by decide) (by decide)) ?_
  refine Z.iload_n B dX12_row_59 (x := nI s) rfl ?_
  refine Z.iconst B dX12_row_60 (v := nI 1) rfl ?_
  refine Z.iast (σ := σ) B dX12_row_61 (n := 8) (hl.n (k := 54) (by decide)) (hl.k (k := 54) (by decide)) (hl.l (k := 54) (by decide)) (by decide) (j := s) rfl (by omega) (τ := (zuX σ 54 (upd (zX σ 54) s (nI 1)))) rfl ?_
  refine Z.aload_n B dX12_row_62 (v := .ref 45) rfl rfl ?_
  refine Z.getR (σ := (zuX σ 54 (upd (zX σ 54) s (nI 1)))) B fX12_44_12 dX12_row_63 (hl.n (k := 45) (by decide)) (hl.k (k := 45) (by decide)) (by decide) (j := 55) (hl.r (k := 45) (f := 14) (by decide) (by decide)) ?_
  refine Z.iload_n B dX12_row_66 (x := nI s) rfl ?_
  refine Z.iload_n B dX12_row_67 (x := nI o) rfl ?_
  refine Z.iast (σ := (zuX σ 54 (upd (zX σ 54) s (nI 1)))) B dX12_row_68 (n := 8) (hl.n (k := 55) (by decide)) (hl.k (k := 55) (by decide)) (hl.l (k := 55) (by decide)) (by decide) (j := s) rfl (by omega) (τ := (zuX (zuX σ 54 (upd (zX σ 54) s (nI 1))) 55 (upd (zX σ 55) s (nI o)))) rfl ?_
  refine Z.aload_n B dX12_row_69 (v := .ref 45) rfl rfl ?_
  refine Z.getR (σ := (zuX (zuX σ 54 (upd (zX σ 54) s (nI 1))) 55 (upd (zX σ 55) s (nI o)))) B fX12_47_12 dX12_row_70 (hl.n (k := 45) (by decide)) (hl.k (k := 45) (by decide)) (by decide) (j := 56) (hl.r (k := 45) (f := 15) (by decide) (by decide)) ?_
  refine Z.iload_n B dX12_row_73 (x := nI s) rfl ?_
  refine Z.iload_n B dX12_row_74 (x := nI m) rfl ?_
  refine Z.iast (σ := (zuX (zuX σ 54 (upd (zX σ 54) s (nI 1))) 55 (upd (zX σ 55) s (nI o)))) B dX12_row_75 (n := 8) (hl.n (k := 56) (by decide)) (hl.k (k := 56) (by decide)) (hl.l (k := 56) (by decide)) (by decide) (j := s) rfl (by omega) (τ := (zuX (zuX (zuX σ 54 (upd (zX σ 54) s (nI 1))) 55 (upd (zX σ 55) s (nI o))) 56 (upd (zX σ 56) s (nI m)))) rfl ?_
  refine Z.iconst B dX12_row_76 (v := nI 0) rfl ?_
  refine Z.istore B dX12_row_77 (by decide) (L' := [(0, .ref 45), (1, .int (nI s)), (2, .int (nI o)), (3, .int (nI m)), (4, .int (nI 0))]) rfl ?_
  have hloop79 : ∀ i : Nat, i ≤ 160 → Z κ 0 0 (zuY (zuX (zuX (zuX σ 54 (upd (zX σ 54) s (nI 1))) 55 (upd (zX σ 55) s (nI o))) 56 (upd (zX σ 56) s (nI m))) 58 (zfr (s * 160) i (zY σ 58))) 79 [(0, .ref 45), (1, .int (nI s)), (2, .int (nI o)), (3, .int (nI m)), (4, .int (nI i))] [] := by
    refine z_loop (fun i => 160 - i) (fun i ih hi => ?_)
    refine Z.iload B dX12_row_79 (x := nI i) rfl ?_
    refine Z.sipush B dX12_row_81 (v := nI 160) rfl ?_
    refine Z.icmp_geN B dX12_row_84 (tgt := 107) rfl (by omega) (by omega) (fun h84 => ?_) (fun h84 => ?_)
    · skip
      obtain rfl : 160 = i := by omega
      refine Z.iconst B dX12_row_107 (v := nI 1) rfl ?_
      refine Z.iret B Rt dX12_row_108 (ty := .int) rfl rfl (by decide) (by decide) ?_
      exact ⟨rfl, rfl⟩
    · skip
      refine Z.aload_n B dX12_row_87 (v := .ref 45) rfl rfl ?_
      refine Z.getR (σ := (zuY (zuX (zuX (zuX σ 54 (upd (zX σ 54) s (nI 1))) 55 (upd (zX σ 55) s (nI o))) 56 (upd (zX σ 56) s (nI m))) 58 (zfr (s * 160) i (zY σ 58)))) B fX12_53_12 dX12_row_88 (hl.n (k := 45) (by decide)) (hl.k (k := 45) (by decide)) (by decide) (j := 58) (hl.r (k := 45) (f := 17) (by decide) (by decide)) ?_
      refine Z.sipush B dX12_row_91 (v := nI 160) rfl ?_
      refine Z.iload_n B dX12_row_94 (x := nI s) rfl ?_
      refine Z.imulNc B dX12_row_95 (a := 160) (b := s) ?_
      refine Z.iload B dX12_row_96 (x := nI i) rfl ?_
      refine Z.iaddN B dX12_row_98 (a := s * 160) (b := i) ?_
      refine Z.lconst B dX12_row_99 (v := (0 : Int64)) rfl ?_
      refine Z.last (σ := (zuY (zuX (zuX (zuX σ 54 (upd (zX σ 54) s (nI 1))) 55 (upd (zX σ 55) s (nI o))) 56 (upd (zX σ 56) s (nI m))) 58 (zfr (s * 160) i (zY σ 58)))) B dX12_row_100 (n := 1280) (hl.n (k := 58) (by decide)) (hl.k (k := 58) (by decide)) (hl.l (k := 58) (by decide)) (by decide) (j := (s * 160) + i) rfl (by omega) (τ := (zuY (zuX (zuX (zuX σ 54 (upd (zX σ 54) s (nI 1))) 55 (upd (zX σ 55) s (nI o))) 56 (upd (zX σ 56) s (nI m))) 58 (zfr (s * 160) (i + 1) (zY σ 58)))) (by rw [zY_self, zuY_uY, zfr_s]) ?_
      refine Z.iincN B dX12_row_101 (by decide) (a := i) rfl (L' := [(0, .ref 45), (1, .int (nI s)), (2, .int (nI o)), (3, .int (nI m)), (4, .int (nI (i + 1)))]) rfl ?_
      refine Z.goto B dX12_row_104 (tgt := 79) rfl ?_
      exact ih (i + 1) (by omega) (by omega)
  have h0 := hloop79 0 (Nat.zero_le _)
  rw [zfr_0] at h0
  refine Z.eqσ ?_ h0
  exact (zuY_id (σ := (zuX (zuX (zuX σ 54 (upd (zX σ 54) s (nI 1))) 55 (upd (zX σ 55) s (nI o))) 56 (upd (zX σ 56) s (nI m)))) (k := 58)).symm

theorem t_M_set_1 {σ : zSt} (hl : Lay σ) {s : Int32} (hs : zOut s 8) {i : Int32} {v : Int64} : Dt mX12_set [.ref 45, .int s, .int i, .long v] σ (some (.int (-1))) (zuX σ 46 (upd (zX σ 46) 1 (zX σ 46 1 + nI 1))) := by
  refine Dt.of (by decide) (Nat.le_of_ble_eq_true rfl) fun κ B Rt => ?_
  show Z κ 0 0 σ 0 [(0, .ref 45), (1, .int s), (2, .int i), (3, .long v)] []
  refine Z.aload_n B dX12_set_0 (v := .ref 45) rfl rfl ?_
  refine Z.iload_n B dX12_set_1 (x := s) rfl ?_
  refine Z.callVI (σ := σ) B (M' := mX12_isShelf) (as := [.int s]) (st := []) (v := .int (nI 0)) dX12_set_2 wX12_isShelf iX12_isShelf sX12_isShelf kX12_90 (hl.n (k := 45) (by decide)) (hl.k (k := 45) (by decide)) (by decide) rfl rfl (t_X12_isShelf_out (σ := σ) hs) rfl rfl (by decide) (by decide) (Nat.le_of_ble_eq_true rfl) (by decide) (by decide) ?_
  refine Z.if_neN B dX12_set_5 (tgt := 14) rfl (by omega) (fun h5 => by exfalso; first | omega | contradiction | simp_all) (fun h5 => ?_)
  refine Z.aload_n B dX12_set_8 (v := .ref 45) rfl rfl ?_
  refine Z.iconst B dX12_set_9 (v := (-1)) rfl ?_
  refine Z.callVI (σ := σ) B (M' := mX12_no) (as := [.int (-1)]) (st := []) (v := .int (-1)) dX12_set_10 wX12_no iX12_no sX12_no kX12_94 (hl.n (k := 45) (by decide)) (hl.k (k := 45) (by decide)) (by decide) rfl rfl (t_X12_no_1 (σ := σ) hl) rfl rfl (by decide) (by decide) (Nat.le_of_ble_eq_true rfl) (by decide) (by decide) ?_
  refine Z.eqσ (τ := (zuX σ 46 (upd (zX σ 46) 1 (zX σ 46 1 + nI 1)))) rfl ?_
  refine Z.iret B Rt dX12_set_13 (ty := .int) rfl rfl (by decide) (by decide) ?_
  exact ⟨rfl, rfl⟩

theorem t_M_set_2 {σ : zSt} (hl : Lay σ) {s : Nat} (hs : s < 8) {i8 : Nat} (hh : zMa σ s i8) {i : Int32} {v : Int64} : Dt mX12_set [.ref 45, .int (nI s), .int i, .long v] σ (some (.int (-2))) (zuX σ 46 (upd (zX σ 46) 2 (zX σ 46 2 + nI 1))) := by
  refine Dt.of (by decide) (Nat.le_of_ble_eq_true rfl) fun κ B Rt => ?_
  show Z κ 0 0 σ 0 [(0, .ref 45), (1, .int (nI s)), (2, .int i), (3, .long v)] []
  refine Z.aload_n B dX12_set_0 (v := .ref 45) rfl rfl ?_
  refine Z.iload_n B dX12_set_1 (x := nI s) rfl ?_
  refine Z.callVI (σ := σ) B (M' := mX12_isShelf) (as := [.int (nI s)]) (st := []) (v := .int (nI 1)) dX12_set_2 wX12_isShelf iX12_isShelf sX12_isShelf kX12_90 (hl.n (k := 45) (by decide)) (hl.k (k := 45) (by decide)) (by decide) rfl rfl (t_X12_isShelf_in (σ := σ) hs) rfl rfl (by decide) (by decide) (Nat.le_of_ble_eq_true rfl) (by decide) (by decide) ?_
  refine Z.if_neN B dX12_set_5 (tgt := 14) rfl (by omega) (fun h5 => ?_) (fun h5 => by exfalso; first | omega | contradiction | simp_all)
  refine Z.aload_n B dX12_set_14 (v := .ref 45) rfl rfl ?_
  refine Z.getR (σ := σ) B fX12_41_12 dX12_set_15 (hl.n (k := 45) (by decide)) (hl.k (k := 45) (by decide)) (by decide) (j := 54) (hl.r (k := 45) (f := 13) (by decide) (by decide)) ?_
  refine Z.iload_n B dX12_set_18 (x := nI s) rfl ?_
  refine Z.iald (σ := σ) B dX12_set_19 (n := 8) (hl.n (k := 54) (by decide)) (hl.k (k := 54) (by decide)) (hl.l (k := 54) (by decide)) (by decide) (j := s) rfl (by omega) (v := nI 2) hh.1 ?_
  refine Z.iconst B dX12_set_20 (v := nI 2) rfl ?_
  refine Z.icmp_neN B dX12_set_21 (tgt := 31) rfl (by omega) (by omega) (fun h21 => by exfalso; first | omega | contradiction | simp_all) (fun h21 => ?_)
  refine Z.aload_n B dX12_set_24 (v := .ref 45) rfl rfl ?_
  refine Z.bipush B dX12_set_25 (v := (-2)) rfl ?_
  refine Z.callVI (σ := σ) B (M' := mX12_no) (as := [.int (-2)]) (st := []) (v := .int (-2)) dX12_set_27 wX12_no iX12_no sX12_no kX12_94 (hl.n (k := 45) (by decide)) (hl.k (k := 45) (by decide)) (by decide) rfl rfl (t_X12_no_2 (σ := σ) hl) rfl rfl (by decide) (by decide) (Nat.le_of_ble_eq_true rfl) (by decide) (by decide) ?_
  refine Z.eqσ (τ := (zuX σ 46 (upd (zX σ 46) 2 (zX σ 46 2 + nI 1)))) rfl ?_
  refine Z.iret B Rt dX12_set_30 (ty := .int) rfl rfl (by decide) (by decide) ?_
  exact ⟨rfl, rfl⟩

theorem t_M_set_3 {σ : zSt} (hl : Lay σ) {s : Nat} (hs : s < 8) (hh : zMn σ s) {i : Int32} {v : Int64} : Dt mX12_set [.ref 45, .int (nI s), .int i, .long v] σ (some (.int (-3))) (zuX σ 46 (upd (zX σ 46) 3 (zX σ 46 3 + nI 1))) := by
  refine Dt.of (by decide) (Nat.le_of_ble_eq_true rfl) fun κ B Rt => ?_
  show Z κ 0 0 σ 0 [(0, .ref 45), (1, .int (nI s)), (2, .int i), (3, .long v)] []
  refine Z.aload_n B dX12_set_0 (v := .ref 45) rfl rfl ?_
  refine Z.iload_n B dX12_set_1 (x := nI s) rfl ?_
  refine Z.callVI (σ := σ) B (M' := mX12_isShelf) (as := [.int (nI s)]) (st := []) (v := .int (nI 1)) dX12_set_2 wX12_isShelf iX12_isShelf sX12_isShelf kX12_90 (hl.n (k := 45) (by decide)) (hl.k (k := 45) (by decide)) (by decide) rfl rfl (t_X12_isShelf_in (σ := σ) hs) rfl rfl (by decide) (by decide) (Nat.le_of_ble_eq_true rfl) (by decide) (by decide) ?_
  refine Z.if_neN B dX12_set_5 (tgt := 14) rfl (by omega) (fun h5 => ?_) (fun h5 => by exfalso; first | omega | contradiction | simp_all)
  refine Z.aload_n B dX12_set_14 (v := .ref 45) rfl rfl ?_
  refine Z.getR (σ := σ) B fX12_41_12 dX12_set_15 (hl.n (k := 45) (by decide)) (hl.k (k := 45) (by decide)) (by decide) (j := 54) (hl.r (k := 45) (f := 13) (by decide) (by decide)) ?_
  refine Z.iload_n B dX12_set_18 (x := nI s) rfl ?_
  refine Z.iald (σ := σ) B dX12_set_19 (n := 8) (hl.n (k := 54) (by decide)) (hl.k (k := 54) (by decide)) (hl.l (k := 54) (by decide)) (by decide) (j := s) rfl (by omega) (v := nI 0) hh ?_
  refine Z.iconst B dX12_set_20 (v := nI 2) rfl ?_
  refine Z.icmp_neN B dX12_set_21 (tgt := 31) rfl (by omega) (by omega) (fun h21 => ?_) (fun h21 => by exfalso; first | omega | contradiction | simp_all)
  refine Z.aload_n B dX12_set_31 (v := .ref 45) rfl rfl ?_
  refine Z.getR (σ := σ) B fX12_41_12 dX12_set_32 (hl.n (k := 45) (by decide)) (hl.k (k := 45) (by decide)) (by decide) (j := 54) (hl.r (k := 45) (f := 13) (by decide) (by decide)) ?_
  refine Z.iload_n B dX12_set_35 (x := nI s) rfl ?_
  refine Z.iald (σ := σ) B dX12_set_36 (n := 8) (hl.n (k := 54) (by decide)) (hl.k (k := 54) (by decide)) (hl.l (k := 54) (by decide)) (by decide) (j := s) rfl (by omega) (v := nI 0) hh ?_
  refine Z.if_neN B dX12_set_37 (tgt := 47) rfl (by omega) (fun h37 => by exfalso; first | omega | contradiction | simp_all) (fun h37 => ?_)
  refine Z.aload_n B dX12_set_40 (v := .ref 45) rfl rfl ?_
  refine Z.bipush B dX12_set_41 (v := (-3)) rfl ?_
  refine Z.callVI (σ := σ) B (M' := mX12_no) (as := [.int (-3)]) (st := []) (v := .int (-3)) dX12_set_43 wX12_no iX12_no sX12_no kX12_94 (hl.n (k := 45) (by decide)) (hl.k (k := 45) (by decide)) (by decide) rfl rfl (t_X12_no_3 (σ := σ) hl) rfl rfl (by decide) (by decide) (Nat.le_of_ble_eq_true rfl) (by decide) (by decide) ?_
  refine Z.eqσ (τ := (zuX σ 46 (upd (zX σ 46) 3 (zX σ 46 3 + nI 1)))) rfl ?_
  refine Z.iret B Rt dX12_set_46 (ty := .int) rfl rfl (by decide) (by decide) ?_
  exact ⟨rfl, rfl⟩

theorem t_M_set_5 {σ : zSt} (hl : Lay σ) {s : Nat} (hs : s < 8) {o m : Nat} (hh : zMr σ s o m) {i : Int32} {v : Int64} (hi : zOut i m) : Dt mX12_set [.ref 45, .int (nI s), .int i, .long v] σ (some (.int (-5))) (zuX σ 46 (upd (zX σ 46) 5 (zX σ 46 5 + nI 1))) := by
  have hm160 := hh.2.2.2.2
  refine Dt.of (by decide) (Nat.le_of_ble_eq_true rfl) fun κ B Rt => ?_
  show Z κ 0 0 σ 0 [(0, .ref 45), (1, .int (nI s)), (2, .int i), (3, .long v)] []
  refine Z.aload_n B dX12_set_0 (v := .ref 45) rfl rfl ?_
  refine Z.iload_n B dX12_set_1 (x := nI s) rfl ?_
  refine Z.callVI (σ := σ) B (M' := mX12_isShelf) (as := [.int (nI s)]) (st := []) (v := .int (nI 1)) dX12_set_2 wX12_isShelf iX12_isShelf sX12_isShelf kX12_90 (hl.n (k := 45) (by decide)) (hl.k (k := 45) (by decide)) (by decide) rfl rfl (t_X12_isShelf_in (σ := σ) hs) rfl rfl (by decide) (by decide) (Nat.le_of_ble_eq_true rfl) (by decide) (by decide) ?_
  refine Z.if_neN B dX12_set_5 (tgt := 14) rfl (by omega) (fun h5 => ?_) (fun h5 => by exfalso; first | omega | contradiction | simp_all)
  refine Z.aload_n B dX12_set_14 (v := .ref 45) rfl rfl ?_
  refine Z.getR (σ := σ) B fX12_41_12 dX12_set_15 (hl.n (k := 45) (by decide)) (hl.k (k := 45) (by decide)) (by decide) (j := 54) (hl.r (k := 45) (f := 13) (by decide) (by decide)) ?_
  refine Z.iload_n B dX12_set_18 (x := nI s) rfl ?_
  refine Z.iald (σ := σ) B dX12_set_19 (n := 8) (hl.n (k := 54) (by decide)) (hl.k (k := 54) (by decide)) (hl.l (k := 54) (by decide)) (by decide) (j := s) rfl (by omega) (v := nI 1) hh.1 ?_
  refine Z.iconst B dX12_set_20 (v := nI 2) rfl ?_
  refine Z.icmp_neN B dX12_set_21 (tgt := 31) rfl (by omega) (by omega) (fun h21 => ?_) (fun h21 => by exfalso; first | omega | contradiction | simp_all)
  refine Z.aload_n B dX12_set_31 (v := .ref 45) rfl rfl ?_
  refine Z.getR (σ := σ) B fX12_41_12 dX12_set_32 (hl.n (k := 45) (by decide)) (hl.k (k := 45) (by decide)) (by decide) (j := 54) (hl.r (k := 45) (f := 13) (by decide) (by decide)) ?_
  refine Z.iload_n B dX12_set_35 (x := nI s) rfl ?_
  refine Z.iald (σ := σ) B dX12_set_36 (n := 8) (hl.n (k := 54) (by decide)) (hl.k (k := 54) (by decide)) (hl.l (k := 54) (by decide)) (by decide) (j := s) rfl (by omega) (v := nI 1) hh.1 ?_
  refine Z.if_neN B dX12_set_37 (tgt := 47) rfl (by omega) (fun h37 => ?_) (fun h37 => by exfalso; first | omega | contradiction | simp_all)
  refine Z.iload_n B dX12_set_47 (x := i) rfl ?_
  refine Z.if_lt B dX12_set_48 (tgt := 61) rfl (fun h48 => ?_) (fun h48 => ?_)
  · skip
    refine Z.aload_n B dX12_set_61 (v := .ref 45) rfl rfl ?_
    refine Z.bipush B dX12_set_62 (v := (-5)) rfl ?_
    refine Z.callVI (σ := σ) B (M' := mX12_no) (as := [.int (-5)]) (st := []) (v := .int (-5)) dX12_set_64 wX12_no iX12_no sX12_no kX12_94 (hl.n (k := 45) (by decide)) (hl.k (k := 45) (by decide)) (by decide) rfl rfl (t_X12_no_5 (σ := σ) hl) rfl rfl (by decide) (by decide) (Nat.le_of_ble_eq_true rfl) (by decide) (by decide) ?_
    refine Z.eqσ (τ := (zuX σ 46 (upd (zX σ 46) 5 (zX σ 46 5 + nI 1)))) rfl ?_
    refine Z.iret B Rt dX12_set_67 (ty := .int) rfl rfl (by decide) (by decide) ?_
    exact ⟨rfl, rfl⟩
  · skip
    refine Z.iload_n B dX12_set_51 (x := i) rfl ?_
    refine Z.aload_n B dX12_set_52 (v := .ref 45) rfl rfl ?_
    refine Z.getR (σ := σ) B fX12_47_12 dX12_set_53 (hl.n (k := 45) (by decide)) (hl.k (k := 45) (by decide)) (by decide) (j := 56) (hl.r (k := 45) (f := 15) (by decide) (by decide)) ?_
    refine Z.iload_n B dX12_set_56 (x := nI s) rfl ?_
    refine Z.iald (σ := σ) B dX12_set_57 (n := 8) (hl.n (k := 56) (by decide)) (hl.k (k := 56) (by decide)) (hl.l (k := 56) (by decide)) (by decide) (j := s) rfl (by omega) (v := nI m) hh.2.2.2.1 ?_
    refine Z.icmp_lt B dX12_set_58 (tgt := 68) rfl (fun h58 => (zo_lt hi h48 h58).elim) (fun h58 => ?_)
    refine Z.aload_n B dX12_set_61 (v := .ref 45) rfl rfl ?_
    refine Z.bipush B dX12_set_62 (v := (-5)) rfl ?_
    refine Z.callVI (σ := σ) B (M' := mX12_no) (as := [.int (-5)]) (st := []) (v := .int (-5)) dX12_set_64 wX12_no iX12_no sX12_no kX12_94 (hl.n (k := 45) (by decide)) (hl.k (k := 45) (by decide)) (by decide) rfl rfl (t_X12_no_5 (σ := σ) hl) rfl rfl (by decide) (by decide) (Nat.le_of_ble_eq_true rfl) (by decide) (by decide) ?_
    refine Z.eqσ (τ := (zuX σ 46 (upd (zX σ 46) 5 (zX σ 46 5 + nI 1)))) rfl ?_
    refine Z.iret B Rt dX12_set_67 (ty := .int) rfl rfl (by decide) (by decide) ?_
    exact ⟨rfl, rfl⟩

theorem t_M_set_0 {σ : zSt} (hl : Lay σ) {s : Nat} (hs : s < 8) {o m : Nat} (hh : zMr σ s o m) {i : Nat} {v : Int64} (hi : i < m) : Dt mX12_set [.ref 45, .int (nI s), .int (nI i), .long v] σ (some (.int (nI 1))) (zuY σ 58 (vp_updL (zY σ 58) (s * 160 + i) (zlow o v))) := by
  have hm160 := hh.2.2.2.2
  have ho3 := hh.2.2.1
  have hh2 := hh.2.1
  refine Dt.of (by decide) (Nat.le_of_ble_eq_true rfl) fun κ B Rt => ?_
  show Z κ 0 0 σ 0 [(0, .ref 45), (1, .int (nI s)), (2, .int (nI i)), (3, .long v)] []
  refine Z.aload_n B dX12_set_0 (v := .ref 45) rfl rfl ?_
  refine Z.iload_n B dX12_set_1 (x := nI s) rfl ?_
  refine Z.callVI (σ := σ) B (M' := mX12_isShelf) (as := [.int (nI s)]) (st := []) (v := .int (nI 1)) dX12_set_2 wX12_isShelf iX12_isShelf sX12_isShelf kX12_90 (hl.n (k := 45) (by decide)) (hl.k (k := 45) (by decide)) (by decide) rfl rfl (t_X12_isShelf_in (σ := σ) hs) rfl rfl (by decide) (by decide) (Nat.le_of_ble_eq_true rfl) (by decide) (by decide) ?_
  refine Z.if_neN B dX12_set_5 (tgt := 14) rfl (by omega) (fun h5 => ?_) (fun h5 => by exfalso; first | omega | contradiction | simp_all)
  refine Z.aload_n B dX12_set_14 (v := .ref 45) rfl rfl ?_
  refine Z.getR (σ := σ) B fX12_41_12 dX12_set_15 (hl.n (k := 45) (by decide)) (hl.k (k := 45) (by decide)) (by decide) (j := 54) (hl.r (k := 45) (f := 13) (by decide) (by decide)) ?_
  refine Z.iload_n B dX12_set_18 (x := nI s) rfl ?_
  refine Z.iald (σ := σ) B dX12_set_19 (n := 8) (hl.n (k := 54) (by decide)) (hl.k (k := 54) (by decide)) (hl.l (k := 54) (by decide)) (by decide) (j := s) rfl (by omega) (v := nI 1) hh.1 ?_
  refine Z.iconst B dX12_set_20 (v := nI 2) rfl ?_
  refine Z.icmp_neN B dX12_set_21 (tgt := 31) rfl (by omega) (by omega) (fun h21 => ?_) (fun h21 => by exfalso; first | omega | contradiction | simp_all)
  refine Z.aload_n B dX12_set_31 (v := .ref 45) rfl rfl ?_
  refine Z.getR (σ := σ) B fX12_41_12 dX12_set_32 (hl.n (k := 45) (by decide)) (hl.k (k := 45) (by decide)) (by decide) (j := 54) (hl.r (k := 45) (f := 13) (by decide) (by decide)) ?_
  refine Z.iload_n B dX12_set_35 (x := nI s) rfl ?_
  refine Z.iald (σ := σ) B dX12_set_36 (n := 8) (hl.n (k := 54) (by decide)) (hl.k (k := 54) (by decide)) (hl.l (k := 54) (by decide)) (by decide) (j := s) rfl (by omega) (v := nI 1) hh.1 ?_
  refine Z.if_neN B dX12_set_37 (tgt := 47) rfl (by omega) (fun h37 => ?_) (fun h37 => by exfalso; first | omega | contradiction | simp_all)
  refine Z.iload_n B dX12_set_47 (x := nI i) rfl ?_
  refine Z.if_ltN B dX12_set_48 (tgt := 61) rfl (by omega) ?_
  refine Z.iload_n B dX12_set_51 (x := nI i) rfl ?_
  refine Z.aload_n B dX12_set_52 (v := .ref 45) rfl rfl ?_
  refine Z.getR (σ := σ) B fX12_47_12 dX12_set_53 (hl.n (k := 45) (by decide)) (hl.k (k := 45) (by decide)) (by decide) (j := 56) (hl.r (k := 45) (f := 15) (by decide) (by decide)) ?_
  refine Z.iload_n B dX12_set_56 (x := nI s) rfl ?_
  refine Z.iald (σ := σ) B dX12_set_57 (n := 8) (hl.n (k := 56) (by decide)) (hl.k (k := 56) (by decide)) (hl.l (k := 56) (by decide)) (by decide) (j := s) rfl (by omega) (v := nI m) hh.2.2.2.1 ?_
  refine Z.icmp_ltN B dX12_set_58 (tgt := 68) rfl (by omega) (by omega) (fun h58 => ?_) (fun h58 => by exfalso; first | omega | contradiction | simp_all)
  refine Z.aload_n B dX12_set_68 (v := .ref 45) rfl rfl ?_
  refine Z.getR (σ := σ) B fX12_53_12 dX12_set_69 (hl.n (k := 45) (by decide)) (hl.k (k := 45) (by decide)) (by decide) (j := 58) (hl.r (k := 45) (f := 17) (by decide) (by decide)) ?_
  refine Z.sipush B dX12_set_72 (v := nI 160) rfl ?_
  refine Z.iload_n B dX12_set_75 (x := nI s) rfl ?_
  refine Z.imulNc B dX12_set_76 (a := 160) (b := s) ?_
  refine Z.iload_n B dX12_set_77 (x := nI i) rfl ?_
  refine Z.iaddN B dX12_set_78 (a := s * 160) (b := i) ?_
  refine Z.aload_n B dX12_set_79 (v := .ref 45) rfl rfl ?_
  refine Z.getR (σ := σ) B fX12_44_12 dX12_set_80 (hl.n (k := 45) (by decide)) (hl.k (k := 45) (by decide)) (by decide) (j := 55) (hl.r (k := 45) (f := 14) (by decide) (by decide)) ?_
  refine Z.iload_n B dX12_set_83 (x := nI s) rfl ?_
  rcases (by omega : o = 0 ∨ o = 1 ∨ o = 2 ∨ o = 3) with rfl | rfl | rfl | rfl
  · skip
    refine Z.iald (σ := σ) B dX12_set_84 (n := 8) (hl.n (k := 55) (by decide)) (hl.k (k := 55) (by decide)) (hl.l (k := 55) (by decide)) (by decide) (j := s) rfl (by omega) (v := nI 0) hh2 ?_
    refine Z.if_neN B dX12_set_85 (tgt := 95) rfl (by omega) (fun h85 => by exfalso; first | omega | contradiction | simp_all) (fun h85 => ?_)
    refine Z.lload_n B dX12_set_88 (x := v) rfl ?_
    refine Z.l2i B dX12_set_89 ?_
    refine Z.i2b B dX12_set_90 ?_
    refine Z.i2l B dX12_set_91 ?_
    refine Z.goto B dX12_set_92 (tgt := 129) rfl ?_
    refine Z.last (σ := σ) B dX12_set_129 (n := 1280) (hl.n (k := 58) (by decide)) (hl.k (k := 58) (by decide)) (hl.l (k := 58) (by decide)) (by decide) (j := (s * 160) + i) rfl (by omega) (τ := (zuY σ 58 (vp_updL (zY σ 58) (s * 160 + i) (zlow 0 v)))) rfl ?_
    refine Z.iconst B dX12_set_130 (v := nI 1) rfl ?_
    refine Z.iret B Rt dX12_set_131 (ty := .int) rfl rfl (by decide) (by decide) ?_
    exact ⟨rfl, rfl⟩
  · skip
    refine Z.iald (σ := σ) B dX12_set_84 (n := 8) (hl.n (k := 55) (by decide)) (hl.k (k := 55) (by decide)) (hl.l (k := 55) (by decide)) (by decide) (j := s) rfl (by omega) (v := nI 1) hh2 ?_
    refine Z.if_neN B dX12_set_85 (tgt := 95) rfl (by omega) (fun h85 => ?_) (fun h85 => by exfalso; first | omega | contradiction | simp_all)
    refine Z.aload_n B dX12_set_95 (v := .ref 45) rfl rfl ?_
    refine Z.getR (σ := σ) B fX12_44_12 dX12_set_96 (hl.n (k := 45) (by decide)) (hl.k (k := 45) (by decide)) (by decide) (j := 55) (hl.r (k := 45) (f := 14) (by decide) (by decide)) ?_
    refine Z.iload_n B dX12_set_99 (x := nI s) rfl ?_
    refine Z.iald (σ := σ) B dX12_set_100 (n := 8) (hl.n (k := 55) (by decide)) (hl.k (k := 55) (by decide)) (hl.l (k := 55) (by decide)) (by decide) (j := s) rfl (by omega) (v := nI 1) hh2 ?_
    refine Z.iconst B dX12_set_101 (v := nI 1) rfl ?_
    refine Z.icmp_neN B dX12_set_102 (tgt := 112) rfl (by omega) (by omega) (fun h102 => by exfalso; first | omega | contradiction | simp_all) (fun h102 => ?_)
    refine Z.lload_n B dX12_set_105 (x := v) rfl ?_
    refine Z.l2i B dX12_set_106 ?_
    refine Z.i2s B dX12_set_107 ?_
    refine Z.i2l B dX12_set_108 ?_
    refine Z.goto B dX12_set_109 (tgt := 129) rfl ?_
    refine Z.last (σ := σ) B dX12_set_129 (n := 1280) (hl.n (k := 58) (by decide)) (hl.k (k := 58) (by decide)) (hl.l (k := 58) (by decide)) (by decide) (j := (s * 160) + i) rfl (by omega) (τ := (zuY σ 58 (vp_updL (zY σ 58) (s * 160 + i) (zlow 1 v)))) rfl ?_
    refine Z.iconst B dX12_set_130 (v := nI 1) rfl ?_
    refine Z.iret B Rt dX12_set_131 (ty := .int) rfl rfl (by decide) (by decide) ?_
    exact ⟨rfl, rfl⟩
  · skip
    refine Z.iald (σ := σ) B dX12_set_84 (n := 8) (hl.n (k := 55) (by decide)) (hl.k (k := 55) (by decide)) (hl.l (k := 55) (by decide)) (by decide) (j := s) rfl (by omega) (v := nI 2) hh2 ?_
    refine Z.if_neN B dX12_set_85 (tgt := 95) rfl (by omega) (fun h85 => ?_) (fun h85 => by exfalso; first | omega | contradiction | simp_all)
    refine Z.aload_n B dX12_set_95 (v := .ref 45) rfl rfl ?_
    refine Z.getR (σ := σ) B fX12_44_12 dX12_set_96 (hl.n (k := 45) (by decide)) (hl.k (k := 45) (by decide)) (by decide) (j := 55) (hl.r (k := 45) (f := 14) (by decide) (by decide)) ?_
    refine Z.iload_n B dX12_set_99 (x := nI s) rfl ?_
    refine Z.iald (σ := σ) B dX12_set_100 (n := 8) (hl.n (k := 55) (by decide)) (hl.k (k := 55) (by decide)) (hl.l (k := 55) (by decide)) (by decide) (j := s) rfl (by omega) (v := nI 2) hh2 ?_
    refine Z.iconst B dX12_set_101 (v := nI 1) rfl ?_
    refine Z.icmp_neN B dX12_set_102 (tgt := 112) rfl (by omega) (by omega) (fun h102 => ?_) (fun h102 => by exfalso; first | omega | contradiction | simp_all)
    refine Z.aload_n B dX12_set_112 (v := .ref 45) rfl rfl ?_
    refine Z.getR (σ := σ) B fX12_44_12 dX12_set_113 (hl.n (k := 45) (by decide)) (hl.k (k := 45) (by decide)) (by decide) (j := 55) (hl.r (k := 45) (f := 14) (by decide) (by decide)) ?_
    refine Z.iload_n B dX12_set_116 (x := nI s) rfl ?_
    refine Z.iald (σ := σ) B dX12_set_117 (n := 8) (hl.n (k := 55) (by decide)) (hl.k (k := 55) (by decide)) (hl.l (k := 55) (by decide)) (by decide) (j := s) rfl (by omega) (v := nI 2) hh2 ?_
    refine Z.iconst B dX12_set_118 (v := nI 2) rfl ?_
    refine Z.icmp_neN B dX12_set_119 (tgt := 128) rfl (by omega) (by omega) (fun h119 => by exfalso; first | omega | contradiction | simp_all) (fun h119 => ?_)
    refine Z.lload_n B dX12_set_122 (x := v) rfl ?_
    refine Z.l2i B dX12_set_123 ?_
    refine Z.i2l B dX12_set_124 ?_
    refine Z.goto B dX12_set_125 (tgt := 129) rfl ?_
    refine Z.last (σ := σ) B dX12_set_129 (n := 1280) (hl.n (k := 58) (by decide)) (hl.k (k := 58) (by decide)) (hl.l (k := 58) (by decide)) (by decide) (j := (s * 160) + i) rfl (by omega) (τ := (zuY σ 58 (vp_updL (zY σ 58) (s * 160 + i) (zlow 2 v)))) rfl ?_
    refine Z.iconst B dX12_set_130 (v := nI 1) rfl ?_
    refine Z.iret B Rt dX12_set_131 (ty := .int) rfl rfl (by decide) (by decide) ?_
    exact ⟨rfl, rfl⟩
  · skip
    refine Z.iald (σ := σ) B dX12_set_84 (n := 8) (hl.n (k := 55) (by decide)) (hl.k (k := 55) (by decide)) (hl.l (k := 55) (by decide)) (by decide) (j := s) rfl (by omega) (v := nI 3) hh2 ?_
    refine Z.if_neN B dX12_set_85 (tgt := 95) rfl (by omega) (fun h85 => ?_) (fun h85 => by exfalso; first | omega | contradiction | simp_all)
    refine Z.aload_n B dX12_set_95 (v := .ref 45) rfl rfl ?_
    refine Z.getR (σ := σ) B fX12_44_12 dX12_set_96 (hl.n (k := 45) (by decide)) (hl.k (k := 45) (by decide)) (by decide) (j := 55) (hl.r (k := 45) (f := 14) (by decide) (by decide)) ?_
    refine Z.iload_n B dX12_set_99 (x := nI s) rfl ?_
    refine Z.iald (σ := σ) B dX12_set_100 (n := 8) (hl.n (k := 55) (by decide)) (hl.k (k := 55) (by decide)) (hl.l (k := 55) (by decide)) (by decide) (j := s) rfl (by omega) (v := nI 3) hh2 ?_
    refine Z.iconst B dX12_set_101 (v := nI 1) rfl ?_
    refine Z.icmp_neN B dX12_set_102 (tgt := 112) rfl (by omega) (by omega) (fun h102 => ?_) (fun h102 => by exfalso; first | omega | contradiction | simp_all)
    refine Z.aload_n B dX12_set_112 (v := .ref 45) rfl rfl ?_
    refine Z.getR (σ := σ) B fX12_44_12 dX12_set_113 (hl.n (k := 45) (by decide)) (hl.k (k := 45) (by decide)) (by decide) (j := 55) (hl.r (k := 45) (f := 14) (by decide) (by decide)) ?_
    refine Z.iload_n B dX12_set_116 (x := nI s) rfl ?_
    refine Z.iald (σ := σ) B dX12_set_117 (n := 8) (hl.n (k := 55) (by decide)) (hl.k (k := 55) (by decide)) (hl.l (k := 55) (by decide)) (by decide) (j := s) rfl (by omega) (v := nI 3) hh2 ?_
    refine Z.iconst B dX12_set_118 (v := nI 2) rfl ?_
    refine Z.icmp_neN B dX12_set_119 (tgt := 128) rfl (by omega) (by omega) (fun h119 => ?_) (fun h119 => by exfalso; first | omega | contradiction | simp_all)
    refine Z.lload_n B dX12_set_128 (x := v) rfl ?_
    refine Z.last (σ := σ) B dX12_set_129 (n := 1280) (hl.n (k := 58) (by decide)) (hl.k (k := 58) (by decide)) (hl.l (k := 58) (by decide)) (by decide) (j := (s * 160) + i) rfl (by omega) (τ := (zuY σ 58 (vp_updL (zY σ 58) (s * 160 + i) (zlow 3 v)))) rfl ?_
    refine Z.iconst B dX12_set_130 (v := nI 1) rfl ?_
    refine Z.iret B Rt dX12_set_131 (ty := .int) rfl rfl (by decide) (by decide) ?_
    exact ⟨rfl, rfl⟩

theorem t_M_element_1 {σ : zSt} (hl : Lay σ) {s : Int32} (hs : zOut s 8) {i : Int32} : Dt mX12_element [.ref 45, .int s, .int i] σ (some (.long (0 : Int64))) σ := by
  refine Dt.of (by decide) (Nat.le_of_ble_eq_true rfl) fun κ B Rt => ?_
  show Z κ 0 0 σ 0 [(0, .ref 45), (1, .int s), (2, .int i)] []
  refine Z.aload_n B dX12_element_0 (v := .ref 45) rfl rfl ?_
  refine Z.iload_n B dX12_element_1 (x := s) rfl ?_
  refine Z.callVI (σ := σ) B (M' := mX12_isShelf) (as := [.int s]) (st := []) (v := .int (nI 0)) dX12_element_2 wX12_isShelf iX12_isShelf sX12_isShelf kX12_90 (hl.n (k := 45) (by decide)) (hl.k (k := 45) (by decide)) (by decide) rfl rfl (t_X12_isShelf_out (σ := σ) hs) rfl rfl (by decide) (by decide) (Nat.le_of_ble_eq_true rfl) (by decide) (by decide) ?_
  refine Z.if_eqN B dX12_element_5 (tgt := 47) rfl (by omega) (fun h5 => ?_) (fun h5 => by exfalso; first | omega | contradiction | simp_all)
  refine Z.lconst B dX12_element_47 (v := (0 : Int64)) rfl ?_
  refine Z.lret B Rt dX12_element_48 rfl (by decide) (by decide) ?_
  exact ⟨rfl, rfl⟩

theorem t_M_element_w {σ : zSt} (hl : Lay σ) {s : Nat} (hs : s < 8) {i8 : Nat} (hh : zMa σ s i8) {i : Int32} : Dt mX12_element [.ref 45, .int (nI s), .int i] σ (some (.long (0 : Int64))) σ := by
  refine Dt.of (by decide) (Nat.le_of_ble_eq_true rfl) fun κ B Rt => ?_
  show Z κ 0 0 σ 0 [(0, .ref 45), (1, .int (nI s)), (2, .int i)] []
  refine Z.aload_n B dX12_element_0 (v := .ref 45) rfl rfl ?_
  refine Z.iload_n B dX12_element_1 (x := nI s) rfl ?_
  refine Z.callVI (σ := σ) B (M' := mX12_isShelf) (as := [.int (nI s)]) (st := []) (v := .int (nI 1)) dX12_element_2 wX12_isShelf iX12_isShelf sX12_isShelf kX12_90 (hl.n (k := 45) (by decide)) (hl.k (k := 45) (by decide)) (by decide) rfl rfl (t_X12_isShelf_in (σ := σ) hs) rfl rfl (by decide) (by decide) (Nat.le_of_ble_eq_true rfl) (by decide) (by decide) ?_
  refine Z.if_eqN B dX12_element_5 (tgt := 47) rfl (by omega) (fun h5 => by exfalso; first | omega | contradiction | simp_all) (fun h5 => ?_)
  refine Z.aload_n B dX12_element_8 (v := .ref 45) rfl rfl ?_
  refine Z.getR (σ := σ) B fX12_41_12 dX12_element_9 (hl.n (k := 45) (by decide)) (hl.k (k := 45) (by decide)) (by decide) (j := 54) (hl.r (k := 45) (f := 13) (by decide) (by decide)) ?_
  refine Z.iload_n B dX12_element_12 (x := nI s) rfl ?_
  refine Z.iald (σ := σ) B dX12_element_13 (n := 8) (hl.n (k := 54) (by decide)) (hl.k (k := 54) (by decide)) (hl.l (k := 54) (by decide)) (by decide) (j := s) rfl (by omega) (v := nI 2) hh.1 ?_
  refine Z.iconst B dX12_element_14 (v := nI 1) rfl ?_
  refine Z.icmp_neN B dX12_element_15 (tgt := 47) rfl (by omega) (by omega) (fun h15 => ?_) (fun h15 => by exfalso; first | omega | contradiction | simp_all)
  refine Z.lconst B dX12_element_47 (v := (0 : Int64)) rfl ?_
  refine Z.lret B Rt dX12_element_48 rfl (by decide) (by decide) ?_
  exact ⟨rfl, rfl⟩

theorem t_M_element_n {σ : zSt} (hl : Lay σ) {s : Nat} (hs : s < 8) (hh : zMn σ s) {i : Int32} : Dt mX12_element [.ref 45, .int (nI s), .int i] σ (some (.long (0 : Int64))) σ := by
  refine Dt.of (by decide) (Nat.le_of_ble_eq_true rfl) fun κ B Rt => ?_
  show Z κ 0 0 σ 0 [(0, .ref 45), (1, .int (nI s)), (2, .int i)] []
  refine Z.aload_n B dX12_element_0 (v := .ref 45) rfl rfl ?_
  refine Z.iload_n B dX12_element_1 (x := nI s) rfl ?_
  refine Z.callVI (σ := σ) B (M' := mX12_isShelf) (as := [.int (nI s)]) (st := []) (v := .int (nI 1)) dX12_element_2 wX12_isShelf iX12_isShelf sX12_isShelf kX12_90 (hl.n (k := 45) (by decide)) (hl.k (k := 45) (by decide)) (by decide) rfl rfl (t_X12_isShelf_in (σ := σ) hs) rfl rfl (by decide) (by decide) (Nat.le_of_ble_eq_true rfl) (by decide) (by decide) ?_
  refine Z.if_eqN B dX12_element_5 (tgt := 47) rfl (by omega) (fun h5 => by exfalso; first | omega | contradiction | simp_all) (fun h5 => ?_)
  refine Z.aload_n B dX12_element_8 (v := .ref 45) rfl rfl ?_
  refine Z.getR (σ := σ) B fX12_41_12 dX12_element_9 (hl.n (k := 45) (by decide)) (hl.k (k := 45) (by decide)) (by decide) (j := 54) (hl.r (k := 45) (f := 13) (by decide) (by decide)) ?_
  refine Z.iload_n B dX12_element_12 (x := nI s) rfl ?_
  refine Z.iald (σ := σ) B dX12_element_13 (n := 8) (hl.n (k := 54) (by decide)) (hl.k (k := 54) (by decide)) (hl.l (k := 54) (by decide)) (by decide) (j := s) rfl (by omega) (v := nI 0) hh ?_
  refine Z.iconst B dX12_element_14 (v := nI 1) rfl ?_
  refine Z.icmp_neN B dX12_element_15 (tgt := 47) rfl (by omega) (by omega) (fun h15 => ?_) (fun h15 => by exfalso; first | omega | contradiction | simp_all)
  refine Z.lconst B dX12_element_47 (v := (0 : Int64)) rfl ?_
  refine Z.lret B Rt dX12_element_48 rfl (by decide) (by decide) ?_
  exact ⟨rfl, rfl⟩

theorem t_M_element_f {σ : zSt} (hl : Lay σ) {s : Nat} (hs : s < 8) {o m : Nat} (hh : zMr σ s o m) {i : Int32} (hi : zOut i m) : Dt mX12_element [.ref 45, .int (nI s), .int i] σ (some (.long (0 : Int64))) σ := by
  refine Dt.of (by decide) (Nat.le_of_ble_eq_true rfl) fun κ B Rt => ?_
  show Z κ 0 0 σ 0 [(0, .ref 45), (1, .int (nI s)), (2, .int i)] []
  refine Z.aload_n B dX12_element_0 (v := .ref 45) rfl rfl ?_
  refine Z.iload_n B dX12_element_1 (x := nI s) rfl ?_
  refine Z.callVI (σ := σ) B (M' := mX12_isShelf) (as := [.int (nI s)]) (st := []) (v := .int (nI 1)) dX12_element_2 wX12_isShelf iX12_isShelf sX12_isShelf kX12_90 (hl.n (k := 45) (by decide)) (hl.k (k := 45) (by decide)) (by decide) rfl rfl (t_X12_isShelf_in (σ := σ) hs) rfl rfl (by decide) (by decide) (Nat.le_of_ble_eq_true rfl) (by decide) (by decide) ?_
  refine Z.if_eqN B dX12_element_5 (tgt := 47) rfl (by omega) (fun h5 => by exfalso; first | omega | contradiction | simp_all) (fun h5 => ?_)
  refine Z.aload_n B dX12_element_8 (v := .ref 45) rfl rfl ?_
  refine Z.getR (σ := σ) B fX12_41_12 dX12_element_9 (hl.n (k := 45) (by decide)) (hl.k (k := 45) (by decide)) (by decide) (j := 54) (hl.r (k := 45) (f := 13) (by decide) (by decide)) ?_
  refine Z.iload_n B dX12_element_12 (x := nI s) rfl ?_
  refine Z.iald (σ := σ) B dX12_element_13 (n := 8) (hl.n (k := 54) (by decide)) (hl.k (k := 54) (by decide)) (hl.l (k := 54) (by decide)) (by decide) (j := s) rfl (by omega) (v := nI 1) hh.1 ?_
  refine Z.iconst B dX12_element_14 (v := nI 1) rfl ?_
  refine Z.icmp_neN B dX12_element_15 (tgt := 47) rfl (by omega) (by omega) (fun h15 => by exfalso; first | omega | contradiction | simp_all) (fun h15 => ?_)
  refine Z.iload_n B dX12_element_18 (x := i) rfl ?_
  refine Z.if_lt B dX12_element_19 (tgt := 47) rfl (fun h19 => ?_) (fun h19 => ?_)
  · skip
    refine Z.lconst B dX12_element_47 (v := (0 : Int64)) rfl ?_
    refine Z.lret B Rt dX12_element_48 rfl (by decide) (by decide) ?_
    exact ⟨rfl, rfl⟩
  · skip
    refine Z.iload_n B dX12_element_22 (x := i) rfl ?_
    refine Z.aload_n B dX12_element_23 (v := .ref 45) rfl rfl ?_
    refine Z.getR (σ := σ) B fX12_47_12 dX12_element_24 (hl.n (k := 45) (by decide)) (hl.k (k := 45) (by decide)) (by decide) (j := 56) (hl.r (k := 45) (f := 15) (by decide) (by decide)) ?_
    refine Z.iload_n B dX12_element_27 (x := nI s) rfl ?_
    refine Z.iald (σ := σ) B dX12_element_28 (n := 8) (hl.n (k := 56) (by decide)) (hl.k (k := 56) (by decide)) (hl.l (k := 56) (by decide)) (by decide) (j := s) rfl (by omega) (v := nI m) hh.2.2.2.1 ?_
    refine Z.icmp_ge B dX12_element_29 (tgt := 47) rfl (fun h29 => ?_) (fun h29 => (by exfalso; exact zo_lt hi h19 (by rw [zlt_iff]; rw [zle_iff] at h29; omega)))
    refine Z.lconst B dX12_element_47 (v := (0 : Int64)) rfl ?_
    refine Z.lret B Rt dX12_element_48 rfl (by decide) (by decide) ?_
    exact ⟨rfl, rfl⟩

theorem t_M_element_0 {σ : zSt} (hl : Lay σ) {s : Nat} (hs : s < 8) {o m : Nat} (hh : zMr σ s o m) {i : Nat} (hi : i < m) : Dt mX12_element [.ref 45, .int (nI s), .int (nI i)] σ (some (.long (zY σ 58 (s * 160 + i)))) σ := by
  have hm160 := hh.2.2.2.2
  refine Dt.of (by decide) (Nat.le_of_ble_eq_true rfl) fun κ B Rt => ?_
  show Z κ 0 0 σ 0 [(0, .ref 45), (1, .int (nI s)), (2, .int (nI i))] []
  refine Z.aload_n B dX12_element_0 (v := .ref 45) rfl rfl ?_
  refine Z.iload_n B dX12_element_1 (x := nI s) rfl ?_
  refine Z.callVI (σ := σ) B (M' := mX12_isShelf) (as := [.int (nI s)]) (st := []) (v := .int (nI 1)) dX12_element_2 wX12_isShelf iX12_isShelf sX12_isShelf kX12_90 (hl.n (k := 45) (by decide)) (hl.k (k := 45) (by decide)) (by decide) rfl rfl (t_X12_isShelf_in (σ := σ) hs) rfl rfl (by decide) (by decide) (Nat.le_of_ble_eq_true rfl) (by decide) (by decide) ?_
  refine Z.if_eqN B dX12_element_5 (tgt := 47) rfl (by omega) (fun h5 => by exfalso; first | omega | contradiction | simp_all) (fun h5 => ?_)
  refine Z.aload_n B dX12_element_8 (v := .ref 45) rfl rfl ?_
  refine Z.getR (σ := σ) B fX12_41_12 dX12_element_9 (hl.n (k := 45) (by decide)) (hl.k (k := 45) (by decide)) (by decide) (j := 54) (hl.r (k := 45) (f := 13) (by decide) (by decide)) ?_
  refine Z.iload_n B dX12_element_12 (x := nI s) rfl ?_
  refine Z.iald (σ := σ) B dX12_element_13 (n := 8) (hl.n (k := 54) (by decide)) (hl.k (k := 54) (by decide)) (hl.l (k := 54) (by decide)) (by decide) (j := s) rfl (by omega) (v := nI 1) hh.1 ?_
  refine Z.iconst B dX12_element_14 (v := nI 1) rfl ?_
  refine Z.icmp_neN B dX12_element_15 (tgt := 47) rfl (by omega) (by omega) (fun h15 => by exfalso; first | omega | contradiction | simp_all) (fun h15 => ?_)
  refine Z.iload_n B dX12_element_18 (x := nI i) rfl ?_
  refine Z.if_ltN B dX12_element_19 (tgt := 47) rfl (by omega) ?_
  refine Z.iload_n B dX12_element_22 (x := nI i) rfl ?_
  refine Z.aload_n B dX12_element_23 (v := .ref 45) rfl rfl ?_
  refine Z.getR (σ := σ) B fX12_47_12 dX12_element_24 (hl.n (k := 45) (by decide)) (hl.k (k := 45) (by decide)) (by decide) (j := 56) (hl.r (k := 45) (f := 15) (by decide) (by decide)) ?_
  refine Z.iload_n B dX12_element_27 (x := nI s) rfl ?_
  refine Z.iald (σ := σ) B dX12_element_28 (n := 8) (hl.n (k := 56) (by decide)) (hl.k (k := 56) (by decide)) (hl.l (k := 56) (by decide)) (by decide) (j := s) rfl (by omega) (v := nI m) hh.2.2.2.1 ?_
  refine Z.icmp_geN B dX12_element_29 (tgt := 47) rfl (by omega) (by omega) (fun h29 => by exfalso; first | omega | contradiction | simp_all) (fun h29 => ?_)
  refine Z.aload_n B dX12_element_32 (v := .ref 45) rfl rfl ?_
  refine Z.getR (σ := σ) B fX12_53_12 dX12_element_33 (hl.n (k := 45) (by decide)) (hl.k (k := 45) (by decide)) (by decide) (j := 58) (hl.r (k := 45) (f := 17) (by decide) (by decide)) ?_
  refine Z.sipush B dX12_element_36 (v := nI 160) rfl ?_
  refine Z.iload_n B dX12_element_39 (x := nI s) rfl ?_
  refine Z.imulNc B dX12_element_40 (a := 160) (b := s) ?_
  refine Z.iload_n B dX12_element_41 (x := nI i) rfl ?_
  refine Z.iaddN B dX12_element_42 (a := s * 160) (b := i) ?_
  refine Z.lald (σ := σ) B dX12_element_43 (n := 1280) (hl.n (k := 58) (by decide)) (hl.k (k := 58) (by decide)) (hl.l (k := 58) (by decide)) (by decide) (j := (s * 160) + i) rfl (by omega) (v := (zY σ 58 ((s * 160) + i))) rfl ?_
  refine Z.goto B dX12_element_44 (tgt := 48) rfl ?_
  refine Z.lret B Rt dX12_element_48 rfl (by decide) (by decide) ?_
  exact ⟨rfl, rfl⟩

theorem t_M_show_1 {σ : zSt} (hl : Lay σ) {s : Int32} (hs : zOut s 8) {i : Int32} : Dt mX12_show [.ref 45, .int s, .int i] σ (some (.int (-1))) (zuX σ 46 (upd (zX σ 46) 1 (zX σ 46 1 + nI 1))) := by
  refine Dt.of (by decide) (Nat.le_of_ble_eq_true rfl) fun κ B Rt => ?_
  show Z κ 0 0 σ 0 [(0, .ref 45), (1, .int s), (2, .int i)] []
  refine Z.aload_n B dX12_show_0 (v := .ref 45) rfl rfl ?_
  refine Z.iload_n B dX12_show_1 (x := s) rfl ?_
  refine Z.callVI (σ := σ) B (M' := mX12_isShelf) (as := [.int s]) (st := []) (v := .int (nI 0)) dX12_show_2 wX12_isShelf iX12_isShelf sX12_isShelf kX12_90 (hl.n (k := 45) (by decide)) (hl.k (k := 45) (by decide)) (by decide) rfl rfl (t_X12_isShelf_out (σ := σ) hs) rfl rfl (by decide) (by decide) (Nat.le_of_ble_eq_true rfl) (by decide) (by decide) ?_
  refine Z.if_eqN B dX12_show_5 (tgt := 21) rfl (by omega) (fun h5 => ?_) (fun h5 => by exfalso; first | omega | contradiction | simp_all)
  refine Z.aload_n B dX12_show_21 (v := .ref 45) rfl rfl ?_
  refine Z.iconst B dX12_show_22 (v := (-1)) rfl ?_
  refine Z.callVI (σ := σ) B (M' := mX12_no) (as := [.int (-1)]) (st := []) (v := .int (-1)) dX12_show_23 wX12_no iX12_no sX12_no kX12_94 (hl.n (k := 45) (by decide)) (hl.k (k := 45) (by decide)) (by decide) rfl rfl (t_X12_no_1 (σ := σ) hl) rfl rfl (by decide) (by decide) (Nat.le_of_ble_eq_true rfl) (by decide) (by decide) ?_
  refine Z.eqσ (τ := (zuX σ 46 (upd (zX σ 46) 1 (zX σ 46 1 + nI 1)))) rfl ?_
  refine Z.iret B Rt dX12_show_26 (ty := .int) rfl rfl (by decide) (by decide) ?_
  exact ⟨rfl, rfl⟩

theorem t_M_show_2 {σ : zSt} (hl : Lay σ) {n a y : Nat} (H : zMd σ n a y) {s : Nat} (hs : s < 8) {i : Int32} (h1 : ¬ i = (-1)) (hi : zOut i y) : Dt mX12_show [.ref 45, .int (nI s), .int i] σ (some (.int (-1))) (zuX σ 46 (upd (zX σ 46) 1 (zX σ 46 1 + nI 1))) := by
  obtain ⟨-, hn, hn8, ha, ha4, hy, hy8⟩ := id H
  refine Dt.of (by decide) (Nat.le_of_ble_eq_true rfl) fun κ B Rt => ?_
  show Z κ 0 0 σ 0 [(0, .ref 45), (1, .int (nI s)), (2, .int i)] []
  refine Z.aload_n B dX12_show_0 (v := .ref 45) rfl rfl ?_
  refine Z.iload_n B dX12_show_1 (x := nI s) rfl ?_
  refine Z.callVI (σ := σ) B (M' := mX12_isShelf) (as := [.int (nI s)]) (st := []) (v := .int (nI 1)) dX12_show_2 wX12_isShelf iX12_isShelf sX12_isShelf kX12_90 (hl.n (k := 45) (by decide)) (hl.k (k := 45) (by decide)) (by decide) rfl rfl (t_X12_isShelf_in (σ := σ) hs) rfl rfl (by decide) (by decide) (Nat.le_of_ble_eq_true rfl) (by decide) (by decide) ?_
  refine Z.if_eqN B dX12_show_5 (tgt := 21) rfl (by omega) (fun h5 => by exfalso; first | omega | contradiction | simp_all) (fun h5 => ?_)
  refine Z.iload_n B dX12_show_8 (x := i) rfl ?_
  refine Z.iconst B dX12_show_9 (v := (-1)) rfl ?_
  refine Z.icmp_eq B dX12_show_10 (tgt := 27) rfl (fun h10 => absurd h10 h1) (fun h10 => ?_)
  refine Z.aload_n B dX12_show_13 (v := .ref 45) rfl rfl ?_
  refine Z.iload_n B dX12_show_14 (x := i) rfl ?_
  refine Z.callVI (σ := σ) B (M' := mX12_isWay) (as := [.int i]) (st := []) (v := .int (nI 0)) dX12_show_15 wX12_isWay iX12_isWay sX12_isWay kX12_98 (hl.n (k := 45) (by decide)) (hl.k (k := 45) (by decide)) (by decide) rfl rfl (t_X12_isWay_out (σ := σ) H hi) rfl rfl (by decide) (by decide) (Nat.le_of_ble_eq_true rfl) (by decide) (by decide) ?_
  refine Z.if_neN B dX12_show_18 (tgt := 27) rfl (by omega) (fun h18 => by exfalso; first | omega | contradiction | simp_all) (fun h18 => ?_)
  refine Z.aload_n B dX12_show_21 (v := .ref 45) rfl rfl ?_
  refine Z.iconst B dX12_show_22 (v := (-1)) rfl ?_
  refine Z.callVI (σ := σ) B (M' := mX12_no) (as := [.int (-1)]) (st := []) (v := .int (-1)) dX12_show_23 wX12_no iX12_no sX12_no kX12_94 (hl.n (k := 45) (by decide)) (hl.k (k := 45) (by decide)) (by decide) rfl rfl (t_X12_no_1 (σ := σ) hl) rfl rfl (by decide) (by decide) (Nat.le_of_ble_eq_true rfl) (by decide) (by decide) ?_
  refine Z.eqσ (τ := (zuX σ 46 (upd (zX σ 46) 1 (zX σ 46 1 + nI 1)))) rfl ?_
  refine Z.iret B Rt dX12_show_26 (ty := .int) rfl rfl (by decide) (by decide) ?_
  exact ⟨rfl, rfl⟩

theorem t_M_show_3 {σ : zSt} (hl : Lay σ) {s : Nat} (hs : s < 8)  : Dt mX12_show [.ref 45, .int (nI s), .int (-1)] σ (some (.int (nI 0))) (zuX (zuX σ 54 (upd (zX σ 54) s (nI 0))) 57 (upd (zX σ 57) s (-1))) := by
  refine Dt.of (by decide) (Nat.le_of_ble_eq_true rfl) fun κ B Rt => ?_
  show Z κ 0 0 σ 0 [(0, .ref 45), (1, .int (nI s)), (2, .int (-1))] []
  refine Z.aload_n B dX12_show_0 (v := .ref 45) rfl rfl ?_
  refine Z.iload_n B dX12_show_1 (x := nI s) rfl ?_
  refine Z.callVI (σ := σ) B (M' := mX12_isShelf) (as := [.int (nI s)]) (st := []) (v := .int (nI 1)) dX12_show_2 wX12_isShelf iX12_isShelf sX12_isShelf kX12_90 (hl.n (k := 45) (by decide)) (hl.k (k := 45) (by decide)) (by decide) rfl rfl (t_X12_isShelf_in (σ := σ) hs) rfl rfl (by decide) (by decide) (Nat.le_of_ble_eq_true rfl) (by decide) (by decide) ?_
  refine Z.if_eqN B dX12_show_5 (tgt := 21) rfl (by omega) (fun h5 => by exfalso; first | omega | contradiction | simp_all) (fun h5 => ?_)
  refine Z.iload_n B dX12_show_8 (x := (-1)) rfl ?_
  refine Z.iconst B dX12_show_9 (v := (-1)) rfl ?_
  refine Z.icmp_eq B dX12_show_10 (tgt := 27) rfl (fun h10 => ?_) (fun h10 => by exfalso; first | omega | contradiction | simp_all)
  refine Z.aload_n B dX12_show_27 (v := .ref 45) rfl rfl ?_
  refine Z.getR (σ := σ) B fX12_41_12 dX12_show_28 (hl.n (k := 45) (by decide)) (hl.k (k := 45) (by decide)) (by decide) (j := 54) (hl.r (k := 45) (f := 13) (by decide) (by decide)) ?_
  refine Z.iload_n B dX12_show_31 (x := nI s) rfl ?_
  refine Z.iload_n B dX12_show_32 (x := (-1)) rfl ?_
  refine Z.iconst B dX12_show_33 (v := (-1)) rfl ?_
  refine Z.icmp_ne B dX12_show_34 (tgt := 41) rfl (fun h34 => by exfalso; first | omega | contradiction | simp_all) (fun h34 => ?_)
  refine Z.iconst B dX12_show_37 (v := nI 0) rfl ?_
  refine Z.goto B dX12_show_38 (tgt := 42) rfl ?_
  refine Z.iast (σ := σ) B dX12_show_42 (n := 8) (hl.n (k := 54) (by decide)) (hl.k (k := 54) (by decide)) (hl.l (k := 54) (by decide)) (by decide) (j := s) rfl (by omega) (τ := (zuX σ 54 (upd (zX σ 54) s (nI 0)))) rfl ?_
  refine Z.aload_n B dX12_show_43 (v := .ref 45) rfl rfl ?_
  refine Z.getR (σ := (zuX σ 54 (upd (zX σ 54) s (nI 0)))) B fX12_50_12 dX12_show_44 (hl.n (k := 45) (by decide)) (hl.k (k := 45) (by decide)) (by decide) (j := 57) (hl.r (k := 45) (f := 16) (by decide) (by decide)) ?_
  refine Z.iload_n B dX12_show_47 (x := nI s) rfl ?_
  refine Z.iload_n B dX12_show_48 (x := (-1)) rfl ?_
  refine Z.iast (σ := (zuX σ 54 (upd (zX σ 54) s (nI 0)))) B dX12_show_49 (n := 8) (hl.n (k := 57) (by decide)) (hl.k (k := 57) (by decide)) (hl.l (k := 57) (by decide)) (by decide) (j := s) rfl (by omega) (τ := (zuX (zuX σ 54 (upd (zX σ 54) s (nI 0))) 57 (upd (zX σ 57) s (-1)))) rfl ?_
  refine Z.iload_n B dX12_show_50 (x := (-1)) rfl ?_
  refine Z.iconst B dX12_show_51 (v := (-1)) rfl ?_
  refine Z.icmp_ne B dX12_show_52 (tgt := 59) rfl (fun h52 => by exfalso; first | omega | contradiction | simp_all) (fun h52 => ?_)
  refine Z.iconst B dX12_show_55 (v := nI 0) rfl ?_
  refine Z.goto B dX12_show_56 (tgt := 60) rfl ?_
  refine Z.iret B Rt dX12_show_60 (ty := .int) rfl rfl (by decide) (by decide) ?_
  exact ⟨rfl, rfl⟩

theorem t_M_show_0 {σ : zSt} (hl : Lay σ) {n a y : Nat} (H : zMd σ n a y) {s : Nat} (hs : s < 8) {i : Nat} (hi : i < y) : Dt mX12_show [.ref 45, .int (nI s), .int (nI i)] σ (some (.int (nI 1))) (zuX (zuX σ 54 (upd (zX σ 54) s (nI 2))) 57 (upd (zX σ 57) s (nI i))) := by
  obtain ⟨-, hn, hn8, ha, ha4, hy, hy8⟩ := id H
  refine Dt.of (by decide) (Nat.le_of_ble_eq_true rfl) fun κ B Rt => ?_
  show Z κ 0 0 σ 0 [(0, .ref 45), (1, .int (nI s)), (2, .int (nI i))] []
  refine Z.aload_n B dX12_show_0 (v := .ref 45) rfl rfl ?_
  refine Z.iload_n B dX12_show_1 (x := nI s) rfl ?_
  refine Z.callVI (σ := σ) B (M' := mX12_isShelf) (as := [.int (nI s)]) (st := []) (v := .int (nI 1)) dX12_show_2 wX12_isShelf iX12_isShelf sX12_isShelf kX12_90 (hl.n (k := 45) (by decide)) (hl.k (k := 45) (by decide)) (by decide) rfl rfl (t_X12_isShelf_in (σ := σ) hs) rfl rfl (by decide) (by decide) (Nat.le_of_ble_eq_true rfl) (by decide) (by decide) ?_
  refine Z.if_eqN B dX12_show_5 (tgt := 21) rfl (by omega) (fun h5 => by exfalso; first | omega | contradiction | simp_all) (fun h5 => ?_)
  refine Z.iload_n B dX12_show_8 (x := nI i) rfl ?_
  refine Z.iconst B dX12_show_9 (v := (-1)) rfl ?_
  refine Z.icmp_eq B dX12_show_10 (tgt := 27) rfl (fun h10 => absurd h10 (zm1 (by omega))) (fun h10 => ?_)
  refine Z.aload_n B dX12_show_13 (v := .ref 45) rfl rfl ?_
  refine Z.iload_n B dX12_show_14 (x := nI i) rfl ?_
  refine Z.callVI (σ := σ) B (M' := mX12_isWay) (as := [.int (nI i)]) (st := []) (v := .int (nI 1)) dX12_show_15 wX12_isWay iX12_isWay sX12_isWay kX12_98 (hl.n (k := 45) (by decide)) (hl.k (k := 45) (by decide)) (by decide) rfl rfl (t_X12_isWay_in (σ := σ) H hi) rfl rfl (by decide) (by decide) (Nat.le_of_ble_eq_true rfl) (by decide) (by decide) ?_
  refine Z.if_neN B dX12_show_18 (tgt := 27) rfl (by omega) (fun h18 => ?_) (fun h18 => by exfalso; first | omega | contradiction | simp_all)
  refine Z.aload_n B dX12_show_27 (v := .ref 45) rfl rfl ?_
  refine Z.getR (σ := σ) B fX12_41_12 dX12_show_28 (hl.n (k := 45) (by decide)) (hl.k (k := 45) (by decide)) (by decide) (j := 54) (hl.r (k := 45) (f := 13) (by decide) (by decide)) ?_
  refine Z.iload_n B dX12_show_31 (x := nI s) rfl ?_
  refine Z.iload_n B dX12_show_32 (x := nI i) rfl ?_
  refine Z.iconst B dX12_show_33 (v := (-1)) rfl ?_
  refine Z.icmp_ne B dX12_show_34 (tgt := 41) rfl (fun h34 => ?_) (fun h34 => absurd h34 (zm1 (by omega)))
  refine Z.iconst B dX12_show_41 (v := nI 2) rfl ?_
  refine Z.iast (σ := σ) B dX12_show_42 (n := 8) (hl.n (k := 54) (by decide)) (hl.k (k := 54) (by decide)) (hl.l (k := 54) (by decide)) (by decide) (j := s) rfl (by omega) (τ := (zuX σ 54 (upd (zX σ 54) s (nI 2)))) rfl ?_
  refine Z.aload_n B dX12_show_43 (v := .ref 45) rfl rfl ?_
  refine Z.getR (σ := (zuX σ 54 (upd (zX σ 54) s (nI 2)))) B fX12_50_12 dX12_show_44 (hl.n (k := 45) (by decide)) (hl.k (k := 45) (by decide)) (by decide) (j := 57) (hl.r (k := 45) (f := 16) (by decide) (by decide)) ?_
  refine Z.iload_n B dX12_show_47 (x := nI s) rfl ?_
  refine Z.iload_n B dX12_show_48 (x := nI i) rfl ?_
  refine Z.iast (σ := (zuX σ 54 (upd (zX σ 54) s (nI 2)))) B dX12_show_49 (n := 8) (hl.n (k := 57) (by decide)) (hl.k (k := 57) (by decide)) (hl.l (k := 57) (by decide)) (by decide) (j := s) rfl (by omega) (τ := (zuX (zuX σ 54 (upd (zX σ 54) s (nI 2))) 57 (upd (zX σ 57) s (nI i)))) rfl ?_
  refine Z.iload_n B dX12_show_50 (x := nI i) rfl ?_
  refine Z.iconst B dX12_show_51 (v := (-1)) rfl ?_
  refine Z.icmp_ne B dX12_show_52 (tgt := 59) rfl (fun h52 => ?_) (fun h52 => absurd h52 (zm1 (by omega)))
  refine Z.iconst B dX12_show_59 (v := nI 1) rfl ?_
  refine Z.iret B Rt dX12_show_60 (ty := .int) rfl rfl (by decide) (by decide) ?_
  exact ⟨rfl, rfl⟩

theorem t_M_holds_1 {σ : zSt} (hl : Lay σ) {s : Int32} (hs : zOut s 8)  : Dt mX12_holds [.ref 45, .int s] σ (some (.int (-1))) σ := by
  refine Dt.of (by decide) (Nat.le_of_ble_eq_true rfl) fun κ B Rt => ?_
  show Z κ 0 0 σ 0 [(0, .ref 45), (1, .int s)] []
  refine Z.aload_n B dX12_holds_0 (v := .ref 45) rfl rfl ?_
  refine Z.iload_n B dX12_holds_1 (x := s) rfl ?_
  refine Z.callVI (σ := σ) B (M' := mX12_isShelf) (as := [.int s]) (st := []) (v := .int (nI 0)) dX12_holds_2 wX12_isShelf iX12_isShelf sX12_isShelf kX12_90 (hl.n (k := 45) (by decide)) (hl.k (k := 45) (by decide)) (by decide) rfl rfl (t_X12_isShelf_out (σ := σ) hs) rfl rfl (by decide) (by decide) (Nat.le_of_ble_eq_true rfl) (by decide) (by decide) ?_
  refine Z.if_eqN B dX12_holds_5 (tgt := 17) rfl (by omega) (fun h5 => ?_) (fun h5 => by exfalso; first | omega | contradiction | simp_all)
  refine Z.iconst B dX12_holds_17 (v := (-1)) rfl ?_
  refine Z.iret B Rt dX12_holds_18 (ty := .int) rfl rfl (by decide) (by decide) ?_
  exact ⟨rfl, rfl⟩

theorem t_M_holds_n {σ : zSt} (hl : Lay σ) {s : Nat} (hs : s < 8) (hh : zMn σ s)  : Dt mX12_holds [.ref 45, .int (nI s)] σ (some (.int (-1))) σ := by
  refine Dt.of (by decide) (Nat.le_of_ble_eq_true rfl) fun κ B Rt => ?_
  show Z κ 0 0 σ 0 [(0, .ref 45), (1, .int (nI s))] []
  refine Z.aload_n B dX12_holds_0 (v := .ref 45) rfl rfl ?_
  refine Z.iload_n B dX12_holds_1 (x := nI s) rfl ?_
  refine Z.callVI (σ := σ) B (M' := mX12_isShelf) (as := [.int (nI s)]) (st := []) (v := .int (nI 1)) dX12_holds_2 wX12_isShelf iX12_isShelf sX12_isShelf kX12_90 (hl.n (k := 45) (by decide)) (hl.k (k := 45) (by decide)) (by decide) rfl rfl (t_X12_isShelf_in (σ := σ) hs) rfl rfl (by decide) (by decide) (Nat.le_of_ble_eq_true rfl) (by decide) (by decide) ?_
  refine Z.if_eqN B dX12_holds_5 (tgt := 17) rfl (by omega) (fun h5 => by exfalso; first | omega | contradiction | simp_all) (fun h5 => ?_)
  refine Z.aload_n B dX12_holds_8 (v := .ref 45) rfl rfl ?_
  refine Z.getR (σ := σ) B fX12_41_12 dX12_holds_9 (hl.n (k := 45) (by decide)) (hl.k (k := 45) (by decide)) (by decide) (j := 54) (hl.r (k := 45) (f := 13) (by decide) (by decide)) ?_
  refine Z.iload_n B dX12_holds_12 (x := nI s) rfl ?_
  refine Z.iald (σ := σ) B dX12_holds_13 (n := 8) (hl.n (k := 54) (by decide)) (hl.k (k := 54) (by decide)) (hl.l (k := 54) (by decide)) (by decide) (j := s) rfl (by omega) (v := nI 0) hh ?_
  refine Z.if_neN B dX12_holds_14 (tgt := 19) rfl (by omega) (fun h14 => by exfalso; first | omega | contradiction | simp_all) (fun h14 => ?_)
  refine Z.iconst B dX12_holds_17 (v := (-1)) rfl ?_
  refine Z.iret B Rt dX12_holds_18 (ty := .int) rfl rfl (by decide) (by decide) ?_
  exact ⟨rfl, rfl⟩

theorem t_M_holds_r {σ : zSt} (hl : Lay σ) {s : Nat} (hs : s < 8) {o m : Nat} (hh : zMr σ s o m)  : Dt mX12_holds [.ref 45, .int (nI s)] σ (some (.int (nI (100 + o)))) σ := by
  refine Dt.of (by decide) (Nat.le_of_ble_eq_true rfl) fun κ B Rt => ?_
  show Z κ 0 0 σ 0 [(0, .ref 45), (1, .int (nI s))] []
  refine Z.aload_n B dX12_holds_0 (v := .ref 45) rfl rfl ?_
  refine Z.iload_n B dX12_holds_1 (x := nI s) rfl ?_
  refine Z.callVI (σ := σ) B (M' := mX12_isShelf) (as := [.int (nI s)]) (st := []) (v := .int (nI 1)) dX12_holds_2 wX12_isShelf iX12_isShelf sX12_isShelf kX12_90 (hl.n (k := 45) (by decide)) (hl.k (k := 45) (by decide)) (by decide) rfl rfl (t_X12_isShelf_in (σ := σ) hs) rfl rfl (by decide) (by decide) (Nat.le_of_ble_eq_true rfl) (by decide) (by decide) ?_
  refine Z.if_eqN B dX12_holds_5 (tgt := 17) rfl (by omega) (fun h5 => by exfalso; first | omega | contradiction | simp_all) (fun h5 => ?_)
  refine Z.aload_n B dX12_holds_8 (v := .ref 45) rfl rfl ?_
  refine Z.getR (σ := σ) B fX12_41_12 dX12_holds_9 (hl.n (k := 45) (by decide)) (hl.k (k := 45) (by decide)) (by decide) (j := 54) (hl.r (k := 45) (f := 13) (by decide) (by decide)) ?_
  refine Z.iload_n B dX12_holds_12 (x := nI s) rfl ?_
  refine Z.iald (σ := σ) B dX12_holds_13 (n := 8) (hl.n (k := 54) (by decide)) (hl.k (k := 54) (by decide)) (hl.l (k := 54) (by decide)) (by decide) (j := s) rfl (by omega) (v := nI 1) hh.1 ?_
  refine Z.if_neN B dX12_holds_14 (tgt := 19) rfl (by omega) (fun h14 => ?_) (fun h14 => by exfalso; first | omega | contradiction | simp_all)
  refine Z.aload_n B dX12_holds_19 (v := .ref 45) rfl rfl ?_
  refine Z.getR (σ := σ) B fX12_41_12 dX12_holds_20 (hl.n (k := 45) (by decide)) (hl.k (k := 45) (by decide)) (by decide) (j := 54) (hl.r (k := 45) (f := 13) (by decide) (by decide)) ?_
  refine Z.iload_n B dX12_holds_23 (x := nI s) rfl ?_
  refine Z.iald (σ := σ) B dX12_holds_24 (n := 8) (hl.n (k := 54) (by decide)) (hl.k (k := 54) (by decide)) (hl.l (k := 54) (by decide)) (by decide) (j := s) rfl (by omega) (v := nI 1) hh.1 ?_
  refine Z.iconst B dX12_holds_25 (v := nI 1) rfl ?_
  refine Z.icmp_neN B dX12_holds_26 (tgt := 41) rfl (by omega) (by omega) (fun h26 => by exfalso; first | omega | contradiction | simp_all) (fun h26 => ?_)
  refine Z.bipush B dX12_holds_29 (v := nI 100) rfl ?_
  refine Z.aload_n B dX12_holds_31 (v := .ref 45) rfl rfl ?_
  refine Z.getR (σ := σ) B fX12_44_12 dX12_holds_32 (hl.n (k := 45) (by decide)) (hl.k (k := 45) (by decide)) (by decide) (j := 55) (hl.r (k := 45) (f := 14) (by decide) (by decide)) ?_
  refine Z.iload_n B dX12_holds_35 (x := nI s) rfl ?_
  refine Z.iald (σ := σ) B dX12_holds_36 (n := 8) (hl.n (k := 55) (by decide)) (hl.k (k := 55) (by decide)) (hl.l (k := 55) (by decide)) (by decide) (j := s) rfl (by omega) (v := nI o) hh.2.1 ?_
  refine Z.iaddN B dX12_holds_37 (a := 100) (b := o) ?_
  refine Z.goto B dX12_holds_38 (tgt := 47) rfl ?_
  refine Z.iret B Rt dX12_holds_47 (ty := .int) rfl rfl (by decide) (by decide) ?_
  exact ⟨rfl, rfl⟩

theorem t_M_holds_w {σ : zSt} (hl : Lay σ) {s : Nat} (hs : s < 8) {i8 : Nat} (hh : zMa σ s i8)  : Dt mX12_holds [.ref 45, .int (nI s)] σ (some (.int (zX σ 57 s))) σ := by
  refine Dt.of (by decide) (Nat.le_of_ble_eq_true rfl) fun κ B Rt => ?_
  show Z κ 0 0 σ 0 [(0, .ref 45), (1, .int (nI s))] []
  refine Z.aload_n B dX12_holds_0 (v := .ref 45) rfl rfl ?_
  refine Z.iload_n B dX12_holds_1 (x := nI s) rfl ?_
  refine Z.callVI (σ := σ) B (M' := mX12_isShelf) (as := [.int (nI s)]) (st := []) (v := .int (nI 1)) dX12_holds_2 wX12_isShelf iX12_isShelf sX12_isShelf kX12_90 (hl.n (k := 45) (by decide)) (hl.k (k := 45) (by decide)) (by decide) rfl rfl (t_X12_isShelf_in (σ := σ) hs) rfl rfl (by decide) (by decide) (Nat.le_of_ble_eq_true rfl) (by decide) (by decide) ?_
  refine Z.if_eqN B dX12_holds_5 (tgt := 17) rfl (by omega) (fun h5 => by exfalso; first | omega | contradiction | simp_all) (fun h5 => ?_)
  refine Z.aload_n B dX12_holds_8 (v := .ref 45) rfl rfl ?_
  refine Z.getR (σ := σ) B fX12_41_12 dX12_holds_9 (hl.n (k := 45) (by decide)) (hl.k (k := 45) (by decide)) (by decide) (j := 54) (hl.r (k := 45) (f := 13) (by decide) (by decide)) ?_
  refine Z.iload_n B dX12_holds_12 (x := nI s) rfl ?_
  refine Z.iald (σ := σ) B dX12_holds_13 (n := 8) (hl.n (k := 54) (by decide)) (hl.k (k := 54) (by decide)) (hl.l (k := 54) (by decide)) (by decide) (j := s) rfl (by omega) (v := nI 2) hh.1 ?_
  refine Z.if_neN B dX12_holds_14 (tgt := 19) rfl (by omega) (fun h14 => ?_) (fun h14 => by exfalso; first | omega | contradiction | simp_all)
  refine Z.aload_n B dX12_holds_19 (v := .ref 45) rfl rfl ?_
  refine Z.getR (σ := σ) B fX12_41_12 dX12_holds_20 (hl.n (k := 45) (by decide)) (hl.k (k := 45) (by decide)) (by decide) (j := 54) (hl.r (k := 45) (f := 13) (by decide) (by decide)) ?_
  refine Z.iload_n B dX12_holds_23 (x := nI s) rfl ?_
  refine Z.iald (σ := σ) B dX12_holds_24 (n := 8) (hl.n (k := 54) (by decide)) (hl.k (k := 54) (by decide)) (hl.l (k := 54) (by decide)) (by decide) (j := s) rfl (by omega) (v := nI 2) hh.1 ?_
  refine Z.iconst B dX12_holds_25 (v := nI 1) rfl ?_
  refine Z.icmp_neN B dX12_holds_26 (tgt := 41) rfl (by omega) (by omega) (fun h26 => ?_) (fun h26 => by exfalso; first | omega | contradiction | simp_all)
  refine Z.aload_n B dX12_holds_41 (v := .ref 45) rfl rfl ?_
  refine Z.getR (σ := σ) B fX12_50_12 dX12_holds_42 (hl.n (k := 45) (by decide)) (hl.k (k := 45) (by decide)) (by decide) (j := 57) (hl.r (k := 45) (f := 16) (by decide) (by decide)) ?_
  refine Z.iload_n B dX12_holds_45 (x := nI s) rfl ?_
  refine Z.iald (σ := σ) B dX12_holds_46 (n := 8) (hl.n (k := 57) (by decide)) (hl.k (k := 57) (by decide)) (hl.l (k := 57) (by decide)) (by decide) (j := s) rfl (by omega) (v := (zX σ 57 s)) rfl ?_
  refine Z.iret B Rt dX12_holds_47 (ty := .int) rfl rfl (by decide) (by decide) ?_
  exact ⟨rfl, rfl⟩

theorem t_M_comerOf_1 {σ : zSt} (hl : Lay σ) {n a y : Nat} (H : zMd σ n a y) {c : Int32} (hc : zOut c n) {w : Int32} : Dt mX12_comerOf [.ref 45, .int c, .int w] σ (some (.int (-5))) (zuX σ 46 (upd (zX σ 46) 5 (zX σ 46 5 + nI 1))) := by
  obtain ⟨-, hn, hn8, ha, ha4, hy, hy8⟩ := id H
  refine Dt.of (by decide) (Nat.le_of_ble_eq_true rfl) fun κ B Rt => ?_
  show Z κ 0 0 σ 0 [(0, .ref 45), (1, .int c), (2, .int w)] []
  refine Z.aload_n B dX12_comerOf_0 (v := .ref 45) rfl rfl ?_
  refine Z.iload_n B dX12_comerOf_1 (x := c) rfl ?_
  refine Z.callVI (σ := σ) B (M' := mX12_isComer) (as := [.int c]) (st := []) (v := .int (nI 0)) dX12_comerOf_2 wX12_isComer iX12_isComer sX12_isComer kX12_126 (hl.n (k := 45) (by decide)) (hl.k (k := 45) (by decide)) (by decide) rfl rfl (t_X12_isComer_out (σ := σ) H hc) rfl rfl (by decide) (by decide) (Nat.le_of_ble_eq_true rfl) (by decide) (by decide) ?_
  refine Z.if_eqN B dX12_comerOf_5 (tgt := 18) rfl (by omega) (fun h5 => ?_) (fun h5 => by exfalso; first | omega | contradiction | simp_all)
  refine Z.aload_n B dX12_comerOf_18 (v := .ref 45) rfl rfl ?_
  refine Z.bipush B dX12_comerOf_19 (v := (-5)) rfl ?_
  refine Z.callVI (σ := σ) B (M' := mX12_no) (as := [.int (-5)]) (st := []) (v := .int (-5)) dX12_comerOf_21 wX12_no iX12_no sX12_no kX12_94 (hl.n (k := 45) (by decide)) (hl.k (k := 45) (by decide)) (by decide) rfl rfl (t_X12_no_5 (σ := σ) hl) rfl rfl (by decide) (by decide) (Nat.le_of_ble_eq_true rfl) (by decide) (by decide) ?_
  refine Z.eqσ (τ := (zuX σ 46 (upd (zX σ 46) 5 (zX σ 46 5 + nI 1)))) rfl ?_
  refine Z.iret B Rt dX12_comerOf_24 (ty := .int) rfl rfl (by decide) (by decide) ?_
  exact ⟨rfl, rfl⟩

theorem t_M_comerOf_2 {σ : zSt} (hl : Lay σ) {n a y : Nat} (H : zMd σ n a y) {c : Nat} (hc : c < n) {w : Int32} (hw : zOut w 7) : Dt mX12_comerOf [.ref 45, .int (nI c), .int w] σ (some (.int (-5))) (zuX σ 46 (upd (zX σ 46) 5 (zX σ 46 5 + nI 1))) := by
  obtain ⟨-, hn, hn8, ha, ha4, hy, hy8⟩ := id H
  refine Dt.of (by decide) (Nat.le_of_ble_eq_true rfl) fun κ B Rt => ?_
  show Z κ 0 0 σ 0 [(0, .ref 45), (1, .int (nI c)), (2, .int w)] []
  refine Z.aload_n B dX12_comerOf_0 (v := .ref 45) rfl rfl ?_
  refine Z.iload_n B dX12_comerOf_1 (x := nI c) rfl ?_
  refine Z.callVI (σ := σ) B (M' := mX12_isComer) (as := [.int (nI c)]) (st := []) (v := .int (nI 1)) dX12_comerOf_2 wX12_isComer iX12_isComer sX12_isComer kX12_126 (hl.n (k := 45) (by decide)) (hl.k (k := 45) (by decide)) (by decide) rfl rfl (t_X12_isComer_in (σ := σ) H hc) rfl rfl (by decide) (by decide) (Nat.le_of_ble_eq_true rfl) (by decide) (by decide) ?_
  refine Z.if_eqN B dX12_comerOf_5 (tgt := 18) rfl (by omega) (fun h5 => by exfalso; first | omega | contradiction | simp_all) (fun h5 => ?_)
  refine Z.iload_n B dX12_comerOf_8 (x := w) rfl ?_
  refine Z.if_lt B dX12_comerOf_9 (tgt := 18) rfl (fun h9 => ?_) (fun h9 => ?_)
  · skip
    refine Z.aload_n B dX12_comerOf_18 (v := .ref 45) rfl rfl ?_
    refine Z.bipush B dX12_comerOf_19 (v := (-5)) rfl ?_
    refine Z.callVI (σ := σ) B (M' := mX12_no) (as := [.int (-5)]) (st := []) (v := .int (-5)) dX12_comerOf_21 wX12_no iX12_no sX12_no kX12_94 (hl.n (k := 45) (by decide)) (hl.k (k := 45) (by decide)) (by decide) rfl rfl (t_X12_no_5 (σ := σ) hl) rfl rfl (by decide) (by decide) (Nat.le_of_ble_eq_true rfl) (by decide) (by decide) ?_
    refine Z.eqσ (τ := (zuX σ 46 (upd (zX σ 46) 5 (zX σ 46 5 + nI 1)))) rfl ?_
    refine Z.iret B Rt dX12_comerOf_24 (ty := .int) rfl rfl (by decide) (by decide) ?_
    exact ⟨rfl, rfl⟩
  · skip
    refine Z.iload_n B dX12_comerOf_12 (x := w) rfl ?_
    refine Z.bipush B dX12_comerOf_13 (v := nI 6) rfl ?_
    refine Z.icmp_le B dX12_comerOf_15 (tgt := 25) rfl (fun h15 => (zo_le hw h9 h15 (by decide)).elim) (fun h15 => ?_)
    refine Z.aload_n B dX12_comerOf_18 (v := .ref 45) rfl rfl ?_
    refine Z.bipush B dX12_comerOf_19 (v := (-5)) rfl ?_
    refine Z.callVI (σ := σ) B (M' := mX12_no) (as := [.int (-5)]) (st := []) (v := .int (-5)) dX12_comerOf_21 wX12_no iX12_no sX12_no kX12_94 (hl.n (k := 45) (by decide)) (hl.k (k := 45) (by decide)) (by decide) rfl rfl (t_X12_no_5 (σ := σ) hl) rfl rfl (by decide) (by decide) (Nat.le_of_ble_eq_true rfl) (by decide) (by decide) ?_
    refine Z.eqσ (τ := (zuX σ 46 (upd (zX σ 46) 5 (zX σ 46 5 + nI 1)))) rfl ?_
    refine Z.iret B Rt dX12_comerOf_24 (ty := .int) rfl rfl (by decide) (by decide) ?_
    exact ⟨rfl, rfl⟩

theorem t_M_comerOf_0 {σ : zSt} (hl : Lay σ) {n a y : Nat} (H : zMd σ n a y) {c : Nat} (hc : c < n) {w : Nat} (hw : w < 7) : Dt mX12_comerOf [.ref 45, .int (nI c), .int (nI w)] σ (some (.int (cn (zX σ 47) c w))) σ := by
  obtain ⟨-, hn, hn8, ha, ha4, hy, hy8⟩ := id H
  refine Dt.of (by decide) (Nat.le_of_ble_eq_true rfl) fun κ B Rt => ?_
  show Z κ 0 0 σ 0 [(0, .ref 45), (1, .int (nI c)), (2, .int (nI w))] []
  refine Z.aload_n B dX12_comerOf_0 (v := .ref 45) rfl rfl ?_
  refine Z.iload_n B dX12_comerOf_1 (x := nI c) rfl ?_
  refine Z.callVI (σ := σ) B (M' := mX12_isComer) (as := [.int (nI c)]) (st := []) (v := .int (nI 1)) dX12_comerOf_2 wX12_isComer iX12_isComer sX12_isComer kX12_126 (hl.n (k := 45) (by decide)) (hl.k (k := 45) (by decide)) (by decide) rfl rfl (t_X12_isComer_in (σ := σ) H hc) rfl rfl (by decide) (by decide) (Nat.le_of_ble_eq_true rfl) (by decide) (by decide) ?_
  refine Z.if_eqN B dX12_comerOf_5 (tgt := 18) rfl (by omega) (fun h5 => by exfalso; first | omega | contradiction | simp_all) (fun h5 => ?_)
  refine Z.iload_n B dX12_comerOf_8 (x := nI w) rfl ?_
  refine Z.if_ltN B dX12_comerOf_9 (tgt := 18) rfl (by omega) ?_
  refine Z.iload_n B dX12_comerOf_12 (x := nI w) rfl ?_
  refine Z.bipush B dX12_comerOf_13 (v := nI 6) rfl ?_
  refine Z.icmp_leN B dX12_comerOf_15 (tgt := 25) rfl (by omega) (by omega) (fun h15 => ?_) (fun h15 => by exfalso; first | omega | contradiction | simp_all)
  refine Z.iload_n B dX12_comerOf_25 (x := nI w) rfl ?_
  refine Z.bipush B dX12_comerOf_26 (v := nI 6) rfl ?_
  refine Z.icmp_neN B dX12_comerOf_28 (tgt := 39) rfl (by omega) (by omega) (fun h28 => ?_) (fun h28 => ?_)
  · skip
    refine Z.aload_n B dX12_comerOf_39 (v := .ref 45) rfl rfl ?_
    refine Z.getR (σ := σ) B fX12_20_12 dX12_comerOf_40 (hl.n (k := 45) (by decide)) (hl.k (k := 45) (by decide)) (by decide) (j := 47) (hl.r (k := 45) (f := 6) (by decide) (by decide)) ?_
    refine Z.bipush B dX12_comerOf_43 (v := nI 6) rfl ?_
    refine Z.iload_n B dX12_comerOf_45 (x := nI c) rfl ?_
    refine Z.imulNc B dX12_comerOf_46 (a := 6) (b := c) ?_
    refine Z.iload_n B dX12_comerOf_47 (x := nI w) rfl ?_
    refine Z.iaddN B dX12_comerOf_48 (a := c * 6) (b := w) ?_
    refine Z.iald (σ := σ) B dX12_comerOf_49 (n := 48) (hl.n (k := 47) (by decide)) (hl.k (k := 47) (by decide)) (hl.l (k := 47) (by decide)) (by decide) (j := (c * 6) + w) rfl (by omega) (v := (zX σ 47 ((c * 6) + w))) rfl ?_
    refine Z.iret B Rt dX12_comerOf_50 (ty := .int) rfl rfl (by decide) (by decide) ?_
    first | exact ⟨by rw [h28], rfl⟩ | exact ⟨by rw [cn_ne h28], rfl⟩
  · skip
    refine Z.aload_n B dX12_comerOf_31 (v := .ref 45) rfl rfl ?_
    refine Z.iload_n B dX12_comerOf_32 (x := nI c) rfl ?_
    refine Z.callVI (σ := σ) B (M' := mX12_sumOf) (as := [.int (nI c)]) (st := []) (v := .int (cn (zX σ 47) c 6)) dX12_comerOf_33 wX12_sumOf iX12_sumOf sX12_sumOf kX12_101 (hl.n (k := 45) (by decide)) (hl.k (k := 45) (by decide)) (by decide) rfl rfl (t_X12_sumOf (σ := σ) H (c := c) (by omega)) rfl rfl (by decide) (by decide) (Nat.le_of_ble_eq_true rfl) (by decide) (by decide) ?_
    refine Z.goto B dX12_comerOf_36 (tgt := 50) rfl ?_
    refine Z.iret B Rt dX12_comerOf_50 (ty := .int) rfl rfl (by decide) (by decide) ?_
    first | exact ⟨by rw [h28], rfl⟩ | exact ⟨by rw [cn_ne h28], rfl⟩

theorem t_M_askerOf_1 {σ : zSt} (hl : Lay σ) {n a y : Nat} (H : zMd σ n a y) {b : Int32} (hb : zOut b a) {w : Int32} : Dt mX12_askerOf [.ref 45, .int b, .int w] σ (some (.int (-5))) (zuX σ 46 (upd (zX σ 46) 5 (zX σ 46 5 + nI 1))) := by
  obtain ⟨-, hn, hn8, ha, ha4, hy, hy8⟩ := id H
  refine Dt.of (by decide) (Nat.le_of_ble_eq_true rfl) fun κ B Rt => ?_
  show Z κ 0 0 σ 0 [(0, .ref 45), (1, .int b), (2, .int w)] []
  refine Z.aload_n B dX12_askerOf_0 (v := .ref 45) rfl rfl ?_
  refine Z.iload_n B dX12_askerOf_1 (x := b) rfl ?_
  refine Z.callVI (σ := σ) B (M' := mX12_isAsker) (as := [.int b]) (st := []) (v := .int (nI 0)) dX12_askerOf_2 wX12_isAsker iX12_isAsker sX12_isAsker kX12_129 (hl.n (k := 45) (by decide)) (hl.k (k := 45) (by decide)) (by decide) rfl rfl (t_X12_isAsker_out (σ := σ) H hb) rfl rfl (by decide) (by decide) (Nat.le_of_ble_eq_true rfl) (by decide) (by decide) ?_
  refine Z.if_eqN B dX12_askerOf_5 (tgt := 17) rfl (by omega) (fun h5 => ?_) (fun h5 => by exfalso; first | omega | contradiction | simp_all)
  refine Z.aload_n B dX12_askerOf_17 (v := .ref 45) rfl rfl ?_
  refine Z.bipush B dX12_askerOf_18 (v := (-5)) rfl ?_
  refine Z.callVI (σ := σ) B (M' := mX12_no) (as := [.int (-5)]) (st := []) (v := .int (-5)) dX12_askerOf_20 wX12_no iX12_no sX12_no kX12_94 (hl.n (k := 45) (by decide)) (hl.k (k := 45) (by decide)) (by decide) rfl rfl (t_X12_no_5 (σ := σ) hl) rfl rfl (by decide) (by decide) (Nat.le_of_ble_eq_true rfl) (by decide) (by decide) ?_
  refine Z.eqσ (τ := (zuX σ 46 (upd (zX σ 46) 5 (zX σ 46 5 + nI 1)))) rfl ?_
  refine Z.iret B Rt dX12_askerOf_23 (ty := .int) rfl rfl (by decide) (by decide) ?_
  exact ⟨rfl, rfl⟩

theorem t_M_askerOf_2 {σ : zSt} (hl : Lay σ) {n a y : Nat} (H : zMd σ n a y) {b : Nat} (hb : b < a) {w : Int32} (hw : zOut w 4) : Dt mX12_askerOf [.ref 45, .int (nI b), .int w] σ (some (.int (-5))) (zuX σ 46 (upd (zX σ 46) 5 (zX σ 46 5 + nI 1))) := by
  obtain ⟨-, hn, hn8, ha, ha4, hy, hy8⟩ := id H
  refine Dt.of (by decide) (Nat.le_of_ble_eq_true rfl) fun κ B Rt => ?_
  show Z κ 0 0 σ 0 [(0, .ref 45), (1, .int (nI b)), (2, .int w)] []
  refine Z.aload_n B dX12_askerOf_0 (v := .ref 45) rfl rfl ?_
  refine Z.iload_n B dX12_askerOf_1 (x := nI b) rfl ?_
  refine Z.callVI (σ := σ) B (M' := mX12_isAsker) (as := [.int (nI b)]) (st := []) (v := .int (nI 1)) dX12_askerOf_2 wX12_isAsker iX12_isAsker sX12_isAsker kX12_129 (hl.n (k := 45) (by decide)) (hl.k (k := 45) (by decide)) (by decide) rfl rfl (t_X12_isAsker_in (σ := σ) H hb) rfl rfl (by decide) (by decide) (Nat.le_of_ble_eq_true rfl) (by decide) (by decide) ?_
  refine Z.if_eqN B dX12_askerOf_5 (tgt := 17) rfl (by omega) (fun h5 => by exfalso; first | omega | contradiction | simp_all) (fun h5 => ?_)
  refine Z.iload_n B dX12_askerOf_8 (x := w) rfl ?_
  refine Z.if_lt B dX12_askerOf_9 (tgt := 17) rfl (fun h9 => ?_) (fun h9 => ?_)
  · skip
    refine Z.aload_n B dX12_askerOf_17 (v := .ref 45) rfl rfl ?_
    refine Z.bipush B dX12_askerOf_18 (v := (-5)) rfl ?_
    refine Z.callVI (σ := σ) B (M' := mX12_no) (as := [.int (-5)]) (st := []) (v := .int (-5)) dX12_askerOf_20 wX12_no iX12_no sX12_no kX12_94 (hl.n (k := 45) (by decide)) (hl.k (k := 45) (by decide)) (by decide) rfl rfl (t_X12_no_5 (σ := σ) hl) rfl rfl (by decide) (by decide) (Nat.le_of_ble_eq_true rfl) (by decide) (by decide) ?_
    refine Z.eqσ (τ := (zuX σ 46 (upd (zX σ 46) 5 (zX σ 46 5 + nI 1)))) rfl ?_
    refine Z.iret B Rt dX12_askerOf_23 (ty := .int) rfl rfl (by decide) (by decide) ?_
    exact ⟨rfl, rfl⟩
  · skip
    refine Z.iload_n B dX12_askerOf_12 (x := w) rfl ?_
    refine Z.iconst B dX12_askerOf_13 (v := nI 3) rfl ?_
    refine Z.icmp_le B dX12_askerOf_14 (tgt := 24) rfl (fun h14 => (zo_le hw h9 h14 (by decide)).elim) (fun h14 => ?_)
    refine Z.aload_n B dX12_askerOf_17 (v := .ref 45) rfl rfl ?_
    refine Z.bipush B dX12_askerOf_18 (v := (-5)) rfl ?_
    refine Z.callVI (σ := σ) B (M' := mX12_no) (as := [.int (-5)]) (st := []) (v := .int (-5)) dX12_askerOf_20 wX12_no iX12_no sX12_no kX12_94 (hl.n (k := 45) (by decide)) (hl.k (k := 45) (by decide)) (by decide) rfl rfl (t_X12_no_5 (σ := σ) hl) rfl rfl (by decide) (by decide) (Nat.le_of_ble_eq_true rfl) (by decide) (by decide) ?_
    refine Z.eqσ (τ := (zuX σ 46 (upd (zX σ 46) 5 (zX σ 46 5 + nI 1)))) rfl ?_
    refine Z.iret B Rt dX12_askerOf_23 (ty := .int) rfl rfl (by decide) (by decide) ?_
    exact ⟨rfl, rfl⟩

theorem t_M_askerOf_0_0 {σ : zSt} (hl : Lay σ) {n a y : Nat} (H : zMd σ n a y) {b : Nat} (hb : b < a)  : Dt mX12_askerOf [.ref 45, .int (nI b), .int (nI 0)] σ (some (.int (zX σ 48 b))) σ := by
  obtain ⟨-, hn, hn8, ha, ha4, hy, hy8⟩ := id H
  refine Dt.of (by decide) (Nat.le_of_ble_eq_true rfl) fun κ B Rt => ?_
  show Z κ 0 0 σ 0 [(0, .ref 45), (1, .int (nI b)), (2, .int (nI 0))] []
  refine Z.aload_n B dX12_askerOf_0 (v := .ref 45) rfl rfl ?_
  refine Z.iload_n B dX12_askerOf_1 (x := nI b) rfl ?_
  refine Z.callVI (σ := σ) B (M' := mX12_isAsker) (as := [.int (nI b)]) (st := []) (v := .int (nI 1)) dX12_askerOf_2 wX12_isAsker iX12_isAsker sX12_isAsker kX12_129 (hl.n (k := 45) (by decide)) (hl.k (k := 45) (by decide)) (by decide) rfl rfl (t_X12_isAsker_in (σ := σ) H hb) rfl rfl (by decide) (by decide) (Nat.le_of_ble_eq_true rfl) (by decide) (by decide) ?_
  refine Z.if_eqN B dX12_askerOf_5 (tgt := 17) rfl (by omega) (fun h5 => by exfalso; first | omega | contradiction | simp_all) (fun h5 => ?_)
  refine Z.iload_n B dX12_askerOf_8 (x := nI 0) rfl ?_
  refine Z.if_ltN B dX12_askerOf_9 (tgt := 17) rfl (by omega) ?_
  refine Z.iload_n B dX12_askerOf_12 (x := nI 0) rfl ?_
  refine Z.iconst B dX12_askerOf_13 (v := nI 3) rfl ?_
  refine Z.icmp_leN B dX12_askerOf_14 (tgt := 24) rfl (by omega) (by omega) (fun h14 => ?_) (fun h14 => by exfalso; first | omega | contradiction | simp_all)
  refine Z.iload_n B dX12_askerOf_24 (x := nI 0) rfl ?_
  refine Z.if_neN B dX12_askerOf_25 (tgt := 37) rfl (by omega) (fun h25 => by exfalso; first | omega | contradiction | simp_all) (fun h25 => ?_)
  refine Z.aload_n B dX12_askerOf_28 (v := .ref 45) rfl rfl ?_
  refine Z.getR (σ := σ) B fX12_23_12 dX12_askerOf_29 (hl.n (k := 45) (by decide)) (hl.k (k := 45) (by decide)) (by decide) (j := 48) (hl.r (k := 45) (f := 7) (by decide) (by decide)) ?_
  refine Z.iload_n B dX12_askerOf_32 (x := nI b) rfl ?_
  refine Z.iald (σ := σ) B dX12_askerOf_33 (n := 4) (hl.n (k := 48) (by decide)) (hl.k (k := 48) (by decide)) (hl.l (k := 48) (by decide)) (by decide) (j := b) rfl (by omega) (v := (zX σ 48 b)) rfl ?_
  refine Z.goto B dX12_askerOf_34 (tgt := 70) rfl ?_
  refine Z.iret B Rt dX12_askerOf_70 (ty := .int) rfl rfl (by decide) (by decide) ?_
  exact ⟨rfl, rfl⟩

theorem t_M_askerOf_0_1 {σ : zSt} (hl : Lay σ) {n a y : Nat} (H : zMd σ n a y) {b : Nat} (hb : b < a)  : Dt mX12_askerOf [.ref 45, .int (nI b), .int (nI 1)] σ (some (.int (zX σ 49 b))) σ := by
  obtain ⟨-, hn, hn8, ha, ha4, hy, hy8⟩ := id H
  refine Dt.of (by decide) (Nat.le_of_ble_eq_true rfl) fun κ B Rt => ?_
  show Z κ 0 0 σ 0 [(0, .ref 45), (1, .int (nI b)), (2, .int (nI 1))] []
  refine Z.aload_n B dX12_askerOf_0 (v := .ref 45) rfl rfl ?_
  refine Z.iload_n B dX12_askerOf_1 (x := nI b) rfl ?_
  refine Z.callVI (σ := σ) B (M' := mX12_isAsker) (as := [.int (nI b)]) (st := []) (v := .int (nI 1)) dX12_askerOf_2 wX12_isAsker iX12_isAsker sX12_isAsker kX12_129 (hl.n (k := 45) (by decide)) (hl.k (k := 45) (by decide)) (by decide) rfl rfl (t_X12_isAsker_in (σ := σ) H hb) rfl rfl (by decide) (by decide) (Nat.le_of_ble_eq_true rfl) (by decide) (by decide) ?_
  refine Z.if_eqN B dX12_askerOf_5 (tgt := 17) rfl (by omega) (fun h5 => by exfalso; first | omega | contradiction | simp_all) (fun h5 => ?_)
  refine Z.iload_n B dX12_askerOf_8 (x := nI 1) rfl ?_
  refine Z.if_ltN B dX12_askerOf_9 (tgt := 17) rfl (by omega) ?_
  refine Z.iload_n B dX12_askerOf_12 (x := nI 1) rfl ?_
  refine Z.iconst B dX12_askerOf_13 (v := nI 3) rfl ?_
  refine Z.icmp_leN B dX12_askerOf_14 (tgt := 24) rfl (by omega) (by omega) (fun h14 => ?_) (fun h14 => by exfalso; first | omega | contradiction | simp_all)
  refine Z.iload_n B dX12_askerOf_24 (x := nI 1) rfl ?_
  refine Z.if_neN B dX12_askerOf_25 (tgt := 37) rfl (by omega) (fun h25 => ?_) (fun h25 => by exfalso; first | omega | contradiction | simp_all)
  refine Z.iload_n B dX12_askerOf_37 (x := nI 1) rfl ?_
  refine Z.iconst B dX12_askerOf_38 (v := nI 1) rfl ?_
  refine Z.icmp_neN B dX12_askerOf_39 (tgt := 51) rfl (by omega) (by omega) (fun h39 => by exfalso; first | omega | contradiction | simp_all) (fun h39 => ?_)
  refine Z.aload_n B dX12_askerOf_42 (v := .ref 45) rfl rfl ?_
  refine Z.getR (σ := σ) B fX12_26_12 dX12_askerOf_43 (hl.n (k := 45) (by decide)) (hl.k (k := 45) (by decide)) (by decide) (j := 49) (hl.r (k := 45) (f := 8) (by decide) (by decide)) ?_
  refine Z.iload_n B dX12_askerOf_46 (x := nI b) rfl ?_
  refine Z.iald (σ := σ) B dX12_askerOf_47 (n := 4) (hl.n (k := 49) (by decide)) (hl.k (k := 49) (by decide)) (hl.l (k := 49) (by decide)) (by decide) (j := b) rfl (by omega) (v := (zX σ 49 b)) rfl ?_
  refine Z.goto B dX12_askerOf_48 (tgt := 70) rfl ?_
  refine Z.iret B Rt dX12_askerOf_70 (ty := .int) rfl rfl (by decide) (by decide) ?_
  exact ⟨rfl, rfl⟩

theorem t_M_askerOf_0_2 {σ : zSt} (hl : Lay σ) {n a y : Nat} (H : zMd σ n a y) {b : Nat} (hb : b < a)  : Dt mX12_askerOf [.ref 45, .int (nI b), .int (nI 2)] σ (some (.int (zX σ 50 b))) σ := by
  obtain ⟨-, hn, hn8, ha, ha4, hy, hy8⟩ := id H
  refine Dt.of (by decide) (Nat.le_of_ble_eq_true rfl) fun κ B Rt => ?_
  show Z κ 0 0 σ 0 [(0, .ref 45), (1, .int (nI b)), (2, .int (nI 2))] []
  refine Z.aload_n B dX12_askerOf_0 (v := .ref 45) rfl rfl ?_
  refine Z.iload_n B dX12_askerOf_1 (x := nI b) rfl ?_
  refine Z.callVI (σ := σ) B (M' := mX12_isAsker) (as := [.int (nI b)]) (st := []) (v := .int (nI 1)) dX12_askerOf_2 wX12_isAsker iX12_isAsker sX12_isAsker kX12_129 (hl.n (k := 45) (by decide)) (hl.k (k := 45) (by decide)) (by decide) rfl rfl (t_X12_isAsker_in (σ := σ) H hb) rfl rfl (by decide) (by decide) (Nat.le_of_ble_eq_true rfl) (by decide) (by decide) ?_
  refine Z.if_eqN B dX12_askerOf_5 (tgt := 17) rfl (by omega) (fun h5 => by exfalso; first | omega | contradiction | simp_all) (fun h5 => ?_)
  refine Z.iload_n B dX12_askerOf_8 (x := nI 2) rfl ?_
  refine Z.if_ltN B dX12_askerOf_9 (tgt := 17) rfl (by omega) ?_
  refine Z.iload_n B dX12_askerOf_12 (x := nI 2) rfl ?_
  refine Z.iconst B dX12_askerOf_13 (v := nI 3) rfl ?_
  refine Z.icmp_leN B dX12_askerOf_14 (tgt := 24) rfl (by omega) (by omega) (fun h14 => ?_) (fun h14 => by exfalso; first | omega | contradiction | simp_all)
  refine Z.iload_n B dX12_askerOf_24 (x := nI 2) rfl ?_
  refine Z.if_neN B dX12_askerOf_25 (tgt := 37) rfl (by omega) (fun h25 => ?_) (fun h25 => by exfalso; first | omega | contradiction | simp_all)
  refine Z.iload_n B dX12_askerOf_37 (x := nI 2) rfl ?_
  refine Z.iconst B dX12_askerOf_38 (v := nI 1) rfl ?_
  refine Z.icmp_neN B dX12_askerOf_39 (tgt := 51) rfl (by omega) (by omega) (fun h39 => ?_) (fun h39 => by exfalso; first | omega | contradiction | simp_all)
  refine Z.iload_n B dX12_askerOf_51 (x := nI 2) rfl ?_
  refine Z.iconst B dX12_askerOf_52 (v := nI 2) rfl ?_
  refine Z.icmp_neN B dX12_askerOf_53 (tgt := 65) rfl (by omega) (by omega) (fun h53 => by exfalso; first | omega | contradiction | simp_all) (fun h53 => ?_)
  refine Z.aload_n B dX12_askerOf_56 (v := .ref 45) rfl rfl ?_
  refine Z.getR (σ := σ) B fX12_29_12 dX12_askerOf_57 (hl.n (k := 45) (by decide)) (hl.k (k := 45) (by decide)) (by decide) (j := 50) (hl.r (k := 45) (f := 9) (by decide) (by decide)) ?_
  refine Z.iload_n B dX12_askerOf_60 (x := nI b) rfl ?_
  refine Z.iald (σ := σ) B dX12_askerOf_61 (n := 4) (hl.n (k := 50) (by decide)) (hl.k (k := 50) (by decide)) (hl.l (k := 50) (by decide)) (by decide) (j := b) rfl (by omega) (v := (zX σ 50 b)) rfl ?_
  refine Z.goto B dX12_askerOf_62 (tgt := 70) rfl ?_
  refine Z.iret B Rt dX12_askerOf_70 (ty := .int) rfl rfl (by decide) (by decide) ?_
  exact ⟨rfl, rfl⟩

theorem t_M_askerOf_3 {σ : zSt} (hl : Lay σ) {n a y : Nat} (H : zMd σ n a y) {od : Nat → Nat} (ho : zMo σ a od) {b p : Nat} (hp : p < a) (hpb : od p = b) (hmin : ∀ j, j < p → od j ≠ b)  : Dt mX12_askerOf [.ref 45, .int (nI b), .int (nI 3)] σ (some (.int (nI p))) σ := by
  obtain ⟨-, hn, hn8, ha, ha4, hy, hy8⟩ := id H
  refine Dt.of (by decide) (Nat.le_of_ble_eq_true rfl) fun κ B Rt => ?_
  show Z κ 0 0 σ 0 [(0, .ref 45), (1, .int (nI b)), (2, .int (nI 3))] []
  have hb : b < a := hpb ▸ (ho p hp).2
  refine Z.aload_n B dX12_askerOf_0 (v := .ref 45) rfl rfl ?_
  refine Z.iload_n B dX12_askerOf_1 (x := nI b) rfl ?_
  refine Z.callVI (σ := σ) B (M' := mX12_isAsker) (as := [.int (nI b)]) (st := []) (v := .int (nI 1)) dX12_askerOf_2 wX12_isAsker iX12_isAsker sX12_isAsker kX12_129 (hl.n (k := 45) (by decide)) (hl.k (k := 45) (by decide)) (by decide) rfl rfl (t_X12_isAsker_in (σ := σ) H hb) rfl rfl (by decide) (by decide) (Nat.le_of_ble_eq_true rfl) (by decide) (by decide) ?_
  refine Z.if_eqN B dX12_askerOf_5 (tgt := 17) rfl (by omega) (fun h5 => by exfalso; first | omega | contradiction | simp_all) (fun h5 => ?_)
  refine Z.iload_n B dX12_askerOf_8 (x := nI 3) rfl ?_
  refine Z.if_ltN B dX12_askerOf_9 (tgt := 17) rfl (by omega) ?_
  refine Z.iload_n B dX12_askerOf_12 (x := nI 3) rfl ?_
  refine Z.iconst B dX12_askerOf_13 (v := nI 3) rfl ?_
  refine Z.icmp_leN B dX12_askerOf_14 (tgt := 24) rfl (by omega) (by omega) (fun h14 => ?_) (fun h14 => by exfalso; first | omega | contradiction | simp_all)
  refine Z.iload_n B dX12_askerOf_24 (x := nI 3) rfl ?_
  refine Z.if_neN B dX12_askerOf_25 (tgt := 37) rfl (by omega) (fun h25 => ?_) (fun h25 => by exfalso; first | omega | contradiction | simp_all)
  refine Z.iload_n B dX12_askerOf_37 (x := nI 3) rfl ?_
  refine Z.iconst B dX12_askerOf_38 (v := nI 1) rfl ?_
  refine Z.icmp_neN B dX12_askerOf_39 (tgt := 51) rfl (by omega) (by omega) (fun h39 => ?_) (fun h39 => by exfalso; first | omega | contradiction | simp_all)
  refine Z.iload_n B dX12_askerOf_51 (x := nI 3) rfl ?_
  refine Z.iconst B dX12_askerOf_52 (v := nI 2) rfl ?_
  refine Z.icmp_neN B dX12_askerOf_53 (tgt := 65) rfl (by omega) (by omega) (fun h53 => ?_) (fun h53 => by exfalso; first | omega | contradiction | simp_all)
  refine Z.aload_n B dX12_askerOf_65 (v := .ref 45) rfl rfl ?_
  refine Z.iload_n B dX12_askerOf_66 (x := nI b) rfl ?_
  refine Z.callVI (σ := σ) B (M' := mX12_placeOf) (as := [.int (nI b)]) (st := []) (v := .int (nI p)) dX12_askerOf_67 wX12_placeOf iX12_placeOf sX12_placeOf kX12_132 (hl.n (k := 45) (by decide)) (hl.k (k := 45) (by decide)) (by decide) rfl rfl (t_X12_placeOf (σ := σ) H ho hp hpb hmin) rfl rfl (by decide) (by decide) (Nat.le_of_ble_eq_true rfl) (by decide) (by decide) ?_
  refine Z.iret B Rt dX12_askerOf_70 (ty := .int) rfl rfl (by decide) (by decide) ?_
  exact ⟨rfl, rfl⟩

theorem t_M_wayOf_1 {σ : zSt} (hl : Lay σ) {n a y : Nat} (H : zMd σ n a y) {i : Int32} (hi : zOut i y) {w : Int32} : Dt mX12_wayOf [.ref 45, .int i, .int w] σ (some (.int (-5))) (zuX σ 46 (upd (zX σ 46) 5 (zX σ 46 5 + nI 1))) := by
  obtain ⟨-, hn, hn8, ha, ha4, hy, hy8⟩ := id H
  refine Dt.of (by decide) (Nat.le_of_ble_eq_true rfl) fun κ B Rt => ?_
  show Z κ 0 0 σ 0 [(0, .ref 45), (1, .int i), (2, .int w)] []
  refine Z.aload_n B dX12_wayOf_0 (v := .ref 45) rfl rfl ?_
  refine Z.iload_n B dX12_wayOf_1 (x := i) rfl ?_
  refine Z.callVI (σ := σ) B (M' := mX12_isWay) (as := [.int i]) (st := []) (v := .int (nI 0)) dX12_wayOf_2 wX12_isWay iX12_isWay sX12_isWay kX12_98 (hl.n (k := 45) (by decide)) (hl.k (k := 45) (by decide)) (by decide) rfl rfl (t_X12_isWay_out (σ := σ) H hi) rfl rfl (by decide) (by decide) (Nat.le_of_ble_eq_true rfl) (by decide) (by decide) ?_
  refine Z.if_eqN B dX12_wayOf_5 (tgt := 17) rfl (by omega) (fun h5 => ?_) (fun h5 => by exfalso; first | omega | contradiction | simp_all)
  refine Z.aload_n B dX12_wayOf_17 (v := .ref 45) rfl rfl ?_
  refine Z.bipush B dX12_wayOf_18 (v := (-5)) rfl ?_
  refine Z.callVI (σ := σ) B (M' := mX12_no) (as := [.int (-5)]) (st := []) (v := .int (-5)) dX12_wayOf_20 wX12_no iX12_no sX12_no kX12_94 (hl.n (k := 45) (by decide)) (hl.k (k := 45) (by decide)) (by decide) rfl rfl (t_X12_no_5 (σ := σ) hl) rfl rfl (by decide) (by decide) (Nat.le_of_ble_eq_true rfl) (by decide) (by decide) ?_
  refine Z.eqσ (τ := (zuX σ 46 (upd (zX σ 46) 5 (zX σ 46 5 + nI 1)))) rfl ?_
  refine Z.iret B Rt dX12_wayOf_23 (ty := .int) rfl rfl (by decide) (by decide) ?_
  exact ⟨rfl, rfl⟩

theorem t_M_wayOf_2 {σ : zSt} (hl : Lay σ) {n a y : Nat} (H : zMd σ n a y) {i kd pa : Nat} (hi : i < y) (hw : zMy σ i kd pa) {w : Int32} (hv : zOut w 2) : Dt mX12_wayOf [.ref 45, .int (nI i), .int w] σ (some (.int (-5))) (zuX σ 46 (upd (zX σ 46) 5 (zX σ 46 5 + nI 1))) := by
  obtain ⟨-, hn, hn8, ha, ha4, hy, hy8⟩ := id H
  refine Dt.of (by decide) (Nat.le_of_ble_eq_true rfl) fun κ B Rt => ?_
  show Z κ 0 0 σ 0 [(0, .ref 45), (1, .int (nI i)), (2, .int w)] []
  refine Z.aload_n B dX12_wayOf_0 (v := .ref 45) rfl rfl ?_
  refine Z.iload_n B dX12_wayOf_1 (x := nI i) rfl ?_
  refine Z.callVI (σ := σ) B (M' := mX12_isWay) (as := [.int (nI i)]) (st := []) (v := .int (nI 1)) dX12_wayOf_2 wX12_isWay iX12_isWay sX12_isWay kX12_98 (hl.n (k := 45) (by decide)) (hl.k (k := 45) (by decide)) (by decide) rfl rfl (t_X12_isWay_in (σ := σ) H hi) rfl rfl (by decide) (by decide) (Nat.le_of_ble_eq_true rfl) (by decide) (by decide) ?_
  refine Z.if_eqN B dX12_wayOf_5 (tgt := 17) rfl (by omega) (fun h5 => by exfalso; first | omega | contradiction | simp_all) (fun h5 => ?_)
  refine Z.iload_n B dX12_wayOf_8 (x := w) rfl ?_
  refine Z.if_lt B dX12_wayOf_9 (tgt := 17) rfl (fun h9 => ?_) (fun h9 => ?_)
  · skip
    refine Z.aload_n B dX12_wayOf_17 (v := .ref 45) rfl rfl ?_
    refine Z.bipush B dX12_wayOf_18 (v := (-5)) rfl ?_
    refine Z.callVI (σ := σ) B (M' := mX12_no) (as := [.int (-5)]) (st := []) (v := .int (-5)) dX12_wayOf_20 wX12_no iX12_no sX12_no kX12_94 (hl.n (k := 45) (by decide)) (hl.k (k := 45) (by decide)) (by decide) rfl rfl (t_X12_no_5 (σ := σ) hl) rfl rfl (by decide) (by decide) (Nat.le_of_ble_eq_true rfl) (by decide) (by decide) ?_
    refine Z.eqσ (τ := (zuX σ 46 (upd (zX σ 46) 5 (zX σ 46 5 + nI 1)))) rfl ?_
    refine Z.iret B Rt dX12_wayOf_23 (ty := .int) rfl rfl (by decide) (by decide) ?_
    exact ⟨rfl, rfl⟩
  · skip
    refine Z.iload_n B dX12_wayOf_12 (x := w) rfl ?_
    refine Z.iconst B dX12_wayOf_13 (v := nI 1) rfl ?_
    refine Z.icmp_le B dX12_wayOf_14 (tgt := 24) rfl (fun h14 => (zo_le hv h9 h14 (by decide)).elim) (fun h14 => ?_)
    refine Z.aload_n B dX12_wayOf_17 (v := .ref 45) rfl rfl ?_
    refine Z.bipush B dX12_wayOf_18 (v := (-5)) rfl ?_
    refine Z.callVI (σ := σ) B (M' := mX12_no) (as := [.int (-5)]) (st := []) (v := .int (-5)) dX12_wayOf_20 wX12_no iX12_no sX12_no kX12_94 (hl.n (k := 45) (by decide)) (hl.k (k := 45) (by decide)) (by decide) rfl rfl (t_X12_no_5 (σ := σ) hl) rfl rfl (by decide) (by decide) (Nat.le_of_ble_eq_true rfl) (by decide) (by decide) ?_
    refine Z.eqσ (τ := (zuX σ 46 (upd (zX σ 46) 5 (zX σ 46 5 + nI 1)))) rfl ?_
    refine Z.iret B Rt dX12_wayOf_23 (ty := .int) rfl rfl (by decide) (by decide) ?_
    exact ⟨rfl, rfl⟩

theorem t_M_wayOf_0_0 {σ : zSt} (hl : Lay σ) {n a y : Nat} (H : zMd σ n a y) {i kd pa : Nat} (hi : i < y) (hw : zMy σ i kd pa)  : Dt mX12_wayOf [.ref 45, .int (nI i), .int (nI 0)] σ (some (.int (nI kd))) σ := by
  obtain ⟨-, hn, hn8, ha, ha4, hy, hy8⟩ := id H
  refine Dt.of (by decide) (Nat.le_of_ble_eq_true rfl) fun κ B Rt => ?_
  show Z κ 0 0 σ 0 [(0, .ref 45), (1, .int (nI i)), (2, .int (nI 0))] []
  refine Z.aload_n B dX12_wayOf_0 (v := .ref 45) rfl rfl ?_
  refine Z.iload_n B dX12_wayOf_1 (x := nI i) rfl ?_
  refine Z.callVI (σ := σ) B (M' := mX12_isWay) (as := [.int (nI i)]) (st := []) (v := .int (nI 1)) dX12_wayOf_2 wX12_isWay iX12_isWay sX12_isWay kX12_98 (hl.n (k := 45) (by decide)) (hl.k (k := 45) (by decide)) (by decide) rfl rfl (t_X12_isWay_in (σ := σ) H hi) rfl rfl (by decide) (by decide) (Nat.le_of_ble_eq_true rfl) (by decide) (by decide) ?_
  refine Z.if_eqN B dX12_wayOf_5 (tgt := 17) rfl (by omega) (fun h5 => by exfalso; first | omega | contradiction | simp_all) (fun h5 => ?_)
  refine Z.iload_n B dX12_wayOf_8 (x := nI 0) rfl ?_
  refine Z.if_ltN B dX12_wayOf_9 (tgt := 17) rfl (by omega) ?_
  refine Z.iload_n B dX12_wayOf_12 (x := nI 0) rfl ?_
  refine Z.iconst B dX12_wayOf_13 (v := nI 1) rfl ?_
  refine Z.icmp_leN B dX12_wayOf_14 (tgt := 24) rfl (by omega) (by omega) (fun h14 => ?_) (fun h14 => by exfalso; first | omega | contradiction | simp_all)
  refine Z.iload_n B dX12_wayOf_24 (x := nI 0) rfl ?_
  refine Z.if_neN B dX12_wayOf_25 (tgt := 37) rfl (by omega) (fun h25 => by exfalso; first | omega | contradiction | simp_all) (fun h25 => ?_)
  refine Z.aload_n B dX12_wayOf_28 (v := .ref 45) rfl rfl ?_
  refine Z.getR (σ := σ) B fX12_35_12 dX12_wayOf_29 (hl.n (k := 45) (by decide)) (hl.k (k := 45) (by decide)) (by decide) (j := 52) (hl.r (k := 45) (f := 11) (by decide) (by decide)) ?_
  refine Z.iload_n B dX12_wayOf_32 (x := nI i) rfl ?_
  refine Z.iald (σ := σ) B dX12_wayOf_33 (n := 8) (hl.n (k := 52) (by decide)) (hl.k (k := 52) (by decide)) (hl.l (k := 52) (by decide)) (by decide) (j := i) rfl (by omega) (v := nI kd) hw.1 ?_
  refine Z.goto B dX12_wayOf_34 (tgt := 43) rfl ?_
  refine Z.iret B Rt dX12_wayOf_43 (ty := .int) rfl rfl (by decide) (by decide) ?_
  exact ⟨rfl, rfl⟩

theorem t_M_wayOf_0_1 {σ : zSt} (hl : Lay σ) {n a y : Nat} (H : zMd σ n a y) {i kd pa : Nat} (hi : i < y) (hw : zMy σ i kd pa)  : Dt mX12_wayOf [.ref 45, .int (nI i), .int (nI 1)] σ (some (.int (nI pa))) σ := by
  obtain ⟨-, hn, hn8, ha, ha4, hy, hy8⟩ := id H
  refine Dt.of (by decide) (Nat.le_of_ble_eq_true rfl) fun κ B Rt => ?_
  show Z κ 0 0 σ 0 [(0, .ref 45), (1, .int (nI i)), (2, .int (nI 1))] []
  refine Z.aload_n B dX12_wayOf_0 (v := .ref 45) rfl rfl ?_
  refine Z.iload_n B dX12_wayOf_1 (x := nI i) rfl ?_
  refine Z.callVI (σ := σ) B (M' := mX12_isWay) (as := [.int (nI i)]) (st := []) (v := .int (nI 1)) dX12_wayOf_2 wX12_isWay iX12_isWay sX12_isWay kX12_98 (hl.n (k := 45) (by decide)) (hl.k (k := 45) (by decide)) (by decide) rfl rfl (t_X12_isWay_in (σ := σ) H hi) rfl rfl (by decide) (by decide) (Nat.le_of_ble_eq_true rfl) (by decide) (by decide) ?_
  refine Z.if_eqN B dX12_wayOf_5 (tgt := 17) rfl (by omega) (fun h5 => by exfalso; first | omega | contradiction | simp_all) (fun h5 => ?_)
  refine Z.iload_n B dX12_wayOf_8 (x := nI 1) rfl ?_
  refine Z.if_ltN B dX12_wayOf_9 (tgt := 17) rfl (by omega) ?_
  refine Z.iload_n B dX12_wayOf_12 (x := nI 1) rfl ?_
  refine Z.iconst B dX12_wayOf_13 (v := nI 1) rfl ?_
  refine Z.icmp_leN B dX12_wayOf_14 (tgt := 24) rfl (by omega) (by omega) (fun h14 => ?_) (fun h14 => by exfalso; first | omega | contradiction | simp_all)
  refine Z.iload_n B dX12_wayOf_24 (x := nI 1) rfl ?_
  refine Z.if_neN B dX12_wayOf_25 (tgt := 37) rfl (by omega) (fun h25 => ?_) (fun h25 => by exfalso; first | omega | contradiction | simp_all)
  refine Z.aload_n B dX12_wayOf_37 (v := .ref 45) rfl rfl ?_
  refine Z.getR (σ := σ) B fX12_38_12 dX12_wayOf_38 (hl.n (k := 45) (by decide)) (hl.k (k := 45) (by decide)) (by decide) (j := 53) (hl.r (k := 45) (f := 12) (by decide) (by decide)) ?_
  refine Z.iload_n B dX12_wayOf_41 (x := nI i) rfl ?_
  refine Z.iald (σ := σ) B dX12_wayOf_42 (n := 8) (hl.n (k := 53) (by decide)) (hl.k (k := 53) (by decide)) (hl.l (k := 53) (by decide)) (by decide) (j := i) rfl (by omega) (v := nI pa) hw.2.1 ?_
  refine Z.iret B Rt dX12_wayOf_43 (ty := .int) rfl rfl (by decide) (by decide) ?_
  exact ⟨rfl, rfl⟩

theorem t_M_change_1 {σ : zSt} (hl : Lay σ) {n a y : Nat} (H : zMd σ n a y) {c : Int32} (hc : zOut c n) {w v : Int32} : Dt mX12_change [.ref 45, .int c, .int w, .int v] σ (some (.int (-1))) (zuX σ 46 (upd (zX σ 46) 1 (zX σ 46 1 + nI 1))) := by
  obtain ⟨-, hn, hn8, ha, ha4, hy, hy8⟩ := id H
  refine Dt.of (by decide) (Nat.le_of_ble_eq_true rfl) fun κ B Rt => ?_
  show Z κ 0 0 σ 0 [(0, .ref 45), (1, .int c), (2, .int w), (3, .int v)] []
  refine Z.aload_n B dX12_change_0 (v := .ref 45) rfl rfl ?_
  refine Z.iload_n B dX12_change_1 (x := c) rfl ?_
  refine Z.callVI (σ := σ) B (M' := mX12_isComer) (as := [.int c]) (st := []) (v := .int (nI 0)) dX12_change_2 wX12_isComer iX12_isComer sX12_isComer kX12_126 (hl.n (k := 45) (by decide)) (hl.k (k := 45) (by decide)) (by decide) rfl rfl (t_X12_isComer_out (σ := σ) H hc) rfl rfl (by decide) (by decide) (Nat.le_of_ble_eq_true rfl) (by decide) (by decide) ?_
  refine Z.if_neN B dX12_change_5 (tgt := 14) rfl (by omega) (fun h5 => by exfalso; first | omega | contradiction | simp_all) (fun h5 => ?_)
  refine Z.aload_n B dX12_change_8 (v := .ref 45) rfl rfl ?_
  refine Z.iconst B dX12_change_9 (v := (-1)) rfl ?_
  refine Z.callVI (σ := σ) B (M' := mX12_no) (as := [.int (-1)]) (st := []) (v := .int (-1)) dX12_change_10 wX12_no iX12_no sX12_no kX12_94 (hl.n (k := 45) (by decide)) (hl.k (k := 45) (by decide)) (by decide) rfl rfl (t_X12_no_1 (σ := σ) hl) rfl rfl (by decide) (by decide) (Nat.le_of_ble_eq_true rfl) (by decide) (by decide) ?_
  refine Z.eqσ (τ := (zuX σ 46 (upd (zX σ 46) 1 (zX σ 46 1 + nI 1)))) rfl ?_
  refine Z.iret B Rt dX12_change_13 (ty := .int) rfl rfl (by decide) (by decide) ?_
  exact ⟨rfl, rfl⟩

theorem t_M_change_5 {σ : zSt} (hl : Lay σ) {n a y : Nat} (H : zMd σ n a y) {c : Nat} (hc : c < n) {w v : Int32} (hw : zOut w 6) : Dt mX12_change [.ref 45, .int (nI c), .int w, .int v] σ (some (.int (-5))) (zuX σ 46 (upd (zX σ 46) 5 (zX σ 46 5 + nI 1))) := by
  obtain ⟨-, hn, hn8, ha, ha4, hy, hy8⟩ := id H
  refine Dt.of (by decide) (Nat.le_of_ble_eq_true rfl) fun κ B Rt => ?_
  show Z κ 0 0 σ 0 [(0, .ref 45), (1, .int (nI c)), (2, .int w), (3, .int v)] []
  refine Z.aload_n B dX12_change_0 (v := .ref 45) rfl rfl ?_
  refine Z.iload_n B dX12_change_1 (x := nI c) rfl ?_
  refine Z.callVI (σ := σ) B (M' := mX12_isComer) (as := [.int (nI c)]) (st := []) (v := .int (nI 1)) dX12_change_2 wX12_isComer iX12_isComer sX12_isComer kX12_126 (hl.n (k := 45) (by decide)) (hl.k (k := 45) (by decide)) (by decide) rfl rfl (t_X12_isComer_in (σ := σ) H hc) rfl rfl (by decide) (by decide) (Nat.le_of_ble_eq_true rfl) (by decide) (by decide) ?_
  refine Z.if_neN B dX12_change_5 (tgt := 14) rfl (by omega) (fun h5 => ?_) (fun h5 => by exfalso; first | omega | contradiction | simp_all)
  refine Z.iload_n B dX12_change_14 (x := w) rfl ?_
  refine Z.if_lt B dX12_change_15 (tgt := 23) rfl (fun h15 => ?_) (fun h15 => ?_)
  · skip
    refine Z.aload_n B dX12_change_23 (v := .ref 45) rfl rfl ?_
    refine Z.bipush B dX12_change_24 (v := (-5)) rfl ?_
    refine Z.callVI (σ := σ) B (M' := mX12_no) (as := [.int (-5)]) (st := []) (v := .int (-5)) dX12_change_26 wX12_no iX12_no sX12_no kX12_94 (hl.n (k := 45) (by decide)) (hl.k (k := 45) (by decide)) (by decide) rfl rfl (t_X12_no_5 (σ := σ) hl) rfl rfl (by decide) (by decide) (Nat.le_of_ble_eq_true rfl) (by decide) (by decide) ?_
    refine Z.eqσ (τ := (zuX σ 46 (upd (zX σ 46) 5 (zX σ 46 5 + nI 1)))) rfl ?_
    refine Z.iret B Rt dX12_change_29 (ty := .int) rfl rfl (by decide) (by decide) ?_
    exact ⟨rfl, rfl⟩
  · skip
    refine Z.iload_n B dX12_change_18 (x := w) rfl ?_
    refine Z.iconst B dX12_change_19 (v := nI 5) rfl ?_
    refine Z.icmp_le B dX12_change_20 (tgt := 30) rfl (fun h20 => (zo_le hw h15 h20 (by decide)).elim) (fun h20 => ?_)
    refine Z.aload_n B dX12_change_23 (v := .ref 45) rfl rfl ?_
    refine Z.bipush B dX12_change_24 (v := (-5)) rfl ?_
    refine Z.callVI (σ := σ) B (M' := mX12_no) (as := [.int (-5)]) (st := []) (v := .int (-5)) dX12_change_26 wX12_no iX12_no sX12_no kX12_94 (hl.n (k := 45) (by decide)) (hl.k (k := 45) (by decide)) (by decide) rfl rfl (t_X12_no_5 (σ := σ) hl) rfl rfl (by decide) (by decide) (Nat.le_of_ble_eq_true rfl) (by decide) (by decide) ?_
    refine Z.eqσ (τ := (zuX σ 46 (upd (zX σ 46) 5 (zX σ 46 5 + nI 1)))) rfl ?_
    refine Z.iret B Rt dX12_change_29 (ty := .int) rfl rfl (by decide) (by decide) ?_
    exact ⟨rfl, rfl⟩

theorem t_M_change_6 {σ : zSt} (hl : Lay σ) {n a y : Nat} (H : zMd σ n a y) {c : Nat} (hc : c < n) {w : Nat} {v : Int32} (hw : w < 6) (hv : zOut v (mo w + 1)) : Dt mX12_change [.ref 45, .int (nI c), .int (nI w), .int v] σ (some (.int (-6))) (zuX σ 46 (upd (zX σ 46) 6 (zX σ 46 6 + nI 1))) := by
  obtain ⟨-, hn, hn8, ha, ha4, hy, hy8⟩ := id H
  refine Dt.of (by decide) (Nat.le_of_ble_eq_true rfl) fun κ B Rt => ?_
  show Z κ 0 0 σ 0 [(0, .ref 45), (1, .int (nI c)), (2, .int (nI w)), (3, .int v)] []
  refine Z.aload_n B dX12_change_0 (v := .ref 45) rfl rfl ?_
  refine Z.iload_n B dX12_change_1 (x := nI c) rfl ?_
  refine Z.callVI (σ := σ) B (M' := mX12_isComer) (as := [.int (nI c)]) (st := []) (v := .int (nI 1)) dX12_change_2 wX12_isComer iX12_isComer sX12_isComer kX12_126 (hl.n (k := 45) (by decide)) (hl.k (k := 45) (by decide)) (by decide) rfl rfl (t_X12_isComer_in (σ := σ) H hc) rfl rfl (by decide) (by decide) (Nat.le_of_ble_eq_true rfl) (by decide) (by decide) ?_
  refine Z.if_neN B dX12_change_5 (tgt := 14) rfl (by omega) (fun h5 => ?_) (fun h5 => by exfalso; first | omega | contradiction | simp_all)
  refine Z.iload_n B dX12_change_14 (x := nI w) rfl ?_
  refine Z.if_ltN B dX12_change_15 (tgt := 23) rfl (by omega) ?_
  refine Z.iload_n B dX12_change_18 (x := nI w) rfl ?_
  refine Z.iconst B dX12_change_19 (v := nI 5) rfl ?_
  refine Z.icmp_leN B dX12_change_20 (tgt := 30) rfl (by omega) (by omega) (fun h20 => ?_) (fun h20 => by exfalso; first | omega | contradiction | simp_all)
  refine Z.iload_n B dX12_change_30 (x := v) rfl ?_
  refine Z.if_lt B dX12_change_31 (tgt := 43) rfl (fun h31 => ?_) (fun h31 => ?_)
  · skip
    refine Z.aload_n B dX12_change_43 (v := .ref 45) rfl rfl ?_
    refine Z.bipush B dX12_change_44 (v := (-6)) rfl ?_
    refine Z.callVI (σ := σ) B (M' := mX12_no) (as := [.int (-6)]) (st := []) (v := .int (-6)) dX12_change_46 wX12_no iX12_no sX12_no kX12_94 (hl.n (k := 45) (by decide)) (hl.k (k := 45) (by decide)) (by decide) rfl rfl (t_X12_no_6 (σ := σ) hl) rfl rfl (by decide) (by decide) (Nat.le_of_ble_eq_true rfl) (by decide) (by decide) ?_
    refine Z.eqσ (τ := (zuX σ 46 (upd (zX σ 46) 6 (zX σ 46 6 + nI 1)))) rfl ?_
    refine Z.iret B Rt dX12_change_49 (ty := .int) rfl rfl (by decide) (by decide) ?_
    exact ⟨rfl, rfl⟩
  · skip
    refine Z.iload_n B dX12_change_34 (x := v) rfl ?_
    refine Z.aload_n B dX12_change_35 (v := .ref 45) rfl rfl ?_
    refine Z.iload_n B dX12_change_36 (x := nI w) rfl ?_
    refine Z.callVI (σ := σ) B (M' := mX12_top) (as := [.int (nI w)]) (st := [.int v]) (v := .int (nI (mo w))) dX12_change_37 wX12_top iX12_top sX12_top kX12_118 (hl.n (k := 45) (by decide)) (hl.k (k := 45) (by decide)) (by decide) rfl rfl (t_X12_top (σ := σ) (i := w) (by omega)) rfl rfl (by decide) (by decide) (Nat.le_of_ble_eq_true rfl) (by decide) (by decide) ?_
    have hmo : mo w ≤ 9 := mo_le
    refine Z.icmp_le B dX12_change_40 (tgt := 50) rfl (fun h40 => (zo_le hv h31 h40 (by omega)).elim) (fun h40 => ?_)
    refine Z.aload_n B dX12_change_43 (v := .ref 45) rfl rfl ?_
    refine Z.bipush B dX12_change_44 (v := (-6)) rfl ?_
    refine Z.callVI (σ := σ) B (M' := mX12_no) (as := [.int (-6)]) (st := []) (v := .int (-6)) dX12_change_46 wX12_no iX12_no sX12_no kX12_94 (hl.n (k := 45) (by decide)) (hl.k (k := 45) (by decide)) (by decide) rfl rfl (t_X12_no_6 (σ := σ) hl) rfl rfl (by decide) (by decide) (Nat.le_of_ble_eq_true rfl) (by decide) (by decide) ?_
    refine Z.eqσ (τ := (zuX σ 46 (upd (zX σ 46) 6 (zX σ 46 6 + nI 1)))) rfl ?_
    refine Z.iret B Rt dX12_change_49 (ty := .int) rfl rfl (by decide) (by decide) ?_
    exact ⟨rfl, rfl⟩

theorem t_M_change_0 {σ : zSt} (hl : Lay σ) {n a y : Nat} (H : zMd σ n a y) {c : Nat} (hc : c < n) {w v : Nat} (hw : w < 6) (hv : v ≤ mo w) : Dt mX12_change [.ref 45, .int (nI c), .int (nI w), .int (nI v)] σ (some (.int (cn (zX σ 47) c w))) (zuX σ 47 (upd (zX σ 47) (c * 6 + w) (nI v))) := by
  obtain ⟨-, hn, hn8, ha, ha4, hy, hy8⟩ := id H
  refine Dt.of (by decide) (Nat.le_of_ble_eq_true rfl) fun κ B Rt => ?_
  show Z κ 0 0 σ 0 [(0, .ref 45), (1, .int (nI c)), (2, .int (nI w)), (3, .int (nI v))] []
  have hmo : mo w ≤ 9 := mo_le
  refine Z.aload_n B dX12_change_0 (v := .ref 45) rfl rfl ?_
  refine Z.iload_n B dX12_change_1 (x := nI c) rfl ?_
  refine Z.callVI (σ := σ) B (M' := mX12_isComer) (as := [.int (nI c)]) (st := []) (v := .int (nI 1)) dX12_change_2 wX12_isComer iX12_isComer sX12_isComer kX12_126 (hl.n (k := 45) (by decide)) (hl.k (k := 45) (by decide)) (by decide) rfl rfl (t_X12_isComer_in (σ := σ) H hc) rfl rfl (by decide) (by decide) (Nat.le_of_ble_eq_true rfl) (by decide) (by decide) ?_
  refine Z.if_neN B dX12_change_5 (tgt := 14) rfl (by omega) (fun h5 => ?_) (fun h5 => by exfalso; first | omega | contradiction | simp_all)
  refine Z.iload_n B dX12_change_14 (x := nI w) rfl ?_
  refine Z.if_ltN B dX12_change_15 (tgt := 23) rfl (by omega) ?_
  refine Z.iload_n B dX12_change_18 (x := nI w) rfl ?_
  refine Z.iconst B dX12_change_19 (v := nI 5) rfl ?_
  refine Z.icmp_leN B dX12_change_20 (tgt := 30) rfl (by omega) (by omega) (fun h20 => ?_) (fun h20 => by exfalso; first | omega | contradiction | simp_all)
  refine Z.iload_n B dX12_change_30 (x := nI v) rfl ?_
  refine Z.if_ltN B dX12_change_31 (tgt := 43) rfl (by omega) ?_
  refine Z.iload_n B dX12_change_34 (x := nI v) rfl ?_
  refine Z.aload_n B dX12_change_35 (v := .ref 45) rfl rfl ?_
  refine Z.iload_n B dX12_change_36 (x := nI w) rfl ?_
  refine Z.callVI (σ := σ) B (M' := mX12_top) (as := [.int (nI w)]) (st := [.int (nI v)]) (v := .int (nI (mo w))) dX12_change_37 wX12_top iX12_top sX12_top kX12_118 (hl.n (k := 45) (by decide)) (hl.k (k := 45) (by decide)) (by decide) rfl rfl (t_X12_top (σ := σ) (i := w) (by omega)) rfl rfl (by decide) (by decide) (Nat.le_of_ble_eq_true rfl) (by decide) (by decide) ?_
  refine Z.icmp_leN B dX12_change_40 (tgt := 50) rfl (by omega) (by omega) (fun h40 => ?_) (fun h40 => by exfalso; first | omega | contradiction | simp_all)
  refine Z.aload_n B dX12_change_50 (v := .ref 45) rfl rfl ?_
  refine Z.getR (σ := σ) B fX12_20_12 dX12_change_51 (hl.n (k := 45) (by decide)) (hl.k (k := 45) (by decide)) (by decide) (j := 47) (hl.r (k := 45) (f := 6) (by decide) (by decide)) ?_
  refine Z.bipush B dX12_change_54 (v := nI 6) rfl ?_
  refine Z.iload_n B dX12_change_56 (x := nI c) rfl ?_
  refine Z.imulNc B dX12_change_57 (a := 6) (b := c) ?_
  refine Z.iload_n B dX12_change_58 (x := nI w) rfl ?_
  refine Z.iaddN B dX12_change_59 (a := c * 6) (b := w) ?_
  refine Z.iald (σ := σ) B dX12_change_60 (n := 48) (hl.n (k := 47) (by decide)) (hl.k (k := 47) (by decide)) (hl.l (k := 47) (by decide)) (by decide) (j := (c * 6) + w) rfl (by omega) (v := (zX σ 47 ((c * 6) + w))) rfl ?_
  refine Z.istore B dX12_change_61 (by decide) (L' := [(0, .ref 45), (1, .int (nI c)), (2, .int (nI w)), (3, .int (nI v)), (4, .int (zX σ 47 ((c * 6) + w)))]) rfl ?_
  refine Z.aload_n B dX12_change_63 (v := .ref 45) rfl rfl ?_
  refine Z.getR (σ := σ) B fX12_20_12 dX12_change_64 (hl.n (k := 45) (by decide)) (hl.k (k := 45) (by decide)) (by decide) (j := 47) (hl.r (k := 45) (f := 6) (by decide) (by decide)) ?_
  refine Z.bipush B dX12_change_67 (v := nI 6) rfl ?_
  refine Z.iload_n B dX12_change_69 (x := nI c) rfl ?_
  refine Z.imulNc B dX12_change_70 (a := 6) (b := c) ?_
  refine Z.iload_n B dX12_change_71 (x := nI w) rfl ?_
  refine Z.iaddN B dX12_change_72 (a := c * 6) (b := w) ?_
  refine Z.iload_n B dX12_change_73 (x := nI v) rfl ?_
  refine Z.iast (σ := σ) B dX12_change_74 (n := 48) (hl.n (k := 47) (by decide)) (hl.k (k := 47) (by decide)) (hl.l (k := 47) (by decide)) (by decide) (j := (c * 6) + w) rfl (by omega) (τ := (zuX σ 47 (upd (zX σ 47) ((c * 6) + w) (nI v)))) rfl ?_
  refine Z.iload B dX12_change_75 (x := (zX σ 47 ((c * 6) + w))) rfl ?_
  refine Z.iret B Rt dX12_change_77 (ty := .int) rfl rfl (by decide) (by decide) ?_
  exact ⟨by rw [cn_ne (by omega)], rfl⟩

theorem t_M_drawn_1 {σ : zSt} (hl : Lay σ) {n a y : Nat} (H : zMd σ n a y) {b : Int32} (hb : zOut b a) {v : Int32} : Dt mX12_drawn [.ref 45, .int b, .int v] σ (some (.int (-1))) (zuX σ 46 (upd (zX σ 46) 1 (zX σ 46 1 + nI 1))) := by
  obtain ⟨-, hn, hn8, ha, ha4, hy, hy8⟩ := id H
  refine Dt.of (by decide) (Nat.le_of_ble_eq_true rfl) fun κ B Rt => ?_
  show Z κ 0 0 σ 0 [(0, .ref 45), (1, .int b), (2, .int v)] []
  refine Z.aload_n B dX12_drawn_0 (v := .ref 45) rfl rfl ?_
  refine Z.iload_n B dX12_drawn_1 (x := b) rfl ?_
  refine Z.callVI (σ := σ) B (M' := mX12_isAsker) (as := [.int b]) (st := []) (v := .int (nI 0)) dX12_drawn_2 wX12_isAsker iX12_isAsker sX12_isAsker kX12_129 (hl.n (k := 45) (by decide)) (hl.k (k := 45) (by decide)) (by decide) rfl rfl (t_X12_isAsker_out (σ := σ) H hb) rfl rfl (by decide) (by decide) (Nat.le_of_ble_eq_true rfl) (by decide) (by decide) ?_
  refine Z.if_neN B dX12_drawn_5 (tgt := 14) rfl (by omega) (fun h5 => by exfalso; first | omega | contradiction | simp_all) (fun h5 => ?_)
  refine Z.aload_n B dX12_drawn_8 (v := .ref 45) rfl rfl ?_
  refine Z.iconst B dX12_drawn_9 (v := (-1)) rfl ?_
  refine Z.callVI (σ := σ) B (M' := mX12_no) (as := [.int (-1)]) (st := []) (v := .int (-1)) dX12_drawn_10 wX12_no iX12_no sX12_no kX12_94 (hl.n (k := 45) (by decide)) (hl.k (k := 45) (by decide)) (by decide) rfl rfl (t_X12_no_1 (σ := σ) hl) rfl rfl (by decide) (by decide) (Nat.le_of_ble_eq_true rfl) (by decide) (by decide) ?_
  refine Z.eqσ (τ := (zuX σ 46 (upd (zX σ 46) 1 (zX σ 46 1 + nI 1)))) rfl ?_
  refine Z.iret B Rt dX12_drawn_13 (ty := .int) rfl rfl (by decide) (by decide) ?_
  exact ⟨rfl, rfl⟩

theorem t_M_drawn_6 {σ : zSt} (hl : Lay σ) {n a y : Nat} (H : zMd σ n a y) {b : Nat} (hb : b < a) {v : Int32} (hv : zOut v 11) : Dt mX12_drawn [.ref 45, .int (nI b), .int v] σ (some (.int (-6))) (zuX σ 46 (upd (zX σ 46) 6 (zX σ 46 6 + nI 1))) := by
  obtain ⟨-, hn, hn8, ha, ha4, hy, hy8⟩ := id H
  refine Dt.of (by decide) (Nat.le_of_ble_eq_true rfl) fun κ B Rt => ?_
  show Z κ 0 0 σ 0 [(0, .ref 45), (1, .int (nI b)), (2, .int v)] []
  refine Z.aload_n B dX12_drawn_0 (v := .ref 45) rfl rfl ?_
  refine Z.iload_n B dX12_drawn_1 (x := nI b) rfl ?_
  refine Z.callVI (σ := σ) B (M' := mX12_isAsker) (as := [.int (nI b)]) (st := []) (v := .int (nI 1)) dX12_drawn_2 wX12_isAsker iX12_isAsker sX12_isAsker kX12_129 (hl.n (k := 45) (by decide)) (hl.k (k := 45) (by decide)) (by decide) rfl rfl (t_X12_isAsker_in (σ := σ) H hb) rfl rfl (by decide) (by decide) (Nat.le_of_ble_eq_true rfl) (by decide) (by decide) ?_
  refine Z.if_neN B dX12_drawn_5 (tgt := 14) rfl (by omega) (fun h5 => ?_) (fun h5 => by exfalso; first | omega | contradiction | simp_all)
  refine Z.iload_n B dX12_drawn_14 (x := v) rfl ?_
  refine Z.if_lt B dX12_drawn_15 (tgt := 24) rfl (fun h15 => ?_) (fun h15 => ?_)
  · skip
    refine Z.aload_n B dX12_drawn_24 (v := .ref 45) rfl rfl ?_
    refine Z.bipush B dX12_drawn_25 (v := (-6)) rfl ?_
    refine Z.callVI (σ := σ) B (M' := mX12_no) (as := [.int (-6)]) (st := []) (v := .int (-6)) dX12_drawn_27 wX12_no iX12_no sX12_no kX12_94 (hl.n (k := 45) (by decide)) (hl.k (k := 45) (by decide)) (by decide) rfl rfl (t_X12_no_6 (σ := σ) hl) rfl rfl (by decide) (by decide) (Nat.le_of_ble_eq_true rfl) (by decide) (by decide) ?_
    refine Z.eqσ (τ := (zuX σ 46 (upd (zX σ 46) 6 (zX σ 46 6 + nI 1)))) rfl ?_
    refine Z.iret B Rt dX12_drawn_30 (ty := .int) rfl rfl (by decide) (by decide) ?_
    exact ⟨rfl, rfl⟩
  · skip
    refine Z.iload_n B dX12_drawn_18 (x := v) rfl ?_
    refine Z.bipush B dX12_drawn_19 (v := nI 10) rfl ?_
    refine Z.icmp_le B dX12_drawn_21 (tgt := 31) rfl (fun h21 => (zo_le hv h15 h21 (by decide)).elim) (fun h21 => ?_)
    refine Z.aload_n B dX12_drawn_24 (v := .ref 45) rfl rfl ?_
    refine Z.bipush B dX12_drawn_25 (v := (-6)) rfl ?_
    refine Z.callVI (σ := σ) B (M' := mX12_no) (as := [.int (-6)]) (st := []) (v := .int (-6)) dX12_drawn_27 wX12_no iX12_no sX12_no kX12_94 (hl.n (k := 45) (by decide)) (hl.k (k := 45) (by decide)) (by decide) rfl rfl (t_X12_no_6 (σ := σ) hl) rfl rfl (by decide) (by decide) (Nat.le_of_ble_eq_true rfl) (by decide) (by decide) ?_
    refine Z.eqσ (τ := (zuX σ 46 (upd (zX σ 46) 6 (zX σ 46 6 + nI 1)))) rfl ?_
    refine Z.iret B Rt dX12_drawn_30 (ty := .int) rfl rfl (by decide) (by decide) ?_
    exact ⟨rfl, rfl⟩

theorem t_M_drawn_0 {σ : zSt} (hl : Lay σ) {n a y : Nat} (H : zMd σ n a y) {b : Nat} (hb : b < a) {v : Nat} (hv : v ≤ 10) : Dt mX12_drawn [.ref 45, .int (nI b), .int (nI v)] σ (some (.int (zX σ 50 b))) (zuX σ 50 (upd (zX σ 50) b (nI v))) := by
  obtain ⟨-, hn, hn8, ha, ha4, hy, hy8⟩ := id H
  refine Dt.of (by decide) (Nat.le_of_ble_eq_true rfl) fun κ B Rt => ?_
  show Z κ 0 0 σ 0 [(0, .ref 45), (1, .int (nI b)), (2, .int (nI v))] []
  refine Z.aload_n B dX12_drawn_0 (v := .ref 45) rfl rfl ?_
  refine Z.iload_n B dX12_drawn_1 (x := nI b) rfl ?_
  refine Z.callVI (σ := σ) B (M' := mX12_isAsker) (as := [.int (nI b)]) (st := []) (v := .int (nI 1)) dX12_drawn_2 wX12_isAsker iX12_isAsker sX12_isAsker kX12_129 (hl.n (k := 45) (by decide)) (hl.k (k := 45) (by decide)) (by decide) rfl rfl (t_X12_isAsker_in (σ := σ) H hb) rfl rfl (by decide) (by decide) (Nat.le_of_ble_eq_true rfl) (by decide) (by decide) ?_
  refine Z.if_neN B dX12_drawn_5 (tgt := 14) rfl (by omega) (fun h5 => ?_) (fun h5 => by exfalso; first | omega | contradiction | simp_all)
  refine Z.iload_n B dX12_drawn_14 (x := nI v) rfl ?_
  refine Z.if_ltN B dX12_drawn_15 (tgt := 24) rfl (by omega) ?_
  refine Z.iload_n B dX12_drawn_18 (x := nI v) rfl ?_
  refine Z.bipush B dX12_drawn_19 (v := nI 10) rfl ?_
  refine Z.icmp_leN B dX12_drawn_21 (tgt := 31) rfl (by omega) (by omega) (fun h21 => ?_) (fun h21 => by exfalso; first | omega | contradiction | simp_all)
  refine Z.aload_n B dX12_drawn_31 (v := .ref 45) rfl rfl ?_
  refine Z.getR (σ := σ) B fX12_29_12 dX12_drawn_32 (hl.n (k := 45) (by decide)) (hl.k (k := 45) (by decide)) (by decide) (j := 50) (hl.r (k := 45) (f := 9) (by decide) (by decide)) ?_
  refine Z.iload_n B dX12_drawn_35 (x := nI b) rfl ?_
  refine Z.iald (σ := σ) B dX12_drawn_36 (n := 4) (hl.n (k := 50) (by decide)) (hl.k (k := 50) (by decide)) (hl.l (k := 50) (by decide)) (by decide) (j := b) rfl (by omega) (v := (zX σ 50 b)) rfl ?_
  refine Z.istore_n B dX12_drawn_37 (by decide) (L' := [(0, .ref 45), (1, .int (nI b)), (2, .int (nI v)), (3, .int (zX σ 50 b))]) rfl ?_
  refine Z.aload_n B dX12_drawn_38 (v := .ref 45) rfl rfl ?_
  refine Z.getR (σ := σ) B fX12_29_12 dX12_drawn_39 (hl.n (k := 45) (by decide)) (hl.k (k := 45) (by decide)) (by decide) (j := 50) (hl.r (k := 45) (f := 9) (by decide) (by decide)) ?_
  refine Z.iload_n B dX12_drawn_42 (x := nI b) rfl ?_
  refine Z.iload_n B dX12_drawn_43 (x := nI v) rfl ?_
  refine Z.iast (σ := σ) B dX12_drawn_44 (n := 4) (hl.n (k := 50) (by decide)) (hl.k (k := 50) (by decide)) (hl.l (k := 50) (by decide)) (by decide) (j := b) rfl (by omega) (τ := (zuX σ 50 (upd (zX σ 50) b (nI v)))) rfl ?_
  refine Z.iload_n B dX12_drawn_45 (x := (zX σ 50 b)) rfl ?_
  refine Z.iret B Rt dX12_drawn_46 (ty := .int) rfl rfl (by decide) (by decide) ?_
  exact ⟨rfl, rfl⟩

theorem t_M_first_ {σ : zSt} (hl : Lay σ) {n a y : Nat} (H : zMd σ n a y) {od : Nat → Nat} (ho : zMo σ a od) {b p : Nat} (hp : p < a) (hpb : od p = b) (hmin : ∀ j, j < p → od j ≠ b)  : Dt mX12_first [.ref 45, .int (nI b)] σ (some (.int (nI p))) (zuX σ 51 (pf p b (zX σ 51))) := by
  obtain ⟨-, hn, hn8, ha, ha4, hy, hy8⟩ := id H
  refine Dt.of (by decide) (Nat.le_of_ble_eq_true rfl) fun κ B Rt => ?_
  show Z κ 0 0 σ 0 [(0, .ref 45), (1, .int (nI b))] []
  refine Z.aload_n B dX12_first_0 (v := .ref 45) rfl rfl ?_
  refine Z.iload_n B dX12_first_1 (x := nI b) rfl ?_
  have hb : b < a := hpb ▸ (ho p hp).2
  refine Z.callVI (σ := σ) B (M' := mX12_placeOf) (as := [.int (nI b)]) (st := []) (v := .int (nI p)) dX12_first_2 wX12_placeOf iX12_placeOf sX12_placeOf kX12_132 (hl.n (k := 45) (by decide)) (hl.k (k := 45) (by decide)) (by decide) rfl rfl (t_X12_placeOf (σ := σ) H ho hp hpb hmin) rfl rfl (by decide) (by decide) (Nat.le_of_ble_eq_true rfl) (by decide) (by decide) ?_
  refine Z.istore_n B dX12_first_5 (by decide) (L' := [(0, .ref 45), (1, .int (nI b)), (2, .int (nI p))]) rfl ?_
  refine Z.iload_n B dX12_first_6 (x := nI p) rfl ?_
  refine Z.istore_n B dX12_first_7 (by decide) (L' := [(0, .ref 45), (1, .int (nI b)), (2, .int (nI p)), (3, .int (nI p))]) rfl ?_
  have hloop8 : ∀ k : Nat, k ≤ p → Z κ 0 0 (zuX σ 51 (pg k p (zX σ 51))) 8 [(0, .ref 45), (1, .int (nI b)), (2, .int (nI p)), (3, .int (nI k))] [] := by
    refine z_loop (fun k => k) (fun k ih hk => ?_)
    refine Z.iload_n B dX12_first_8 (x := nI k) rfl ?_
    refine Z.if_leN B dX12_first_9 (tgt := 32) rfl (by omega) (fun h9 => ?_) (fun h9 => ?_)
    · skip
      obtain rfl : 0 = k := by omega
      refine Z.aload_n B dX12_first_32 (v := .ref 45) rfl rfl ?_
      refine Z.getR (σ := (zuX σ 51 (pg 0 p (zX σ 51)))) B fX12_32_12 dX12_first_33 (hl.n (k := 45) (by decide)) (hl.k (k := 45) (by decide)) (by decide) (j := 51) (hl.r (k := 45) (f := 10) (by decide) (by decide)) ?_
      refine Z.iconst B dX12_first_36 (v := nI 0) rfl ?_
      refine Z.iload_n B dX12_first_37 (x := nI b) rfl ?_
      refine Z.iast (σ := (zuX σ 51 (pg 0 p (zX σ 51)))) B dX12_first_38 (n := 4) (hl.n (k := 51) (by decide)) (hl.k (k := 51) (by decide)) (hl.l (k := 51) (by decide)) (by decide) (j := 0) rfl (by omega) (τ := (zuX σ 51 (pf p b (zX σ 51)))) (by rw [zX_self, zuX_uX]; rfl) ?_
      refine Z.iload_n B dX12_first_39 (x := nI p) rfl ?_
      refine Z.iret B Rt dX12_first_40 (ty := .int) rfl rfl (by decide) (by decide) ?_
      exact ⟨rfl, rfl⟩
    · skip
      refine Z.aload_n B dX12_first_12 (v := .ref 45) rfl rfl ?_
      refine Z.getR (σ := (zuX σ 51 (pg k p (zX σ 51)))) B fX12_32_12 dX12_first_13 (hl.n (k := 45) (by decide)) (hl.k (k := 45) (by decide)) (by decide) (j := 51) (hl.r (k := 45) (f := 10) (by decide) (by decide)) ?_
      refine Z.iload_n B dX12_first_16 (x := nI k) rfl ?_
      refine Z.aload_n B dX12_first_17 (v := .ref 45) rfl rfl ?_
      refine Z.getR (σ := (zuX σ 51 (pg k p (zX σ 51)))) B fX12_32_12 dX12_first_18 (hl.n (k := 45) (by decide)) (hl.k (k := 45) (by decide)) (by decide) (j := 51) (hl.r (k := 45) (f := 10) (by decide) (by decide)) ?_
      refine Z.iload_n B dX12_first_21 (x := nI k) rfl ?_
      refine Z.iconst B dX12_first_22 (v := nI 1) rfl ?_
      refine Z.isubN B dX12_first_23 (a := k) (b := 1) (by omega) ?_
      refine Z.iald (σ := (zuX σ 51 (pg k p (zX σ 51)))) B dX12_first_24 (n := 4) (hl.n (k := 51) (by decide)) (hl.k (k := 51) (by decide)) (hl.l (k := 51) (by decide)) (by decide) (j := k - 1) rfl (by omega) (v := ((pg k p (zX σ 51)) (k - 1))) rfl ?_
      refine Z.iast (σ := (zuX σ 51 (pg k p (zX σ 51)))) B dX12_first_25 (n := 4) (hl.n (k := 51) (by decide)) (hl.k (k := 51) (by decide)) (hl.l (k := 51) (by decide)) (by decide) (j := k) rfl (by omega) (τ := (zuX σ 51 (pg (k - 1) p (zX σ 51)))) (by rw [zX_self, zuX_uX, pg_s h9 hk]) ?_
      refine Z.iinc B dX12_first_26 (by decide) (x := nI k) rfl (v := nI (k - 1)) (nI_dec2 h9) (L' := [(0, .ref 45), (1, .int (nI b)), (2, .int (nI p)), (3, .int (nI (k - 1)))]) rfl ?_
      refine Z.goto B dX12_first_29 (tgt := 8) rfl ?_
      exact ih (k - 1) (by omega) (by omega)
  have h0 := hloop8 p (Nat.le_refl _)
  rw [pg_0, zuX_id] at h0
  exact h0

theorem t_M_chief_1 {σ : zSt} (hl : Lay σ) {n a y : Nat} (H : zMd σ n a y) {b : Int32} (hb : zOut b a)  : Dt mX12_chief [.ref 45, .int b] σ (some (.int (-1))) (zuX σ 46 (upd (zX σ 46) 1 (zX σ 46 1 + nI 1))) := by
  obtain ⟨-, hn, hn8, ha, ha4, hy, hy8⟩ := id H
  refine Dt.of (by decide) (Nat.le_of_ble_eq_true rfl) fun κ B Rt => ?_
  show Z κ 0 0 σ 0 [(0, .ref 45), (1, .int b)] []
  refine Z.aload_n B dX12_chief_0 (v := .ref 45) rfl rfl ?_
  refine Z.iload_n B dX12_chief_1 (x := b) rfl ?_
  refine Z.callVI (σ := σ) B (M' := mX12_isAsker) (as := [.int b]) (st := []) (v := .int (nI 0)) dX12_chief_2 wX12_isAsker iX12_isAsker sX12_isAsker kX12_129 (hl.n (k := 45) (by decide)) (hl.k (k := 45) (by decide)) (by decide) rfl rfl (t_X12_isAsker_out (σ := σ) H hb) rfl rfl (by decide) (by decide) (Nat.le_of_ble_eq_true rfl) (by decide) (by decide) ?_
  refine Z.if_eqN B dX12_chief_5 (tgt := 16) rfl (by omega) (fun h5 => ?_) (fun h5 => by exfalso; first | omega | contradiction | simp_all)
  refine Z.aload_n B dX12_chief_16 (v := .ref 45) rfl rfl ?_
  refine Z.iconst B dX12_chief_17 (v := (-1)) rfl ?_
  refine Z.callVI (σ := σ) B (M' := mX12_no) (as := [.int (-1)]) (st := []) (v := .int (-1)) dX12_chief_18 wX12_no iX12_no sX12_no kX12_94 (hl.n (k := 45) (by decide)) (hl.k (k := 45) (by decide)) (by decide) rfl rfl (t_X12_no_1 (σ := σ) hl) rfl rfl (by decide) (by decide) (Nat.le_of_ble_eq_true rfl) (by decide) (by decide) ?_
  refine Z.eqσ (τ := (zuX σ 46 (upd (zX σ 46) 1 (zX σ 46 1 + nI 1)))) rfl ?_
  refine Z.iret B Rt dX12_chief_21 (ty := .int) rfl rfl (by decide) (by decide) ?_
  exact ⟨rfl, rfl⟩

theorem t_M_chief_0 {σ : zSt} (hl : Lay σ) {n a y : Nat} (H : zMd σ n a y) {od : Nat → Nat} (ho : zMo σ a od) {b p : Nat} (hp : p < a) (hpb : od p = b) (hmin : ∀ j, j < p → od j ≠ b)  : Dt mX12_chief [.ref 45, .int (nI b)] σ (some (.int (nI p))) (zuX σ 51 (pf p b (zX σ 51))) := by
  obtain ⟨-, hn, hn8, ha, ha4, hy, hy8⟩ := id H
  refine Dt.of (by decide) (Nat.le_of_ble_eq_true rfl) fun κ B Rt => ?_
  show Z κ 0 0 σ 0 [(0, .ref 45), (1, .int (nI b))] []
  have hb : b < a := hpb ▸ (ho p hp).2
  refine Z.aload_n B dX12_chief_0 (v := .ref 45) rfl rfl ?_
  refine Z.iload_n B dX12_chief_1 (x := nI b) rfl ?_
  refine Z.callVI (σ := σ) B (M' := mX12_isAsker) (as := [.int (nI b)]) (st := []) (v := .int (nI 1)) dX12_chief_2 wX12_isAsker iX12_isAsker sX12_isAsker kX12_129 (hl.n (k := 45) (by decide)) (hl.k (k := 45) (by decide)) (by decide) rfl rfl (t_X12_isAsker_in (σ := σ) H hb) rfl rfl (by decide) (by decide) (Nat.le_of_ble_eq_true rfl) (by decide) (by decide) ?_
  refine Z.if_eqN B dX12_chief_5 (tgt := 16) rfl (by omega) (fun h5 => by exfalso; first | omega | contradiction | simp_all) (fun h5 => ?_)
  refine Z.aload_n B dX12_chief_8 (v := .ref 45) rfl rfl ?_
  refine Z.iload_n B dX12_chief_9 (x := nI b) rfl ?_
  refine Z.callVI (σ := σ) B (M' := mX12_first) (as := [.int (nI b)]) (st := []) (v := .int (nI p)) dX12_chief_10 wX12_first iX12_first sX12_first kX12_135 (hl.n (k := 45) (by decide)) (hl.k (k := 45) (by decide)) (by decide) rfl rfl (t_M_first_ (σ := σ) hl H ho hp hpb hmin) rfl rfl (by decide) (by decide) (Nat.le_of_ble_eq_true rfl) (by decide) (by decide) ?_
  refine Z.eqσ (τ := (zuX σ 51 (pf p b (zX σ 51)))) rfl ?_
  refine Z.goto B dX12_chief_13 (tgt := 21) rfl ?_
  refine Z.iret B Rt dX12_chief_21 (ty := .int) rfl rfl (by decide) (by decide) ?_
  exact ⟨rfl, rfl⟩

theorem t_M_shows_1 {σ : zSt} (hl : Lay σ) {n a y : Nat} (H : zMd σ n a y) {i : Int32} (hi : zOut i y) {b c : Int32} : Dt mX12_shows [.ref 45, .int i, .int b, .int c] σ (some (.int (-1))) (zuX σ 46 (upd (zX σ 46) 1 (zX σ 46 1 + nI 1))) := by
  obtain ⟨-, hn, hn8, ha, ha4, hy, hy8⟩ := id H
  refine Dt.of (by decide) (Nat.le_of_ble_eq_true rfl) fun κ B Rt => ?_
  show Z κ 0 0 σ 0 [(0, .ref 45), (1, .int i), (2, .int b), (3, .int c)] []
  refine Z.aload_n B dX12_shows_0 (v := .ref 45) rfl rfl ?_
  refine Z.iload_n B dX12_shows_1 (x := i) rfl ?_
  refine Z.callVI (σ := σ) B (M' := mX12_isWay) (as := [.int i]) (st := []) (v := .int (nI 0)) dX12_shows_2 wX12_isWay iX12_isWay sX12_isWay kX12_98 (hl.n (k := 45) (by decide)) (hl.k (k := 45) (by decide)) (by decide) rfl rfl (t_X12_isWay_out (σ := σ) H hi) rfl rfl (by decide) (by decide) (Nat.le_of_ble_eq_true rfl) (by decide) (by decide) ?_
  refine Z.if_eqN B dX12_shows_5 (tgt := 34) rfl (by omega) (fun h5 => ?_) (fun h5 => by exfalso; first | omega | contradiction | simp_all)
  refine Z.aload_n B dX12_shows_34 (v := .ref 45) rfl rfl ?_
  refine Z.iconst B dX12_shows_35 (v := (-1)) rfl ?_
  refine Z.callVI (σ := σ) B (M' := mX12_no) (as := [.int (-1)]) (st := []) (v := .int (-1)) dX12_shows_36 wX12_no iX12_no sX12_no kX12_94 (hl.n (k := 45) (by decide)) (hl.k (k := 45) (by decide)) (by decide) rfl rfl (t_X12_no_1 (σ := σ) hl) rfl rfl (by decide) (by decide) (Nat.le_of_ble_eq_true rfl) (by decide) (by decide) ?_
  refine Z.eqσ (τ := (zuX σ 46 (upd (zX σ 46) 1 (zX σ 46 1 + nI 1)))) rfl ?_
  refine Z.iret B Rt dX12_shows_39 (ty := .int) rfl rfl (by decide) (by decide) ?_
  exact ⟨rfl, rfl⟩

theorem t_M_shows_2 {σ : zSt} (hl : Lay σ) {n a y : Nat} (H : zMd σ n a y) {i kd pa : Nat} (hi : i < y) (hw : zMy σ i kd pa) {b : Int32} (hb : zOut b a) {c : Int32} : Dt mX12_shows [.ref 45, .int (nI i), .int b, .int c] σ (some (.int (-1))) (zuX σ 46 (upd (zX σ 46) 1 (zX σ 46 1 + nI 1))) := by
  obtain ⟨-, hn, hn8, ha, ha4, hy, hy8⟩ := id H
  refine Dt.of (by decide) (Nat.le_of_ble_eq_true rfl) fun κ B Rt => ?_
  show Z κ 0 0 σ 0 [(0, .ref 45), (1, .int (nI i)), (2, .int b), (3, .int c)] []
  refine Z.aload_n B dX12_shows_0 (v := .ref 45) rfl rfl ?_
  refine Z.iload_n B dX12_shows_1 (x := nI i) rfl ?_
  refine Z.callVI (σ := σ) B (M' := mX12_isWay) (as := [.int (nI i)]) (st := []) (v := .int (nI 1)) dX12_shows_2 wX12_isWay iX12_isWay sX12_isWay kX12_98 (hl.n (k := 45) (by decide)) (hl.k (k := 45) (by decide)) (by decide) rfl rfl (t_X12_isWay_in (σ := σ) H hi) rfl rfl (by decide) (by decide) (Nat.le_of_ble_eq_true rfl) (by decide) (by decide) ?_
  refine Z.if_eqN B dX12_shows_5 (tgt := 34) rfl (by omega) (fun h5 => by exfalso; first | omega | contradiction | simp_all) (fun h5 => ?_)
  refine Z.aload_n B dX12_shows_8 (v := .ref 45) rfl rfl ?_
  refine Z.iload_n B dX12_shows_9 (x := b) rfl ?_
  refine Z.callVI (σ := σ) B (M' := mX12_isAsker) (as := [.int b]) (st := []) (v := .int (nI 0)) dX12_shows_10 wX12_isAsker iX12_isAsker sX12_isAsker kX12_129 (hl.n (k := 45) (by decide)) (hl.k (k := 45) (by decide)) (by decide) rfl rfl (t_X12_isAsker_out (σ := σ) H hb) rfl rfl (by decide) (by decide) (Nat.le_of_ble_eq_true rfl) (by decide) (by decide) ?_
  refine Z.if_eqN B dX12_shows_13 (tgt := 34) rfl (by omega) (fun h13 => ?_) (fun h13 => by exfalso; first | omega | contradiction | simp_all)
  refine Z.aload_n B dX12_shows_34 (v := .ref 45) rfl rfl ?_
  refine Z.iconst B dX12_shows_35 (v := (-1)) rfl ?_
  refine Z.callVI (σ := σ) B (M' := mX12_no) (as := [.int (-1)]) (st := []) (v := .int (-1)) dX12_shows_36 wX12_no iX12_no sX12_no kX12_94 (hl.n (k := 45) (by decide)) (hl.k (k := 45) (by decide)) (by decide) rfl rfl (t_X12_no_1 (σ := σ) hl) rfl rfl (by decide) (by decide) (Nat.le_of_ble_eq_true rfl) (by decide) (by decide) ?_
  refine Z.eqσ (τ := (zuX σ 46 (upd (zX σ 46) 1 (zX σ 46 1 + nI 1)))) rfl ?_
  refine Z.iret B Rt dX12_shows_39 (ty := .int) rfl rfl (by decide) (by decide) ?_
  exact ⟨rfl, rfl⟩

theorem t_M_shows_3 {σ : zSt} (hl : Lay σ) {n a y : Nat} (H : zMd σ n a y) {i kd pa : Nat} (hi : i < y) (hw : zMy σ i kd pa) {b : Nat} (hb : b < a) {c : Int32} (hc : zOut c n)  : Dt mX12_shows [.ref 45, .int (nI i), .int (nI b), .int c] σ (some (.int (-1))) (zuX σ 46 (upd (zX σ 46) 1 (zX σ 46 1 + nI 1))) := by
  obtain ⟨-, hn, hn8, ha, ha4, hy, hy8⟩ := id H
  refine Dt.of (by decide) (Nat.le_of_ble_eq_true rfl) fun κ B Rt => ?_
  show Z κ 0 0 σ 0 [(0, .ref 45), (1, .int (nI i)), (2, .int (nI b)), (3, .int c)] []
  refine Z.aload_n B dX12_shows_0 (v := .ref 45) rfl rfl ?_
  refine Z.iload_n B dX12_shows_1 (x := nI i) rfl ?_
  refine Z.callVI (σ := σ) B (M' := mX12_isWay) (as := [.int (nI i)]) (st := []) (v := .int (nI 1)) dX12_shows_2 wX12_isWay iX12_isWay sX12_isWay kX12_98 (hl.n (k := 45) (by decide)) (hl.k (k := 45) (by decide)) (by decide) rfl rfl (t_X12_isWay_in (σ := σ) H hi) rfl rfl (by decide) (by decide) (Nat.le_of_ble_eq_true rfl) (by decide) (by decide) ?_
  refine Z.if_eqN B dX12_shows_5 (tgt := 34) rfl (by omega) (fun h5 => by exfalso; first | omega | contradiction | simp_all) (fun h5 => ?_)
  refine Z.aload_n B dX12_shows_8 (v := .ref 45) rfl rfl ?_
  refine Z.iload_n B dX12_shows_9 (x := nI b) rfl ?_
  refine Z.callVI (σ := σ) B (M' := mX12_isAsker) (as := [.int (nI b)]) (st := []) (v := .int (nI 1)) dX12_shows_10 wX12_isAsker iX12_isAsker sX12_isAsker kX12_129 (hl.n (k := 45) (by decide)) (hl.k (k := 45) (by decide)) (by decide) rfl rfl (t_X12_isAsker_in (σ := σ) H hb) rfl rfl (by decide) (by decide) (Nat.le_of_ble_eq_true rfl) (by decide) (by decide) ?_
  refine Z.if_eqN B dX12_shows_13 (tgt := 34) rfl (by omega) (fun h13 => by exfalso; first | omega | contradiction | simp_all) (fun h13 => ?_)
  refine Z.aload_n B dX12_shows_16 (v := .ref 45) rfl rfl ?_
  refine Z.iload_n B dX12_shows_17 (x := c) rfl ?_
  refine Z.callVI (σ := σ) B (M' := mX12_isComer) (as := [.int c]) (st := []) (v := .int (nI 0)) dX12_shows_18 wX12_isComer iX12_isComer sX12_isComer kX12_126 (hl.n (k := 45) (by decide)) (hl.k (k := 45) (by decide)) (by decide) rfl rfl (t_X12_isComer_out (σ := σ) H hc) rfl rfl (by decide) (by decide) (Nat.le_of_ble_eq_true rfl) (by decide) (by decide) ?_
  refine Z.if_eqN B dX12_shows_21 (tgt := 34) rfl (by omega) (fun h21 => ?_) (fun h21 => by exfalso; first | omega | contradiction | simp_all)
  refine Z.aload_n B dX12_shows_34 (v := .ref 45) rfl rfl ?_
  refine Z.iconst B dX12_shows_35 (v := (-1)) rfl ?_
  refine Z.callVI (σ := σ) B (M' := mX12_no) (as := [.int (-1)]) (st := []) (v := .int (-1)) dX12_shows_36 wX12_no iX12_no sX12_no kX12_94 (hl.n (k := 45) (by decide)) (hl.k (k := 45) (by decide)) (by decide) rfl rfl (t_X12_no_1 (σ := σ) hl) rfl rfl (by decide) (by decide) (Nat.le_of_ble_eq_true rfl) (by decide) (by decide) ?_
  refine Z.eqσ (τ := (zuX σ 46 (upd (zX σ 46) 1 (zX σ 46 1 + nI 1)))) rfl ?_
  refine Z.iret B Rt dX12_shows_39 (ty := .int) rfl rfl (by decide) (by decide) ?_
  exact ⟨rfl, rfl⟩

theorem t_M_shows_0 {σ : zSt} (hl : Lay σ) {n a y : Nat} (H : zMd σ n a y) {i kd pa : Nat} (hi : i < y) (hw : zMy σ i kd pa) {b : Nat} (hb : b < a) {c : Nat} (hc : c < n)  : Dt mX12_shows [.ref 45, .int (nI i), .int (nI b), .int (nI c)] σ (some (.int (shW (zX σ 47) (zX σ 48) (zX σ 49) kd pa b c))) σ := by
  obtain ⟨-, hn, hn8, ha, ha4, hy, hy8⟩ := id H
  refine Dt.of (by decide) (Nat.le_of_ble_eq_true rfl) fun κ B Rt => ?_
  show Z κ 0 0 σ 0 [(0, .ref 45), (1, .int (nI i)), (2, .int (nI b)), (3, .int (nI c))] []
  refine Z.aload_n B dX12_shows_0 (v := .ref 45) rfl rfl ?_
  refine Z.iload_n B dX12_shows_1 (x := nI i) rfl ?_
  refine Z.callVI (σ := σ) B (M' := mX12_isWay) (as := [.int (nI i)]) (st := []) (v := .int (nI 1)) dX12_shows_2 wX12_isWay iX12_isWay sX12_isWay kX12_98 (hl.n (k := 45) (by decide)) (hl.k (k := 45) (by decide)) (by decide) rfl rfl (t_X12_isWay_in (σ := σ) H hi) rfl rfl (by decide) (by decide) (Nat.le_of_ble_eq_true rfl) (by decide) (by decide) ?_
  refine Z.if_eqN B dX12_shows_5 (tgt := 34) rfl (by omega) (fun h5 => by exfalso; first | omega | contradiction | simp_all) (fun h5 => ?_)
  refine Z.aload_n B dX12_shows_8 (v := .ref 45) rfl rfl ?_
  refine Z.iload_n B dX12_shows_9 (x := nI b) rfl ?_
  refine Z.callVI (σ := σ) B (M' := mX12_isAsker) (as := [.int (nI b)]) (st := []) (v := .int (nI 1)) dX12_shows_10 wX12_isAsker iX12_isAsker sX12_isAsker kX12_129 (hl.n (k := 45) (by decide)) (hl.k (k := 45) (by decide)) (by decide) rfl rfl (t_X12_isAsker_in (σ := σ) H hb) rfl rfl (by decide) (by decide) (Nat.le_of_ble_eq_true rfl) (by decide) (by decide) ?_
  refine Z.if_eqN B dX12_shows_13 (tgt := 34) rfl (by omega) (fun h13 => by exfalso; first | omega | contradiction | simp_all) (fun h13 => ?_)
  refine Z.aload_n B dX12_shows_16 (v := .ref 45) rfl rfl ?_
  refine Z.iload_n B dX12_shows_17 (x := nI c) rfl ?_
  refine Z.callVI (σ := σ) B (M' := mX12_isComer) (as := [.int (nI c)]) (st := []) (v := .int (nI 1)) dX12_shows_18 wX12_isComer iX12_isComer sX12_isComer kX12_126 (hl.n (k := 45) (by decide)) (hl.k (k := 45) (by decide)) (by decide) rfl rfl (t_X12_isComer_in (σ := σ) H hc) rfl rfl (by decide) (by decide) (Nat.le_of_ble_eq_true rfl) (by decide) (by decide) ?_
  refine Z.if_eqN B dX12_shows_21 (tgt := 34) rfl (by omega) (fun h21 => by exfalso; first | omega | contradiction | simp_all) (fun h21 => ?_)
  refine Z.aload_n B dX12_shows_24 (v := .ref 45) rfl rfl ?_
  refine Z.iload_n B dX12_shows_25 (x := nI i) rfl ?_
  refine Z.iload_n B dX12_shows_26 (x := nI b) rfl ?_
  refine Z.iload_n B dX12_shows_27 (x := nI c) rfl ?_
  refine Z.callVI (σ := σ) B (M' := mX12_showsBy) (as := [.int (nI i), .int (nI b), .int (nI c)]) (st := []) (v := .int (shW (zX σ 47) (zX σ 48) (zX σ 49) kd pa b c)) dX12_shows_28 wX12_showsBy iX12_showsBy sX12_showsBy kX12_186 (hl.n (k := 45) (by decide)) (hl.k (k := 45) (by decide)) (by decide) rfl rfl (t_X12_showsBy (σ := σ) H hw hb hc) rfl rfl (by decide) (by decide) (Nat.le_of_ble_eq_true rfl) (by decide) (by decide) ?_
  refine Z.goto B dX12_shows_31 (tgt := 39) rfl ?_
  refine Z.iret B Rt dX12_shows_39 (ty := .int) rfl rfl (by decide) (by decide) ?_
  exact ⟨rfl, rfl⟩

theorem t_M_said_1 {σ : zSt} (hl : Lay σ) {n a y : Nat} (H : zMd σ n a y) {i : Int32} (hi : zOut i y) {sl : Bool} {b c : Int32} : Dt mX12_said [.ref 45, .int i, .int (zb sl), .int b, .int c] σ (some (.int (-1))) (zuX σ 46 (upd (zX σ 46) 1 (zX σ 46 1 + nI 1))) := by
  obtain ⟨-, hn, hn8, ha, ha4, hy, hy8⟩ := id H
  refine Dt.of (by decide) (Nat.le_of_ble_eq_true rfl) fun κ B Rt => ?_
  show Z κ 0 0 σ 0 [(0, .ref 45), (1, .int i), (2, .int (zb sl)), (3, .int b), (4, .int c)] []
  refine Z.aload_n B dX12_said_0 (v := .ref 45) rfl rfl ?_
  refine Z.iload_n B dX12_said_1 (x := i) rfl ?_
  refine Z.callVI (σ := σ) B (M' := mX12_isWay) (as := [.int i]) (st := []) (v := .int (nI 0)) dX12_said_2 wX12_isWay iX12_isWay sX12_isWay kX12_98 (hl.n (k := 45) (by decide)) (hl.k (k := 45) (by decide)) (by decide) rfl rfl (t_X12_isWay_out (σ := σ) H hi) rfl rfl (by decide) (by decide) (Nat.le_of_ble_eq_true rfl) (by decide) (by decide) ?_
  refine Z.if_eqN B dX12_said_5 (tgt := 37) rfl (by omega) (fun h5 => ?_) (fun h5 => by exfalso; first | omega | contradiction | simp_all)
  refine Z.aload_n B dX12_said_37 (v := .ref 45) rfl rfl ?_
  refine Z.iconst B dX12_said_38 (v := (-1)) rfl ?_
  refine Z.callVI (σ := σ) B (M' := mX12_no) (as := [.int (-1)]) (st := []) (v := .int (-1)) dX12_said_39 wX12_no iX12_no sX12_no kX12_94 (hl.n (k := 45) (by decide)) (hl.k (k := 45) (by decide)) (by decide) rfl rfl (t_X12_no_1 (σ := σ) hl) rfl rfl (by decide) (by decide) (Nat.le_of_ble_eq_true rfl) (by decide) (by decide) ?_
  refine Z.eqσ (τ := (zuX σ 46 (upd (zX σ 46) 1 (zX σ 46 1 + nI 1)))) rfl ?_
  refine Z.iret B Rt dX12_said_42 (ty := .int) rfl rfl (by decide) (by decide) ?_
  exact ⟨rfl, rfl⟩

theorem t_M_said_2 {σ : zSt} (hl : Lay σ) {n a y : Nat} (H : zMd σ n a y) {i kd pa : Nat} (hi : i < y) (hw : zMy σ i kd pa) {b : Int32} (hb : zOut b a) {sl : Bool} {c : Int32} : Dt mX12_said [.ref 45, .int (nI i), .int (zb sl), .int b, .int c] σ (some (.int (-1))) (zuX σ 46 (upd (zX σ 46) 1 (zX σ 46 1 + nI 1))) := by
  obtain ⟨-, hn, hn8, ha, ha4, hy, hy8⟩ := id H
  refine Dt.of (by decide) (Nat.le_of_ble_eq_true rfl) fun κ B Rt => ?_
  show Z κ 0 0 σ 0 [(0, .ref 45), (1, .int (nI i)), (2, .int (zb sl)), (3, .int b), (4, .int c)] []
  refine Z.aload_n B dX12_said_0 (v := .ref 45) rfl rfl ?_
  refine Z.iload_n B dX12_said_1 (x := nI i) rfl ?_
  refine Z.callVI (σ := σ) B (M' := mX12_isWay) (as := [.int (nI i)]) (st := []) (v := .int (nI 1)) dX12_said_2 wX12_isWay iX12_isWay sX12_isWay kX12_98 (hl.n (k := 45) (by decide)) (hl.k (k := 45) (by decide)) (by decide) rfl rfl (t_X12_isWay_in (σ := σ) H hi) rfl rfl (by decide) (by decide) (Nat.le_of_ble_eq_true rfl) (by decide) (by decide) ?_
  refine Z.if_eqN B dX12_said_5 (tgt := 37) rfl (by omega) (fun h5 => by exfalso; first | omega | contradiction | simp_all) (fun h5 => ?_)
  refine Z.aload_n B dX12_said_8 (v := .ref 45) rfl rfl ?_
  refine Z.iload_n B dX12_said_9 (x := b) rfl ?_
  refine Z.callVI (σ := σ) B (M' := mX12_isAsker) (as := [.int b]) (st := []) (v := .int (nI 0)) dX12_said_10 wX12_isAsker iX12_isAsker sX12_isAsker kX12_129 (hl.n (k := 45) (by decide)) (hl.k (k := 45) (by decide)) (by decide) rfl rfl (t_X12_isAsker_out (σ := σ) H hb) rfl rfl (by decide) (by decide) (Nat.le_of_ble_eq_true rfl) (by decide) (by decide) ?_
  refine Z.if_eqN B dX12_said_13 (tgt := 37) rfl (by omega) (fun h13 => ?_) (fun h13 => by exfalso; first | omega | contradiction | simp_all)
  refine Z.aload_n B dX12_said_37 (v := .ref 45) rfl rfl ?_
  refine Z.iconst B dX12_said_38 (v := (-1)) rfl ?_
  refine Z.callVI (σ := σ) B (M' := mX12_no) (as := [.int (-1)]) (st := []) (v := .int (-1)) dX12_said_39 wX12_no iX12_no sX12_no kX12_94 (hl.n (k := 45) (by decide)) (hl.k (k := 45) (by decide)) (by decide) rfl rfl (t_X12_no_1 (σ := σ) hl) rfl rfl (by decide) (by decide) (Nat.le_of_ble_eq_true rfl) (by decide) (by decide) ?_
  refine Z.eqσ (τ := (zuX σ 46 (upd (zX σ 46) 1 (zX σ 46 1 + nI 1)))) rfl ?_
  refine Z.iret B Rt dX12_said_42 (ty := .int) rfl rfl (by decide) (by decide) ?_
  exact ⟨rfl, rfl⟩

theorem t_M_said_3 {σ : zSt} (hl : Lay σ) {n a y : Nat} (H : zMd σ n a y) {i kd pa : Nat} (hi : i < y) (hw : zMy σ i kd pa) {b : Nat} (hb : b < a) {c : Int32} (hc : zOut c n) {sl : Bool} : Dt mX12_said [.ref 45, .int (nI i), .int (zb sl), .int (nI b), .int c] σ (some (.int (-1))) (zuX σ 46 (upd (zX σ 46) 1 (zX σ 46 1 + nI 1))) := by
  obtain ⟨-, hn, hn8, ha, ha4, hy, hy8⟩ := id H
  refine Dt.of (by decide) (Nat.le_of_ble_eq_true rfl) fun κ B Rt => ?_
  show Z κ 0 0 σ 0 [(0, .ref 45), (1, .int (nI i)), (2, .int (zb sl)), (3, .int (nI b)), (4, .int c)] []
  refine Z.aload_n B dX12_said_0 (v := .ref 45) rfl rfl ?_
  refine Z.iload_n B dX12_said_1 (x := nI i) rfl ?_
  refine Z.callVI (σ := σ) B (M' := mX12_isWay) (as := [.int (nI i)]) (st := []) (v := .int (nI 1)) dX12_said_2 wX12_isWay iX12_isWay sX12_isWay kX12_98 (hl.n (k := 45) (by decide)) (hl.k (k := 45) (by decide)) (by decide) rfl rfl (t_X12_isWay_in (σ := σ) H hi) rfl rfl (by decide) (by decide) (Nat.le_of_ble_eq_true rfl) (by decide) (by decide) ?_
  refine Z.if_eqN B dX12_said_5 (tgt := 37) rfl (by omega) (fun h5 => by exfalso; first | omega | contradiction | simp_all) (fun h5 => ?_)
  refine Z.aload_n B dX12_said_8 (v := .ref 45) rfl rfl ?_
  refine Z.iload_n B dX12_said_9 (x := nI b) rfl ?_
  refine Z.callVI (σ := σ) B (M' := mX12_isAsker) (as := [.int (nI b)]) (st := []) (v := .int (nI 1)) dX12_said_10 wX12_isAsker iX12_isAsker sX12_isAsker kX12_129 (hl.n (k := 45) (by decide)) (hl.k (k := 45) (by decide)) (by decide) rfl rfl (t_X12_isAsker_in (σ := σ) H hb) rfl rfl (by decide) (by decide) (Nat.le_of_ble_eq_true rfl) (by decide) (by decide) ?_
  refine Z.if_eqN B dX12_said_13 (tgt := 37) rfl (by omega) (fun h13 => by exfalso; first | omega | contradiction | simp_all) (fun h13 => ?_)
  refine Z.aload_n B dX12_said_16 (v := .ref 45) rfl rfl ?_
  refine Z.iload B dX12_said_17 (x := c) rfl ?_
  refine Z.callVI (σ := σ) B (M' := mX12_isComer) (as := [.int c]) (st := []) (v := .int (nI 0)) dX12_said_19 wX12_isComer iX12_isComer sX12_isComer kX12_126 (hl.n (k := 45) (by decide)) (hl.k (k := 45) (by decide)) (by decide) rfl rfl (t_X12_isComer_out (σ := σ) H hc) rfl rfl (by decide) (by decide) (Nat.le_of_ble_eq_true rfl) (by decide) (by decide) ?_
  refine Z.if_eqN B dX12_said_22 (tgt := 37) rfl (by omega) (fun h22 => ?_) (fun h22 => by exfalso; first | omega | contradiction | simp_all)
  refine Z.aload_n B dX12_said_37 (v := .ref 45) rfl rfl ?_
  refine Z.iconst B dX12_said_38 (v := (-1)) rfl ?_
  refine Z.callVI (σ := σ) B (M' := mX12_no) (as := [.int (-1)]) (st := []) (v := .int (-1)) dX12_said_39 wX12_no iX12_no sX12_no kX12_94 (hl.n (k := 45) (by decide)) (hl.k (k := 45) (by decide)) (by decide) rfl rfl (t_X12_no_1 (σ := σ) hl) rfl rfl (by decide) (by decide) (Nat.le_of_ble_eq_true rfl) (by decide) (by decide) ?_
  refine Z.eqσ (τ := (zuX σ 46 (upd (zX σ 46) 1 (zX σ 46 1 + nI 1)))) rfl ?_
  refine Z.iret B Rt dX12_said_42 (ty := .int) rfl rfl (by decide) (by decide) ?_
  exact ⟨rfl, rfl⟩

theorem t_M_said_0 {σ : zSt} (hl : Lay σ) {n a y : Nat} (H : zMd σ n a y) {od : Nat → Nat} (ho : zMo σ a od) {pos : Nat → Nat} (hpo : zPo a od pos) {i kd pa : Nat} (hi : i < y) (hw : zMy σ i kd pa) {b : Nat} (hb : b < a) {c : Nat} (hc : c < n) {sl : Bool} : Dt mX12_said [.ref 45, .int (nI i), .int (zb sl), .int (nI b), .int (nI c)] σ (some (.int (msv (zX σ 47) (zX σ 48) (zX σ 49) (zX σ 50) sl kd pa od pos b c))) σ := by
  obtain ⟨-, hn, hn8, ha, ha4, hy, hy8⟩ := id H
  refine Dt.of (by decide) (Nat.le_of_ble_eq_true rfl) fun κ B Rt => ?_
  show Z κ 0 0 σ 0 [(0, .ref 45), (1, .int (nI i)), (2, .int (zb sl)), (3, .int (nI b)), (4, .int (nI c))] []
  refine Z.aload_n B dX12_said_0 (v := .ref 45) rfl rfl ?_
  refine Z.iload_n B dX12_said_1 (x := nI i) rfl ?_
  refine Z.callVI (σ := σ) B (M' := mX12_isWay) (as := [.int (nI i)]) (st := []) (v := .int (nI 1)) dX12_said_2 wX12_isWay iX12_isWay sX12_isWay kX12_98 (hl.n (k := 45) (by decide)) (hl.k (k := 45) (by decide)) (by decide) rfl rfl (t_X12_isWay_in (σ := σ) H hi) rfl rfl (by decide) (by decide) (Nat.le_of_ble_eq_true rfl) (by decide) (by decide) ?_
  refine Z.if_eqN B dX12_said_5 (tgt := 37) rfl (by omega) (fun h5 => by exfalso; first | omega | contradiction | simp_all) (fun h5 => ?_)
  refine Z.aload_n B dX12_said_8 (v := .ref 45) rfl rfl ?_
  refine Z.iload_n B dX12_said_9 (x := nI b) rfl ?_
  refine Z.callVI (σ := σ) B (M' := mX12_isAsker) (as := [.int (nI b)]) (st := []) (v := .int (nI 1)) dX12_said_10 wX12_isAsker iX12_isAsker sX12_isAsker kX12_129 (hl.n (k := 45) (by decide)) (hl.k (k := 45) (by decide)) (by decide) rfl rfl (t_X12_isAsker_in (σ := σ) H hb) rfl rfl (by decide) (by decide) (Nat.le_of_ble_eq_true rfl) (by decide) (by decide) ?_
  refine Z.if_eqN B dX12_said_13 (tgt := 37) rfl (by omega) (fun h13 => by exfalso; first | omega | contradiction | simp_all) (fun h13 => ?_)
  refine Z.aload_n B dX12_said_16 (v := .ref 45) rfl rfl ?_
  refine Z.iload B dX12_said_17 (x := nI c) rfl ?_
  refine Z.callVI (σ := σ) B (M' := mX12_isComer) (as := [.int (nI c)]) (st := []) (v := .int (nI 1)) dX12_said_19 wX12_isComer iX12_isComer sX12_isComer kX12_126 (hl.n (k := 45) (by decide)) (hl.k (k := 45) (by decide)) (by decide) rfl rfl (t_X12_isComer_in (σ := σ) H hc) rfl rfl (by decide) (by decide) (Nat.le_of_ble_eq_true rfl) (by decide) (by decide) ?_
  refine Z.if_eqN B dX12_said_22 (tgt := 37) rfl (by omega) (fun h22 => by exfalso; first | omega | contradiction | simp_all) (fun h22 => ?_)
  refine Z.aload_n B dX12_said_25 (v := .ref 45) rfl rfl ?_
  refine Z.iload_n B dX12_said_26 (x := nI i) rfl ?_
  refine Z.iload_n B dX12_said_27 (x := zb sl) rfl ?_
  refine Z.iload_n B dX12_said_28 (x := nI b) rfl ?_
  refine Z.iload B dX12_said_29 (x := nI c) rfl ?_
  refine Z.callVI (σ := σ) B (M' := mX12_saidBy) (as := [.int (nI i), .int (zb sl), .int (nI b), .int (nI c)]) (st := []) (v := .int (msv (zX σ 47) (zX σ 48) (zX σ 49) (zX σ 50) sl kd pa od pos b c)) dX12_said_31 wX12_saidBy iX12_saidBy sX12_saidBy kX12_189 (hl.n (k := 45) (by decide)) (hl.k (k := 45) (by decide)) (by decide) rfl rfl (t_X12_saidBy (σ := σ) H ho hpo hw hb hc) rfl rfl (by decide) (by decide) (Nat.le_of_ble_eq_true rfl) (by decide) (by decide) ?_
  refine Z.goto B dX12_said_34 (tgt := 42) rfl ?_
  refine Z.iret B Rt dX12_said_42 (ty := .int) rfl rfl (by decide) (by decide) ?_
  exact ⟨rfl, rfl⟩

theorem t_M_total_1 {σ : zSt} (hl : Lay σ) {n a y : Nat} (H : zMd σ n a y) {i : Int32} (hi : zOut i y) {sl : Bool} {c : Int32} : Dt mX12_total [.ref 45, .int i, .int (zb sl), .int c] σ (some (.int (-1))) (zuX σ 46 (upd (zX σ 46) 1 (zX σ 46 1 + nI 1))) := by
  obtain ⟨-, hn, hn8, ha, ha4, hy, hy8⟩ := id H
  refine Dt.of (by decide) (Nat.le_of_ble_eq_true rfl) fun κ B Rt => ?_
  show Z κ 0 0 σ 0 [(0, .ref 45), (1, .int i), (2, .int (zb sl)), (3, .int c)] []
  refine Z.aload_n B dX12_total_0 (v := .ref 45) rfl rfl ?_
  refine Z.iload_n B dX12_total_1 (x := i) rfl ?_
  refine Z.callVI (σ := σ) B (M' := mX12_isWay) (as := [.int i]) (st := []) (v := .int (nI 0)) dX12_total_2 wX12_isWay iX12_isWay sX12_isWay kX12_98 (hl.n (k := 45) (by decide)) (hl.k (k := 45) (by decide)) (by decide) rfl rfl (t_X12_isWay_out (σ := σ) H hi) rfl rfl (by decide) (by decide) (Nat.le_of_ble_eq_true rfl) (by decide) (by decide) ?_
  refine Z.if_eqN B dX12_total_5 (tgt := 26) rfl (by omega) (fun h5 => ?_) (fun h5 => by exfalso; first | omega | contradiction | simp_all)
  refine Z.aload_n B dX12_total_26 (v := .ref 45) rfl rfl ?_
  refine Z.iconst B dX12_total_27 (v := (-1)) rfl ?_
  refine Z.callVI (σ := σ) B (M' := mX12_no) (as := [.int (-1)]) (st := []) (v := .int (-1)) dX12_total_28 wX12_no iX12_no sX12_no kX12_94 (hl.n (k := 45) (by decide)) (hl.k (k := 45) (by decide)) (by decide) rfl rfl (t_X12_no_1 (σ := σ) hl) rfl rfl (by decide) (by decide) (Nat.le_of_ble_eq_true rfl) (by decide) (by decide) ?_
  refine Z.eqσ (τ := (zuX σ 46 (upd (zX σ 46) 1 (zX σ 46 1 + nI 1)))) rfl ?_
  refine Z.iret B Rt dX12_total_31 (ty := .int) rfl rfl (by decide) (by decide) ?_
  exact ⟨rfl, rfl⟩

theorem t_M_total_2 {σ : zSt} (hl : Lay σ) {n a y : Nat} (H : zMd σ n a y) {i kd pa : Nat} (hi : i < y) (hw : zMy σ i kd pa) {c : Int32} (hc : zOut c n) {sl : Bool} : Dt mX12_total [.ref 45, .int (nI i), .int (zb sl), .int c] σ (some (.int (-1))) (zuX σ 46 (upd (zX σ 46) 1 (zX σ 46 1 + nI 1))) := by
  obtain ⟨-, hn, hn8, ha, ha4, hy, hy8⟩ := id H
  refine Dt.of (by decide) (Nat.le_of_ble_eq_true rfl) fun κ B Rt => ?_
  show Z κ 0 0 σ 0 [(0, .ref 45), (1, .int (nI i)), (2, .int (zb sl)), (3, .int c)] []
  refine Z.aload_n B dX12_total_0 (v := .ref 45) rfl rfl ?_
  refine Z.iload_n B dX12_total_1 (x := nI i) rfl ?_
  refine Z.callVI (σ := σ) B (M' := mX12_isWay) (as := [.int (nI i)]) (st := []) (v := .int (nI 1)) dX12_total_2 wX12_isWay iX12_isWay sX12_isWay kX12_98 (hl.n (k := 45) (by decide)) (hl.k (k := 45) (by decide)) (by decide) rfl rfl (t_X12_isWay_in (σ := σ) H hi) rfl rfl (by decide) (by decide) (Nat.le_of_ble_eq_true rfl) (by decide) (by decide) ?_
  refine Z.if_eqN B dX12_total_5 (tgt := 26) rfl (by omega) (fun h5 => by exfalso; first | omega | contradiction | simp_all) (fun h5 => ?_)
  refine Z.aload_n B dX12_total_8 (v := .ref 45) rfl rfl ?_
  refine Z.iload_n B dX12_total_9 (x := c) rfl ?_
  refine Z.callVI (σ := σ) B (M' := mX12_isComer) (as := [.int c]) (st := []) (v := .int (nI 0)) dX12_total_10 wX12_isComer iX12_isComer sX12_isComer kX12_126 (hl.n (k := 45) (by decide)) (hl.k (k := 45) (by decide)) (by decide) rfl rfl (t_X12_isComer_out (σ := σ) H hc) rfl rfl (by decide) (by decide) (Nat.le_of_ble_eq_true rfl) (by decide) (by decide) ?_
  refine Z.if_eqN B dX12_total_13 (tgt := 26) rfl (by omega) (fun h13 => ?_) (fun h13 => by exfalso; first | omega | contradiction | simp_all)
  refine Z.aload_n B dX12_total_26 (v := .ref 45) rfl rfl ?_
  refine Z.iconst B dX12_total_27 (v := (-1)) rfl ?_
  refine Z.callVI (σ := σ) B (M' := mX12_no) (as := [.int (-1)]) (st := []) (v := .int (-1)) dX12_total_28 wX12_no iX12_no sX12_no kX12_94 (hl.n (k := 45) (by decide)) (hl.k (k := 45) (by decide)) (by decide) rfl rfl (t_X12_no_1 (σ := σ) hl) rfl rfl (by decide) (by decide) (Nat.le_of_ble_eq_true rfl) (by decide) (by decide) ?_
  refine Z.eqσ (τ := (zuX σ 46 (upd (zX σ 46) 1 (zX σ 46 1 + nI 1)))) rfl ?_
  refine Z.iret B Rt dX12_total_31 (ty := .int) rfl rfl (by decide) (by decide) ?_
  exact ⟨rfl, rfl⟩

theorem t_M_total_0 {σ : zSt} (hl : Lay σ) {n a y : Nat} (H : zMd σ n a y) {od : Nat → Nat} (ho : zMo σ a od) {pos : Nat → Nat} (hpo : zPo a od pos) {i kd pa : Nat} (hi : i < y) (hw : zMy σ i kd pa) (hg : zX σ 45 28 = (-1)) {c : Nat} (hc : c < n) {sl : Bool} : Dt mX12_total [.ref 45, .int (nI i), .int (zb sl), .int (nI c)] σ (some (.int ((mtf (zX σ 47) (zX σ 48) (zX σ 49) (zX σ 50) sl kd pa od pos a) c))) σ := by
  obtain ⟨-, hn, hn8, ha, ha4, hy, hy8⟩ := id H
  refine Dt.of (by decide) (Nat.le_of_ble_eq_true rfl) fun κ B Rt => ?_
  show Z κ 0 0 σ 0 [(0, .ref 45), (1, .int (nI i)), (2, .int (zb sl)), (3, .int (nI c))] []
  refine Z.aload_n B dX12_total_0 (v := .ref 45) rfl rfl ?_
  refine Z.iload_n B dX12_total_1 (x := nI i) rfl ?_
  refine Z.callVI (σ := σ) B (M' := mX12_isWay) (as := [.int (nI i)]) (st := []) (v := .int (nI 1)) dX12_total_2 wX12_isWay iX12_isWay sX12_isWay kX12_98 (hl.n (k := 45) (by decide)) (hl.k (k := 45) (by decide)) (by decide) rfl rfl (t_X12_isWay_in (σ := σ) H hi) rfl rfl (by decide) (by decide) (Nat.le_of_ble_eq_true rfl) (by decide) (by decide) ?_
  refine Z.if_eqN B dX12_total_5 (tgt := 26) rfl (by omega) (fun h5 => by exfalso; first | omega | contradiction | simp_all) (fun h5 => ?_)
  refine Z.aload_n B dX12_total_8 (v := .ref 45) rfl rfl ?_
  refine Z.iload_n B dX12_total_9 (x := nI c) rfl ?_
  refine Z.callVI (σ := σ) B (M' := mX12_isComer) (as := [.int (nI c)]) (st := []) (v := .int (nI 1)) dX12_total_10 wX12_isComer iX12_isComer sX12_isComer kX12_126 (hl.n (k := 45) (by decide)) (hl.k (k := 45) (by decide)) (by decide) rfl rfl (t_X12_isComer_in (σ := σ) H hc) rfl rfl (by decide) (by decide) (Nat.le_of_ble_eq_true rfl) (by decide) (by decide) ?_
  refine Z.if_eqN B dX12_total_13 (tgt := 26) rfl (by omega) (fun h13 => by exfalso; first | omega | contradiction | simp_all) (fun h13 => ?_)
  refine Z.aload_n B dX12_total_16 (v := .ref 45) rfl rfl ?_
  refine Z.iload_n B dX12_total_17 (x := nI i) rfl ?_
  refine Z.iload_n B dX12_total_18 (x := zb sl) rfl ?_
  refine Z.iload_n B dX12_total_19 (x := nI c) rfl ?_
  refine Z.callVI (σ := σ) B (M' := mX12_totalBy) (as := [.int (nI i), .int (zb sl), .int (nI c)]) (st := []) (v := .int ((mtf (zX σ 47) (zX σ 48) (zX σ 49) (zX σ 50) sl kd pa od pos a) c)) dX12_total_20 wX12_totalBy iX12_totalBy sX12_totalBy kX12_193 (hl.n (k := 45) (by decide)) (hl.k (k := 45) (by decide)) (by decide) rfl rfl (t_X12_totalBy (σ := σ) H ho hpo hw hg hc) rfl rfl (by decide) (by decide) (Nat.le_of_ble_eq_true rfl) (by decide) (by decide) ?_
  refine Z.goto B dX12_total_23 (tgt := 31) rfl ?_
  refine Z.iret B Rt dX12_total_31 (ty := .int) rfl rfl (by decide) (by decide) ?_
  exact ⟨rfl, rfl⟩

theorem t_M_taken_1 {σ : zSt} (hl : Lay σ) {n a y : Nat} (H : zMd σ n a y) {i : Int32} (hi : zOut i y) {sl : Bool} : Dt mX12_taken [.ref 45, .int i, .int (zb sl)] σ (some (.int ((-1) - nI 10))) (zuX σ 46 (upd (zX σ 46) 1 (zX σ 46 1 + nI 1))) := by
  obtain ⟨-, hn, hn8, ha, ha4, hy, hy8⟩ := id H
  refine Dt.of (by decide) (Nat.le_of_ble_eq_true rfl) fun κ B Rt => ?_
  show Z κ 0 0 σ 0 [(0, .ref 45), (1, .int i), (2, .int (zb sl))] []
  refine Z.aload_n B dX12_taken_0 (v := .ref 45) rfl rfl ?_
  refine Z.iload_n B dX12_taken_1 (x := i) rfl ?_
  refine Z.callVI (σ := σ) B (M' := mX12_isWay) (as := [.int i]) (st := []) (v := .int (nI 0)) dX12_taken_2 wX12_isWay iX12_isWay sX12_isWay kX12_98 (hl.n (k := 45) (by decide)) (hl.k (k := 45) (by decide)) (by decide) rfl rfl (t_X12_isWay_out (σ := σ) H hi) rfl rfl (by decide) (by decide) (Nat.le_of_ble_eq_true rfl) (by decide) (by decide) ?_
  refine Z.if_eqN B dX12_taken_5 (tgt := 17) rfl (by omega) (fun h5 => ?_) (fun h5 => by exfalso; first | omega | contradiction | simp_all)
  refine Z.aload_n B dX12_taken_17 (v := .ref 45) rfl rfl ?_
  refine Z.iconst B dX12_taken_18 (v := (-1)) rfl ?_
  refine Z.callVI (σ := σ) B (M' := mX12_noTen) (as := [.int (-1)]) (st := []) (v := .int ((-1) - nI 10)) dX12_taken_19 wX12_noTen iX12_noTen sX12_noTen kX12_197 (hl.n (k := 45) (by decide)) (hl.k (k := 45) (by decide)) (by decide) rfl rfl (t_X12_noTen_1 (σ := σ) hl) rfl rfl (by decide) (by decide) (Nat.le_of_ble_eq_true rfl) (by decide) (by decide) ?_
  refine Z.eqσ (τ := (zuX σ 46 (upd (zX σ 46) 1 (zX σ 46 1 + nI 1)))) rfl ?_
  refine Z.iret B Rt dX12_taken_22 (ty := .int) rfl rfl (by decide) (by decide) ?_
  exact ⟨rfl, rfl⟩

theorem t_M_taken_0 {σ : zSt} (hl : Lay σ) {n a y : Nat} (H : zMd σ n a y) {od : Nat → Nat} (ho : zMo σ a od) {pos : Nat → Nat} (hpo : zPo a od pos) {i kd pa : Nat} (hi : i < y) (hw : zMy σ i kd pa) (hg : zX σ 45 28 = (-1)) {sl : Bool} : Dt mX12_taken [.ref 45, .int (nI i), .int (zb sl)] σ (some (.int (gI (mtf (zX σ 47) (zX σ 48) (zX σ 49) (zX σ 50) sl kd pa od pos a) n))) σ := by
  obtain ⟨-, hn, hn8, ha, ha4, hy, hy8⟩ := id H
  refine Dt.of (by decide) (Nat.le_of_ble_eq_true rfl) fun κ B Rt => ?_
  show Z κ 0 0 σ 0 [(0, .ref 45), (1, .int (nI i)), (2, .int (zb sl))] []
  refine Z.aload_n B dX12_taken_0 (v := .ref 45) rfl rfl ?_
  refine Z.iload_n B dX12_taken_1 (x := nI i) rfl ?_
  refine Z.callVI (σ := σ) B (M' := mX12_isWay) (as := [.int (nI i)]) (st := []) (v := .int (nI 1)) dX12_taken_2 wX12_isWay iX12_isWay sX12_isWay kX12_98 (hl.n (k := 45) (by decide)) (hl.k (k := 45) (by decide)) (by decide) rfl rfl (t_X12_isWay_in (σ := σ) H hi) rfl rfl (by decide) (by decide) (Nat.le_of_ble_eq_true rfl) (by decide) (by decide) ?_
  refine Z.if_eqN B dX12_taken_5 (tgt := 17) rfl (by omega) (fun h5 => by exfalso; first | omega | contradiction | simp_all) (fun h5 => ?_)
  refine Z.aload_n B dX12_taken_8 (v := .ref 45) rfl rfl ?_
  refine Z.iload_n B dX12_taken_9 (x := nI i) rfl ?_
  refine Z.iload_n B dX12_taken_10 (x := zb sl) rfl ?_
  refine Z.callVI (σ := σ) B (M' := mX12_takenBy) (as := [.int (nI i), .int (zb sl)]) (st := []) (v := .int (gI (mtf (zX σ 47) (zX σ 48) (zX σ 49) (zX σ 50) sl kd pa od pos a) n)) dX12_taken_11 wX12_takenBy iX12_takenBy sX12_takenBy kX12_104 (hl.n (k := 45) (by decide)) (hl.k (k := 45) (by decide)) (by decide) rfl rfl (t_X12_takenBy (σ := σ) H ho hpo hw hg) rfl rfl (by decide) (by decide) (Nat.le_of_ble_eq_true rfl) (by decide) (by decide) ?_
  refine Z.goto B dX12_taken_14 (tgt := 22) rfl ?_
  refine Z.iret B Rt dX12_taken_22 (ty := .int) rfl rfl (by decide) (by decide) ?_
  exact ⟨rfl, rfl⟩

theorem t_M_best_5 {σ : zSt} (hl : Lay σ) {n a y : Nat} (H : zMd σ n a y) (h0 : n = 0) : Dt mX12_best [.ref 45] σ (some (.int (-5))) (zuX σ 46 (upd (zX σ 46) 5 (zX σ 46 5 + nI 1))) := by
  obtain ⟨-, hn, hn8, ha, ha4, hy, hy8⟩ := id H
  refine Dt.of (by decide) (Nat.le_of_ble_eq_true rfl) fun κ B Rt => ?_
  show Z κ 0 0 σ 0 [(0, .ref 45)] []
  refine Z.aload_n B dX12_best_0 (v := .ref 45) rfl rfl ?_
  refine Z.getI (σ := σ) B fX12_81_12 dX12_best_1 (hl.n (k := 45) (by decide)) (hl.k (k := 45) (by decide)) (by decide) (v := nI n) hn ?_
  refine Z.if_neN B dX12_best_4 (tgt := 16) rfl (by omega) (fun h4 => by exfalso; first | omega | contradiction | simp_all) (fun h4 => ?_)
  refine Z.aload_n B dX12_best_7 (v := .ref 45) rfl rfl ?_
  refine Z.bipush B dX12_best_8 (v := (-5)) rfl ?_
  refine Z.callVI (σ := σ) B (M' := mX12_no) (as := [.int (-5)]) (st := []) (v := .int (-5)) dX12_best_10 wX12_no iX12_no sX12_no kX12_94 (hl.n (k := 45) (by decide)) (hl.k (k := 45) (by decide)) (by decide) rfl rfl (t_X12_no_5 (σ := σ) hl) rfl rfl (by decide) (by decide) (Nat.le_of_ble_eq_true rfl) (by decide) (by decide) ?_
  refine Z.eqσ (τ := (zuX σ 46 (upd (zX σ 46) 5 (zX σ 46 5 + nI 1)))) rfl ?_
  refine Z.goto B dX12_best_13 (tgt := 20) rfl ?_
  refine Z.iret B Rt dX12_best_20 (ty := .int) rfl rfl (by decide) (by decide) ?_
  exact ⟨rfl, rfl⟩

theorem t_M_best_0 {σ : zSt} (hl : Lay σ) {n a y : Nat} (H : zMd σ n a y) (h0 : 0 < n) : Dt mX12_best [.ref 45] σ (some (.int (nI (ga (fun c => cn (zX σ 47) c 6) (n - 1))))) σ := by
  obtain ⟨-, hn, hn8, ha, ha4, hy, hy8⟩ := id H
  refine Dt.of (by decide) (Nat.le_of_ble_eq_true rfl) fun κ B Rt => ?_
  show Z κ 0 0 σ 0 [(0, .ref 45)] []
  refine Z.aload_n B dX12_best_0 (v := .ref 45) rfl rfl ?_
  refine Z.getI (σ := σ) B fX12_81_12 dX12_best_1 (hl.n (k := 45) (by decide)) (hl.k (k := 45) (by decide)) (by decide) (v := nI n) hn ?_
  refine Z.if_neN B dX12_best_4 (tgt := 16) rfl (by omega) (fun h4 => ?_) (fun h4 => by exfalso; first | omega | contradiction | simp_all)
  refine Z.aload_n B dX12_best_16 (v := .ref 45) rfl rfl ?_
  refine Z.callVI (σ := σ) B (M' := mX12_bestNow) (as := []) (st := []) (v := .int (nI (ga (fun c => cn (zX σ 47) c 6) (n - 1)))) dX12_best_17 wX12_bestNow iX12_bestNow sX12_bestNow kX12_200 (hl.n (k := 45) (by decide)) (hl.k (k := 45) (by decide)) (by decide) rfl rfl (t_X12_bestNow (σ := σ) H h0) rfl rfl (by decide) (by decide) (Nat.le_of_ble_eq_true rfl) (by decide) (by decide) ?_
  refine Z.iret B Rt dX12_best_20 (ty := .int) rfl rfl (by decide) (by decide) ?_
  exact ⟨rfl, rfl⟩

theorem t_M_tells_1 {σ : zSt} (hl : Lay σ) {n a y : Nat} (H : zMd σ n a y) {i : Int32} (hi : zOut i y) {sl : Bool} : Dt mX12_tells [.ref 45, .int i, .int (zb sl)] σ (some (.int ((-1) - nI 1000))) (zuX σ 46 (upd (zX σ 46) 1 (zX σ 46 1 + nI 1))) := by
  obtain ⟨-, hn, hn8, ha, ha4, hy, hy8⟩ := id H
  refine Dt.of (by decide) (Nat.le_of_ble_eq_true rfl) fun κ B Rt => ?_
  show Z κ 0 0 σ 0 [(0, .ref 45), (1, .int i), (2, .int (zb sl))] []
  refine Z.aload_n B dX12_tells_0 (v := .ref 45) rfl rfl ?_
  refine Z.iload_n B dX12_tells_1 (x := i) rfl ?_
  refine Z.callVI (σ := σ) B (M' := mX12_isWay) (as := [.int i]) (st := []) (v := .int (nI 0)) dX12_tells_2 wX12_isWay iX12_isWay sX12_isWay kX12_98 (hl.n (k := 45) (by decide)) (hl.k (k := 45) (by decide)) (by decide) rfl rfl (t_X12_isWay_out (σ := σ) H hi) rfl rfl (by decide) (by decide) (Nat.le_of_ble_eq_true rfl) (by decide) (by decide) ?_
  refine Z.if_neN B dX12_tells_5 (tgt := 14) rfl (by omega) (fun h5 => by exfalso; first | omega | contradiction | simp_all) (fun h5 => ?_)
  refine Z.aload_n B dX12_tells_8 (v := .ref 45) rfl rfl ?_
  refine Z.iconst B dX12_tells_9 (v := (-1)) rfl ?_
  refine Z.callVI (σ := σ) B (M' := mX12_noLow) (as := [.int (-1)]) (st := []) (v := .int ((-1) - nI 1000)) dX12_tells_10 wX12_noLow iX12_noLow sX12_noLow kX12_203 (hl.n (k := 45) (by decide)) (hl.k (k := 45) (by decide)) (by decide) rfl rfl (t_X12_noLow_1 (σ := σ) hl) rfl rfl (by decide) (by decide) (Nat.le_of_ble_eq_true rfl) (by decide) (by decide) ?_
  refine Z.eqσ (τ := (zuX σ 46 (upd (zX σ 46) 1 (zX σ 46 1 + nI 1)))) rfl ?_
  refine Z.iret B Rt dX12_tells_13 (ty := .int) rfl rfl (by decide) (by decide) ?_
  exact ⟨rfl, rfl⟩

theorem t_M_tells_0 {σ : zSt} (hl : Lay σ) {n a y : Nat} (H : zMd σ n a y) {od : Nat → Nat} (ho : zMo σ a od) {pos : Nat → Nat} (hpo : zPo a od pos) {i kd pa : Nat} (hi : i < y) (hw : zMy σ i kd pa) (hg : zX σ 45 28 = (-1)) {sl : Bool} : Dt mX12_tells [.ref 45, .int (nI i), .int (zb sl)] σ (some (.int (tO (mt (am_ 255) (zX σ 47) (mtf (zX σ 47) (zX σ 48) (zX σ 49) (zX σ 50) sl kd pa od pos a)) n))) (zuX σ 64 (fi n (mtf (zX σ 47) (zX σ 48) (zX σ 49) (zX σ 50) sl kd pa od pos a) (zX σ 64))) := by
  obtain ⟨-, hn, hn8, ha, ha4, hy, hy8⟩ := id H
  refine Dt.of (by decide) (Nat.le_of_ble_eq_true rfl) fun κ B Rt => ?_
  show Z κ 0 0 σ 0 [(0, .ref 45), (1, .int (nI i)), (2, .int (zb sl))] []
  refine Z.aload_n B dX12_tells_0 (v := .ref 45) rfl rfl ?_
  refine Z.iload_n B dX12_tells_1 (x := nI i) rfl ?_
  refine Z.callVI (σ := σ) B (M' := mX12_isWay) (as := [.int (nI i)]) (st := []) (v := .int (nI 1)) dX12_tells_2 wX12_isWay iX12_isWay sX12_isWay kX12_98 (hl.n (k := 45) (by decide)) (hl.k (k := 45) (by decide)) (by decide) rfl rfl (t_X12_isWay_in (σ := σ) H hi) rfl rfl (by decide) (by decide) (Nat.le_of_ble_eq_true rfl) (by decide) (by decide) ?_
  refine Z.if_neN B dX12_tells_5 (tgt := 14) rfl (by omega) (fun h5 => ?_) (fun h5 => by exfalso; first | omega | contradiction | simp_all)
  refine Z.aload_n B dX12_tells_14 (v := .ref 45) rfl rfl ?_
  refine Z.iload_n B dX12_tells_15 (x := nI i) rfl ?_
  refine Z.iload_n B dX12_tells_16 (x := zb sl) rfl ?_
  refine Z.callVN (σ := σ) B (M' := mX12_totals) (as := [.int (nI i), .int (zb sl)]) (st := []) dX12_tells_17 wX12_totals iX12_totals sX12_totals kX12_206 (hl.n (k := 45) (by decide)) (hl.k (k := 45) (by decide)) (by decide) rfl rfl (t_X12_totals (σ := σ) H ho hpo hw hg) rfl rfl (by decide) (by decide) (Nat.le_of_ble_eq_true rfl) (by decide) (by decide) ?_
  refine Z.eqσ (τ := (zuX σ 64 (fi n (mtf (zX σ 47) (zX σ 48) (zX σ 49) (zX σ 50) sl kd pa od pos a) (zX σ 64)))) rfl ?_
  refine Z.aload_n B dX12_tells_20 (v := .ref 45) rfl rfl ?_
  refine Z.sipush B dX12_tells_21 (v := nI 255) rfl ?_
  refine Z.callVI (σ := (zuX σ 64 (fi n (mtf (zX σ 47) (zX σ 48) (zX σ 49) (zX σ 50) sl kd pa od pos a) (zX σ 64)))) B (M' := mX12_tellsBy) (as := [.int (nI 255)]) (st := []) (v := .int (tO (mt (am_ 255) (zX σ 47) (fi n (mtf (zX σ 47) (zX σ 48) (zX σ 49) (zX σ 50) sl kd pa od pos a) (zX σ 64))) n)) dX12_tells_24 wX12_tellsBy iX12_tellsBy sX12_tellsBy kX12_210 (hl.n (k := 45) (by decide)) (hl.k (k := 45) (by decide)) (by decide) rfl rfl (t_X12_tellsBy (σ := (zuX σ 64 (fi n (mtf (zX σ 47) (zX σ 48) (zX σ 49) (zX σ 50) sl kd pa od pos a) (zX σ 64)))) H (mk := 255) (by omega)) rfl rfl (by decide) (by decide) (Nat.le_of_ble_eq_true rfl) (by decide) (by decide) ?_
  refine Z.iret B Rt dX12_tells_27 (ty := .int) rfl rfl (by decide) (by decide) ?_
  exact ⟨by rw [mt_fi], rfl⟩

theorem t_M_joins_ {σ : zSt} (hl : Lay σ) {n a y : Nat} (H : zMd σ n a y) {od : Nat → Nat} (ho : zMo σ a od) {pos : Nat → Nat} (hpo : zPo a od pos) {w kd pa w2 kd2 pa2 x : Nat} (hw : zMy σ w kd pa) (hw2 : zMy σ w2 kd2 pa2) (hg : zX σ 45 28 = (-1))  : Dt mX12_joins [.ref 45, .int (nI w), .int (nI w2), .int (nI x)] σ (some (.int (tO (mt (am_ 255) (zX σ 47) (fun c => nI x * (mtf (zX σ 47) (zX σ 48) (zX σ 49) (zX σ 50) true kd pa od pos a) c + (nI 10 - nI x) * (mtf (zX σ 47) (zX σ 48) (zX σ 49) (zX σ 50) true kd2 pa2 od pos a) c)) n))) (zuX σ 64 (fi n (fun c => nI x * (mtf (zX σ 47) (zX σ 48) (zX σ 49) (zX σ 50) true kd pa od pos a) c + (nI 10 - nI x) * (mtf (zX σ 47) (zX σ 48) (zX σ 49) (zX σ 50) true kd2 pa2 od pos a) c) (zX σ 64))) := by
  obtain ⟨-, hn, hn8, ha, ha4, hy, hy8⟩ := id H
  refine Dt.of (by decide) (Nat.le_of_ble_eq_true rfl) fun κ B Rt => ?_
  show Z κ 0 0 σ 0 [(0, .ref 45), (1, .int (nI w)), (2, .int (nI w2)), (3, .int (nI x))] []
  refine Z.iconst B dX12_joins_0 (v := nI 0) rfl ?_
  refine Z.istore B dX12_joins_1 (by decide) (L' := [(0, .ref 45), (1, .int (nI w)), (2, .int (nI w2)), (3, .int (nI x)), (4, .int (nI 0))]) rfl ?_
  have hloop3 : ∀ i : Nat, i ≤ n → Z κ 0 0 (zuX σ 64 (fi i (fun c => nI x * (mtf (zX σ 47) (zX σ 48) (zX σ 49) (zX σ 50) true kd pa od pos a) c + (nI 10 - nI x) * (mtf (zX σ 47) (zX σ 48) (zX σ 49) (zX σ 50) true kd2 pa2 od pos a) c) (zX σ 64))) 3 [(0, .ref 45), (1, .int (nI w)), (2, .int (nI w2)), (3, .int (nI x)), (4, .int (nI i))] [] := by
    refine z_loop (fun i => n - i) (fun i ih hi => ?_)
    refine Z.iload B dX12_joins_3 (x := nI i) rfl ?_
    refine Z.aload_n B dX12_joins_5 (v := .ref 45) rfl rfl ?_
    refine Z.getI (σ := (zuX σ 64 (fi i (fun c => nI x * (mtf (zX σ 47) (zX σ 48) (zX σ 49) (zX σ 50) true kd pa od pos a) c + (nI 10 - nI x) * (mtf (zX σ 47) (zX σ 48) (zX σ 49) (zX σ 50) true kd2 pa2 od pos a) c) (zX σ 64)))) B fX12_81_12 dX12_joins_6 (hl.n (k := 45) (by decide)) (hl.k (k := 45) (by decide)) (by decide) (v := nI n) hn ?_
    refine Z.icmp_geN B dX12_joins_9 (tgt := 49) rfl (by omega) (by omega) (fun h9 => ?_) (fun h9 => ?_)
    · skip
      obtain rfl : n = i := by omega
      refine Z.aload_n B dX12_joins_49 (v := .ref 45) rfl rfl ?_
      refine Z.sipush B dX12_joins_50 (v := nI 255) rfl ?_
      refine Z.callVI (σ := (zuX σ 64 (fi n (fun c => nI x * (mtf (zX σ 47) (zX σ 48) (zX σ 49) (zX σ 50) true kd pa od pos a) c + (nI 10 - nI x) * (mtf (zX σ 47) (zX σ 48) (zX σ 49) (zX σ 50) true kd2 pa2 od pos a) c) (zX σ 64)))) B (M' := mX12_tellsBy) (as := [.int (nI 255)]) (st := []) (v := .int (tO (mt (am_ 255) (zX σ 47) (fi n (fun c => nI x * (mtf (zX σ 47) (zX σ 48) (zX σ 49) (zX σ 50) true kd pa od pos a) c + (nI 10 - nI x) * (mtf (zX σ 47) (zX σ 48) (zX σ 49) (zX σ 50) true kd2 pa2 od pos a) c) (zX σ 64))) n)) dX12_joins_53 wX12_tellsBy iX12_tellsBy sX12_tellsBy kX12_210 (hl.n (k := 45) (by decide)) (hl.k (k := 45) (by decide)) (by decide) rfl rfl (t_X12_tellsBy (σ := (zuX σ 64 (fi n (fun c => nI x * (mtf (zX σ 47) (zX σ 48) (zX σ 49) (zX σ 50) true kd pa od pos a) c + (nI 10 - nI x) * (mtf (zX σ 47) (zX σ 48) (zX σ 49) (zX σ 50) true kd2 pa2 od pos a) c) (zX σ 64)))) H (mk := 255) (by omega)) rfl rfl (by decide) (by decide) (Nat.le_of_ble_eq_true rfl) (by decide) (by decide) ?_
      refine Z.iret B Rt dX12_joins_56 (ty := .int) rfl rfl (by decide) (by decide) ?_
      exact ⟨by rw [mt_fi], rfl⟩
    · skip
      refine Z.aload_n B dX12_joins_12 (v := .ref 45) rfl rfl ?_
      refine Z.getR (σ := (zuX σ 64 (fi i (fun c => nI x * (mtf (zX σ 47) (zX σ 48) (zX σ 49) (zX σ 50) true kd pa od pos a) c + (nI 10 - nI x) * (mtf (zX σ 47) (zX σ 48) (zX σ 49) (zX σ 50) true kd2 pa2 od pos a) c) (zX σ 64)))) B fX12_75_12 dX12_joins_13 (hl.n (k := 45) (by decide)) (hl.k (k := 45) (by decide)) (by decide) (j := 64) (hl.r (k := 45) (f := 29) (by decide) (by decide)) ?_
      refine Z.iload B dX12_joins_16 (x := nI i) rfl ?_
      refine Z.iload_n B dX12_joins_18 (x := nI x) rfl ?_
      refine Z.aload_n B dX12_joins_19 (v := .ref 45) rfl rfl ?_
      refine Z.iload_n B dX12_joins_20 (x := nI w) rfl ?_
      refine Z.iconst B dX12_joins_21 (v := nI 1) rfl ?_
      refine Z.iload B dX12_joins_22 (x := nI i) rfl ?_
      have etrue : nI 1 = zb true := rfl
      refine Z.callVI (σ := (zuX σ 64 (fi i (fun c => nI x * (mtf (zX σ 47) (zX σ 48) (zX σ 49) (zX σ 50) true kd pa od pos a) c + (nI 10 - nI x) * (mtf (zX σ 47) (zX σ 48) (zX σ 49) (zX σ 50) true kd2 pa2 od pos a) c) (zX σ 64)))) B (M' := mX12_totalBy) (as := [.int (nI w), .int (zb true), .int (nI i)]) (st := [.int (nI x), .int (nI i), .ref 64]) (v := .int ((mtf (zX σ 47) (zX σ 48) (zX σ 49) (zX σ 50) true kd pa od pos a) i)) dX12_joins_24 wX12_totalBy iX12_totalBy sX12_totalBy kX12_193 (hl.n (k := 45) (by decide)) (hl.k (k := 45) (by decide)) (by decide) rfl rfl (t_X12_totalBy (σ := (zuX σ 64 (fi i (fun c => nI x * (mtf (zX σ 47) (zX σ 48) (zX σ 49) (zX σ 50) true kd pa od pos a) c + (nI 10 - nI x) * (mtf (zX σ 47) (zX σ 48) (zX σ 49) (zX σ 50) true kd2 pa2 od pos a) c) (zX σ 64)))) H ho hpo hw hg (sl := true) (c := i) (by omega)) rfl rfl (by decide) (by decide) (Nat.le_of_ble_eq_true rfl) (by decide) (by decide) ?_
      refine Z.imul B dX12_joins_27 ?_
      refine Z.bipush B dX12_joins_28 (v := nI 10) rfl ?_
      refine Z.iload_n B dX12_joins_30 (x := nI x) rfl ?_
      refine Z.isub B dX12_joins_31 ?_
      refine Z.aload_n B dX12_joins_32 (v := .ref 45) rfl rfl ?_
      refine Z.iload_n B dX12_joins_33 (x := nI w2) rfl ?_
      refine Z.iconst B dX12_joins_34 (v := nI 1) rfl ?_
      refine Z.iload B dX12_joins_35 (x := nI i) rfl ?_
      have etrue : nI 1 = zb true := rfl
      refine Z.callVI (σ := (zuX σ 64 (fi i (fun c => nI x * (mtf (zX σ 47) (zX σ 48) (zX σ 49) (zX σ 50) true kd pa od pos a) c + (nI 10 - nI x) * (mtf (zX σ 47) (zX σ 48) (zX σ 49) (zX σ 50) true kd2 pa2 od pos a) c) (zX σ 64)))) B (M' := mX12_totalBy) (as := [.int (nI w2), .int (zb true), .int (nI i)]) (st := [.int ((nI 10) - (nI x)), .int ((nI x) * ((mtf (zX σ 47) (zX σ 48) (zX σ 49) (zX σ 50) true kd pa od pos a) i)), .int (nI i), .ref 64]) (v := .int ((mtf (zX σ 47) (zX σ 48) (zX σ 49) (zX σ 50) true kd2 pa2 od pos a) i)) dX12_joins_37 wX12_totalBy iX12_totalBy sX12_totalBy kX12_193 (hl.n (k := 45) (by decide)) (hl.k (k := 45) (by decide)) (by decide) rfl rfl (t_X12_totalBy (σ := (zuX σ 64 (fi i (fun c => nI x * (mtf (zX σ 47) (zX σ 48) (zX σ 49) (zX σ 50) true kd pa od pos a) c + (nI 10 - nI x) * (mtf (zX σ 47) (zX σ 48) (zX σ 49) (zX σ 50) true kd2 pa2 od pos a) c) (zX σ 64)))) H ho hpo hw2 hg (sl := true) (c := i) (by omega)) rfl rfl (by decide) (by decide) (Nat.le_of_ble_eq_true rfl) (by decide) (by decide) ?_
      refine Z.imul B dX12_joins_40 ?_
      refine Z.iadd B dX12_joins_41 ?_
      refine Z.iast (σ := (zuX σ 64 (fi i (fun c => nI x * (mtf (zX σ 47) (zX σ 48) (zX σ 49) (zX σ 50) true kd pa od pos a) c + (nI 10 - nI x) * (mtf (zX σ 47) (zX σ 48) (zX σ 49) (zX σ 50) true kd2 pa2 od pos a) c) (zX σ 64)))) B dX12_joins_42 (n := 8) (hl.n (k := 64) (by decide)) (hl.k (k := 64) (by decide)) (hl.l (k := 64) (by decide)) (by decide) (j := i) rfl (by omega) (τ := (zuX σ 64 (fi (i + 1) (fun c => nI x * (mtf (zX σ 47) (zX σ 48) (zX σ 49) (zX σ 50) true kd pa od pos a) c + (nI 10 - nI x) * (mtf (zX σ 47) (zX σ 48) (zX σ 49) (zX σ 50) true kd2 pa2 od pos a) c) (zX σ 64)))) (by rw [zX_self, zuX_uX, fi_s rfl]) ?_
      refine Z.iincN B dX12_joins_43 (by decide) (a := i) rfl (L' := [(0, .ref 45), (1, .int (nI w)), (2, .int (nI w2)), (3, .int (nI x)), (4, .int (nI (i + 1)))]) rfl ?_
      refine Z.goto B dX12_joins_46 (tgt := 3) rfl ?_
      exact ih (i + 1) (by omega) (by omega)
  have h0 := hloop3 0 (Nat.zero_le _)
  rw [fi_0, zuX_id] at h0
  exact h0

theorem t_M_joined_1 {σ : zSt} (hl : Lay σ) {n a y : Nat} (H : zMd σ n a y) {i : Int32} (hi : zOut i y) {j x : Int32} : Dt mX12_joined [.ref 45, .int i, .int j, .int x] σ (some (.int ((-1) - nI 1000))) (zuX σ 46 (upd (zX σ 46) 1 (zX σ 46 1 + nI 1))) := by
  obtain ⟨-, hn, hn8, ha, ha4, hy, hy8⟩ := id H
  refine Dt.of (by decide) (Nat.le_of_ble_eq_true rfl) fun κ B Rt => ?_
  show Z κ 0 0 σ 0 [(0, .ref 45), (1, .int i), (2, .int j), (3, .int x)] []
  refine Z.aload_n B dX12_joined_0 (v := .ref 45) rfl rfl ?_
  refine Z.iload_n B dX12_joined_1 (x := i) rfl ?_
  refine Z.callVI (σ := σ) B (M' := mX12_isWay) (as := [.int i]) (st := []) (v := .int (nI 0)) dX12_joined_2 wX12_isWay iX12_isWay sX12_isWay kX12_98 (hl.n (k := 45) (by decide)) (hl.k (k := 45) (by decide)) (by decide) rfl rfl (t_X12_isWay_out (σ := σ) H hi) rfl rfl (by decide) (by decide) (Nat.le_of_ble_eq_true rfl) (by decide) (by decide) ?_
  refine Z.if_eqN B dX12_joined_5 (tgt := 16) rfl (by omega) (fun h5 => ?_) (fun h5 => by exfalso; first | omega | contradiction | simp_all)
  refine Z.aload_n B dX12_joined_16 (v := .ref 45) rfl rfl ?_
  refine Z.iconst B dX12_joined_17 (v := (-1)) rfl ?_
  refine Z.callVI (σ := σ) B (M' := mX12_noLow) (as := [.int (-1)]) (st := []) (v := .int ((-1) - nI 1000)) dX12_joined_18 wX12_noLow iX12_noLow sX12_noLow kX12_203 (hl.n (k := 45) (by decide)) (hl.k (k := 45) (by decide)) (by decide) rfl rfl (t_X12_noLow_1 (σ := σ) hl) rfl rfl (by decide) (by decide) (Nat.le_of_ble_eq_true rfl) (by decide) (by decide) ?_
  refine Z.eqσ (τ := (zuX σ 46 (upd (zX σ 46) 1 (zX σ 46 1 + nI 1)))) rfl ?_
  refine Z.iret B Rt dX12_joined_21 (ty := .int) rfl rfl (by decide) (by decide) ?_
  exact ⟨rfl, rfl⟩

theorem t_M_joined_3 {σ : zSt} (hl : Lay σ) {n a y : Nat} (H : zMd σ n a y) {i kd pa : Nat} (hi : i < y) (hw : zMy σ i kd pa) {j x : Int32} (hj : zOut j y) : Dt mX12_joined [.ref 45, .int (nI i), .int j, .int x] σ (some (.int ((-1) - nI 1000))) (zuX σ 46 (upd (zX σ 46) 1 (zX σ 46 1 + nI 1))) := by
  obtain ⟨-, hn, hn8, ha, ha4, hy, hy8⟩ := id H
  refine Dt.of (by decide) (Nat.le_of_ble_eq_true rfl) fun κ B Rt => ?_
  show Z κ 0 0 σ 0 [(0, .ref 45), (1, .int (nI i)), (2, .int j), (3, .int x)] []
  refine Z.aload_n B dX12_joined_0 (v := .ref 45) rfl rfl ?_
  refine Z.iload_n B dX12_joined_1 (x := nI i) rfl ?_
  refine Z.callVI (σ := σ) B (M' := mX12_isWay) (as := [.int (nI i)]) (st := []) (v := .int (nI 1)) dX12_joined_2 wX12_isWay iX12_isWay sX12_isWay kX12_98 (hl.n (k := 45) (by decide)) (hl.k (k := 45) (by decide)) (by decide) rfl rfl (t_X12_isWay_in (σ := σ) H hi) rfl rfl (by decide) (by decide) (Nat.le_of_ble_eq_true rfl) (by decide) (by decide) ?_
  refine Z.if_eqN B dX12_joined_5 (tgt := 16) rfl (by omega) (fun h5 => by exfalso; first | omega | contradiction | simp_all) (fun h5 => ?_)
  refine Z.aload_n B dX12_joined_8 (v := .ref 45) rfl rfl ?_
  refine Z.iload_n B dX12_joined_9 (x := j) rfl ?_
  refine Z.callVI (σ := σ) B (M' := mX12_isWay) (as := [.int j]) (st := []) (v := .int (nI 0)) dX12_joined_10 wX12_isWay iX12_isWay sX12_isWay kX12_98 (hl.n (k := 45) (by decide)) (hl.k (k := 45) (by decide)) (by decide) rfl rfl (t_X12_isWay_out (σ := σ) H hj) rfl rfl (by decide) (by decide) (Nat.le_of_ble_eq_true rfl) (by decide) (by decide) ?_
  refine Z.if_neN B dX12_joined_13 (tgt := 22) rfl (by omega) (fun h13 => by exfalso; first | omega | contradiction | simp_all) (fun h13 => ?_)
  refine Z.aload_n B dX12_joined_16 (v := .ref 45) rfl rfl ?_
  refine Z.iconst B dX12_joined_17 (v := (-1)) rfl ?_
  refine Z.callVI (σ := σ) B (M' := mX12_noLow) (as := [.int (-1)]) (st := []) (v := .int ((-1) - nI 1000)) dX12_joined_18 wX12_noLow iX12_noLow sX12_noLow kX12_203 (hl.n (k := 45) (by decide)) (hl.k (k := 45) (by decide)) (by decide) rfl rfl (t_X12_noLow_1 (σ := σ) hl) rfl rfl (by decide) (by decide) (Nat.le_of_ble_eq_true rfl) (by decide) (by decide) ?_
  refine Z.eqσ (τ := (zuX σ 46 (upd (zX σ 46) 1 (zX σ 46 1 + nI 1)))) rfl ?_
  refine Z.iret B Rt dX12_joined_21 (ty := .int) rfl rfl (by decide) (by decide) ?_
  exact ⟨rfl, rfl⟩

theorem t_M_joined_6 {σ : zSt} (hl : Lay σ) {n a y : Nat} (H : zMd σ n a y) {i kd pa : Nat} (hi : i < y) (hw : zMy σ i kd pa) {j kd2 pa2 : Nat} (hj : j < y) (hw2 : zMy σ j kd2 pa2) {x : Int32} (hx : zOut x 11) : Dt mX12_joined [.ref 45, .int (nI i), .int (nI j), .int x] σ (some (.int ((-6) - nI 1000))) (zuX σ 46 (upd (zX σ 46) 6 (zX σ 46 6 + nI 1))) := by
  obtain ⟨-, hn, hn8, ha, ha4, hy, hy8⟩ := id H
  refine Dt.of (by decide) (Nat.le_of_ble_eq_true rfl) fun κ B Rt => ?_
  show Z κ 0 0 σ 0 [(0, .ref 45), (1, .int (nI i)), (2, .int (nI j)), (3, .int x)] []
  refine Z.aload_n B dX12_joined_0 (v := .ref 45) rfl rfl ?_
  refine Z.iload_n B dX12_joined_1 (x := nI i) rfl ?_
  refine Z.callVI (σ := σ) B (M' := mX12_isWay) (as := [.int (nI i)]) (st := []) (v := .int (nI 1)) dX12_joined_2 wX12_isWay iX12_isWay sX12_isWay kX12_98 (hl.n (k := 45) (by decide)) (hl.k (k := 45) (by decide)) (by decide) rfl rfl (t_X12_isWay_in (σ := σ) H hi) rfl rfl (by decide) (by decide) (Nat.le_of_ble_eq_true rfl) (by decide) (by decide) ?_
  refine Z.if_eqN B dX12_joined_5 (tgt := 16) rfl (by omega) (fun h5 => by exfalso; first | omega | contradiction | simp_all) (fun h5 => ?_)
  refine Z.aload_n B dX12_joined_8 (v := .ref 45) rfl rfl ?_
  refine Z.iload_n B dX12_joined_9 (x := nI j) rfl ?_
  refine Z.callVI (σ := σ) B (M' := mX12_isWay) (as := [.int (nI j)]) (st := []) (v := .int (nI 1)) dX12_joined_10 wX12_isWay iX12_isWay sX12_isWay kX12_98 (hl.n (k := 45) (by decide)) (hl.k (k := 45) (by decide)) (by decide) rfl rfl (t_X12_isWay_in (σ := σ) H hj) rfl rfl (by decide) (by decide) (Nat.le_of_ble_eq_true rfl) (by decide) (by decide) ?_
  refine Z.if_neN B dX12_joined_13 (tgt := 22) rfl (by omega) (fun h13 => ?_) (fun h13 => by exfalso; first | omega | contradiction | simp_all)
  refine Z.iload_n B dX12_joined_22 (x := x) rfl ?_
  refine Z.if_lt B dX12_joined_23 (tgt := 32) rfl (fun h23 => ?_) (fun h23 => ?_)
  · skip
    refine Z.aload_n B dX12_joined_32 (v := .ref 45) rfl rfl ?_
    refine Z.bipush B dX12_joined_33 (v := (-6)) rfl ?_
    refine Z.callVI (σ := σ) B (M' := mX12_noLow) (as := [.int (-6)]) (st := []) (v := .int ((-6) - nI 1000)) dX12_joined_35 wX12_noLow iX12_noLow sX12_noLow kX12_203 (hl.n (k := 45) (by decide)) (hl.k (k := 45) (by decide)) (by decide) rfl rfl (t_X12_noLow_6 (σ := σ) hl) rfl rfl (by decide) (by decide) (Nat.le_of_ble_eq_true rfl) (by decide) (by decide) ?_
    refine Z.eqσ (τ := (zuX σ 46 (upd (zX σ 46) 6 (zX σ 46 6 + nI 1)))) rfl ?_
    refine Z.goto B dX12_joined_38 (tgt := 48) rfl ?_
    refine Z.iret B Rt dX12_joined_48 (ty := .int) rfl rfl (by decide) (by decide) ?_
    exact ⟨rfl, rfl⟩
  · skip
    refine Z.iload_n B dX12_joined_26 (x := x) rfl ?_
    refine Z.bipush B dX12_joined_27 (v := nI 10) rfl ?_
    refine Z.icmp_le B dX12_joined_29 (tgt := 41) rfl (fun h29 => (zo_le hx h23 h29 (by decide)).elim) (fun h29 => ?_)
    refine Z.aload_n B dX12_joined_32 (v := .ref 45) rfl rfl ?_
    refine Z.bipush B dX12_joined_33 (v := (-6)) rfl ?_
    refine Z.callVI (σ := σ) B (M' := mX12_noLow) (as := [.int (-6)]) (st := []) (v := .int ((-6) - nI 1000)) dX12_joined_35 wX12_noLow iX12_noLow sX12_noLow kX12_203 (hl.n (k := 45) (by decide)) (hl.k (k := 45) (by decide)) (by decide) rfl rfl (t_X12_noLow_6 (σ := σ) hl) rfl rfl (by decide) (by decide) (Nat.le_of_ble_eq_true rfl) (by decide) (by decide) ?_
    refine Z.eqσ (τ := (zuX σ 46 (upd (zX σ 46) 6 (zX σ 46 6 + nI 1)))) rfl ?_
    refine Z.goto B dX12_joined_38 (tgt := 48) rfl ?_
    refine Z.iret B Rt dX12_joined_48 (ty := .int) rfl rfl (by decide) (by decide) ?_
    exact ⟨rfl, rfl⟩

theorem t_M_joined_0 {σ : zSt} (hl : Lay σ) {n a y : Nat} (H : zMd σ n a y) {od : Nat → Nat} (ho : zMo σ a od) {pos : Nat → Nat} (hpo : zPo a od pos) {i kd pa : Nat} (hi : i < y) (hw : zMy σ i kd pa) {j kd2 pa2 : Nat} (hj : j < y) (hw2 : zMy σ j kd2 pa2) (hg : zX σ 45 28 = (-1)) {x : Nat} (hx : x ≤ 10) : Dt mX12_joined [.ref 45, .int (nI i), .int (nI j), .int (nI x)] σ (some (.int (tO (mt (am_ 255) (zX σ 47) (fun c => nI x * (mtf (zX σ 47) (zX σ 48) (zX σ 49) (zX σ 50) true kd pa od pos a) c + (nI 10 - nI x) * (mtf (zX σ 47) (zX σ 48) (zX σ 49) (zX σ 50) true kd2 pa2 od pos a) c)) n))) (zuX σ 64 (fi n (fun c => nI x * (mtf (zX σ 47) (zX σ 48) (zX σ 49) (zX σ 50) true kd pa od pos a) c + (nI 10 - nI x) * (mtf (zX σ 47) (zX σ 48) (zX σ 49) (zX σ 50) true kd2 pa2 od pos a) c) (zX σ 64))) := by
  obtain ⟨-, hn, hn8, ha, ha4, hy, hy8⟩ := id H
  refine Dt.of (by decide) (Nat.le_of_ble_eq_true rfl) fun κ B Rt => ?_
  show Z κ 0 0 σ 0 [(0, .ref 45), (1, .int (nI i)), (2, .int (nI j)), (3, .int (nI x))] []
  refine Z.aload_n B dX12_joined_0 (v := .ref 45) rfl rfl ?_
  refine Z.iload_n B dX12_joined_1 (x := nI i) rfl ?_
  refine Z.callVI (σ := σ) B (M' := mX12_isWay) (as := [.int (nI i)]) (st := []) (v := .int (nI 1)) dX12_joined_2 wX12_isWay iX12_isWay sX12_isWay kX12_98 (hl.n (k := 45) (by decide)) (hl.k (k := 45) (by decide)) (by decide) rfl rfl (t_X12_isWay_in (σ := σ) H hi) rfl rfl (by decide) (by decide) (Nat.le_of_ble_eq_true rfl) (by decide) (by decide) ?_
  refine Z.if_eqN B dX12_joined_5 (tgt := 16) rfl (by omega) (fun h5 => by exfalso; first | omega | contradiction | simp_all) (fun h5 => ?_)
  refine Z.aload_n B dX12_joined_8 (v := .ref 45) rfl rfl ?_
  refine Z.iload_n B dX12_joined_9 (x := nI j) rfl ?_
  refine Z.callVI (σ := σ) B (M' := mX12_isWay) (as := [.int (nI j)]) (st := []) (v := .int (nI 1)) dX12_joined_10 wX12_isWay iX12_isWay sX12_isWay kX12_98 (hl.n (k := 45) (by decide)) (hl.k (k := 45) (by decide)) (by decide) rfl rfl (t_X12_isWay_in (σ := σ) H hj) rfl rfl (by decide) (by decide) (Nat.le_of_ble_eq_true rfl) (by decide) (by decide) ?_
  refine Z.if_neN B dX12_joined_13 (tgt := 22) rfl (by omega) (fun h13 => ?_) (fun h13 => by exfalso; first | omega | contradiction | simp_all)
  refine Z.iload_n B dX12_joined_22 (x := nI x) rfl ?_
  refine Z.if_ltN B dX12_joined_23 (tgt := 32) rfl (by omega) ?_
  refine Z.iload_n B dX12_joined_26 (x := nI x) rfl ?_
  refine Z.bipush B dX12_joined_27 (v := nI 10) rfl ?_
  refine Z.icmp_leN B dX12_joined_29 (tgt := 41) rfl (by omega) (by omega) (fun h29 => ?_) (fun h29 => by exfalso; first | omega | contradiction | simp_all)
  refine Z.aload_n B dX12_joined_41 (v := .ref 45) rfl rfl ?_
  refine Z.iload_n B dX12_joined_42 (x := nI i) rfl ?_
  refine Z.iload_n B dX12_joined_43 (x := nI j) rfl ?_
  refine Z.iload_n B dX12_joined_44 (x := nI x) rfl ?_
  refine Z.callVI (σ := σ) B (M' := mX12_joins) (as := [.int (nI i), .int (nI j), .int (nI x)]) (st := []) (v := .int (tO (mt (am_ 255) (zX σ 47) (fun c => nI x * (mtf (zX σ 47) (zX σ 48) (zX σ 49) (zX σ 50) true kd pa od pos a) c + (nI 10 - nI x) * (mtf (zX σ 47) (zX σ 48) (zX σ 49) (zX σ 50) true kd2 pa2 od pos a) c)) n)) dX12_joined_45 wX12_joins iX12_joins sX12_joins kX12_213 (hl.n (k := 45) (by decide)) (hl.k (k := 45) (by decide)) (by decide) rfl rfl (t_M_joins_ (σ := σ) hl H ho hpo hw hw2 hg) rfl rfl (by decide) (by decide) (Nat.le_of_ble_eq_true rfl) (by decide) (by decide) ?_
  refine Z.eqσ (τ := (zuX σ 64 (fi n (fun c => nI x * (mtf (zX σ 47) (zX σ 48) (zX σ 49) (zX σ 50) true kd pa od pos a) c + (nI 10 - nI x) * (mtf (zX σ 47) (zX σ 48) (zX σ 49) (zX σ 50) true kd2 pa2 od pos a) c) (zX σ 64)))) rfl ?_
  refine Z.iret B Rt dX12_joined_48 (ty := .int) rfl rfl (by decide) (by decide) ?_
  exact ⟨rfl, rfl⟩

theorem t_M_weights_1 {σ : zSt} (hl : Lay σ) {n a y : Nat} (H : zMd σ n a y) {i : Int32} (hi : zOut i y) {j : Int32} : Dt mX12_weights [.ref 45, .int i, .int j] σ (some (.int (-1))) (zuX σ 46 (upd (zX σ 46) 1 (zX σ 46 1 + nI 1))) := by
  obtain ⟨-, hn, hn8, ha, ha4, hy, hy8⟩ := id H
  refine Dt.of (by decide) (Nat.le_of_ble_eq_true rfl) fun κ B Rt => ?_
  show Z κ 0 0 σ 0 [(0, .ref 45), (1, .int i), (2, .int j)] []
  refine Z.aload_n B dX12_weights_0 (v := .ref 45) rfl rfl ?_
  refine Z.iload_n B dX12_weights_1 (x := i) rfl ?_
  refine Z.callVI (σ := σ) B (M' := mX12_isWay) (as := [.int i]) (st := []) (v := .int (nI 0)) dX12_weights_2 wX12_isWay iX12_isWay sX12_isWay kX12_98 (hl.n (k := 45) (by decide)) (hl.k (k := 45) (by decide)) (by decide) rfl rfl (t_X12_isWay_out (σ := σ) H hi) rfl rfl (by decide) (by decide) (Nat.le_of_ble_eq_true rfl) (by decide) (by decide) ?_
  refine Z.if_eqN B dX12_weights_5 (tgt := 16) rfl (by omega) (fun h5 => ?_) (fun h5 => by exfalso; first | omega | contradiction | simp_all)
  refine Z.aload_n B dX12_weights_16 (v := .ref 45) rfl rfl ?_
  refine Z.iconst B dX12_weights_17 (v := (-1)) rfl ?_
  refine Z.callVI (σ := σ) B (M' := mX12_no) (as := [.int (-1)]) (st := []) (v := .int (-1)) dX12_weights_18 wX12_no iX12_no sX12_no kX12_94 (hl.n (k := 45) (by decide)) (hl.k (k := 45) (by decide)) (by decide) rfl rfl (t_X12_no_1 (σ := σ) hl) rfl rfl (by decide) (by decide) (Nat.le_of_ble_eq_true rfl) (by decide) (by decide) ?_
  refine Z.eqσ (τ := (zuX σ 46 (upd (zX σ 46) 1 (zX σ 46 1 + nI 1)))) rfl ?_
  refine Z.iret B Rt dX12_weights_21 (ty := .int) rfl rfl (by decide) (by decide) ?_
  exact ⟨rfl, rfl⟩

theorem t_M_weights_3 {σ : zSt} (hl : Lay σ) {n a y : Nat} (H : zMd σ n a y) {i kd pa : Nat} (hi : i < y) (hw : zMy σ i kd pa) {j : Int32} (hj : zOut j y) : Dt mX12_weights [.ref 45, .int (nI i), .int j] σ (some (.int (-1))) (zuX σ 46 (upd (zX σ 46) 1 (zX σ 46 1 + nI 1))) := by
  obtain ⟨-, hn, hn8, ha, ha4, hy, hy8⟩ := id H
  refine Dt.of (by decide) (Nat.le_of_ble_eq_true rfl) fun κ B Rt => ?_
  show Z κ 0 0 σ 0 [(0, .ref 45), (1, .int (nI i)), (2, .int j)] []
  refine Z.aload_n B dX12_weights_0 (v := .ref 45) rfl rfl ?_
  refine Z.iload_n B dX12_weights_1 (x := nI i) rfl ?_
  refine Z.callVI (σ := σ) B (M' := mX12_isWay) (as := [.int (nI i)]) (st := []) (v := .int (nI 1)) dX12_weights_2 wX12_isWay iX12_isWay sX12_isWay kX12_98 (hl.n (k := 45) (by decide)) (hl.k (k := 45) (by decide)) (by decide) rfl rfl (t_X12_isWay_in (σ := σ) H hi) rfl rfl (by decide) (by decide) (Nat.le_of_ble_eq_true rfl) (by decide) (by decide) ?_
  refine Z.if_eqN B dX12_weights_5 (tgt := 16) rfl (by omega) (fun h5 => by exfalso; first | omega | contradiction | simp_all) (fun h5 => ?_)
  refine Z.aload_n B dX12_weights_8 (v := .ref 45) rfl rfl ?_
  refine Z.iload_n B dX12_weights_9 (x := j) rfl ?_
  refine Z.callVI (σ := σ) B (M' := mX12_isWay) (as := [.int j]) (st := []) (v := .int (nI 0)) dX12_weights_10 wX12_isWay iX12_isWay sX12_isWay kX12_98 (hl.n (k := 45) (by decide)) (hl.k (k := 45) (by decide)) (by decide) rfl rfl (t_X12_isWay_out (σ := σ) H hj) rfl rfl (by decide) (by decide) (Nat.le_of_ble_eq_true rfl) (by decide) (by decide) ?_
  refine Z.if_neN B dX12_weights_13 (tgt := 22) rfl (by omega) (fun h13 => by exfalso; first | omega | contradiction | simp_all) (fun h13 => ?_)
  refine Z.aload_n B dX12_weights_16 (v := .ref 45) rfl rfl ?_
  refine Z.iconst B dX12_weights_17 (v := (-1)) rfl ?_
  refine Z.callVI (σ := σ) B (M' := mX12_no) (as := [.int (-1)]) (st := []) (v := .int (-1)) dX12_weights_18 wX12_no iX12_no sX12_no kX12_94 (hl.n (k := 45) (by decide)) (hl.k (k := 45) (by decide)) (by decide) rfl rfl (t_X12_no_1 (σ := σ) hl) rfl rfl (by decide) (by decide) (Nat.le_of_ble_eq_true rfl) (by decide) (by decide) ?_
  refine Z.eqσ (τ := (zuX σ 46 (upd (zX σ 46) 1 (zX σ 46 1 + nI 1)))) rfl ?_
  refine Z.iret B Rt dX12_weights_21 (ty := .int) rfl rfl (by decide) (by decide) ?_
  exact ⟨rfl, rfl⟩

theorem t_M_weights_0 {σ : zSt} (hl : Lay σ) {n a y : Nat} (H : zMd σ n a y) {od : Nat → Nat} (ho : zMo σ a od) {pos : Nat → Nat} (hpo : zPo a od pos) {i kd pa : Nat} (hi : i < y) (hw : zMy σ i kd pa) {j kd2 pa2 : Nat} (hj : j < y) (hw2 : zMy σ j kd2 pa2) (hg : zX σ 45 28 = (-1))  : Dt mX12_weights [.ref 45, .int (nI i), .int (nI j)] σ (some (.int (nI (ga (fun z => tO (mt (am_ 255) (zX σ 47) (fun c => nI z * (mtf (zX σ 47) (zX σ 48) (zX σ 49) (zX σ 50) true kd pa od pos a) c + (nI 10 - nI z) * (mtf (zX σ 47) (zX σ 48) (zX σ 49) (zX σ 50) true kd2 pa2 od pos a) c)) n) 10)))) (zuX σ 64 (fi n (fun c => nI 10 * (mtf (zX σ 47) (zX σ 48) (zX σ 49) (zX σ 50) true kd pa od pos a) c + (nI 10 - nI 10) * (mtf (zX σ 47) (zX σ 48) (zX σ 49) (zX σ 50) true kd2 pa2 od pos a) c) (zX σ 64))) := by
  obtain ⟨-, hn, hn8, ha, ha4, hy, hy8⟩ := id H
  refine Dt.of (by decide) (Nat.le_of_ble_eq_true rfl) fun κ B Rt => ?_
  show Z κ 0 0 σ 0 [(0, .ref 45), (1, .int (nI i)), (2, .int (nI j))] []
  refine Z.aload_n B dX12_weights_0 (v := .ref 45) rfl rfl ?_
  refine Z.iload_n B dX12_weights_1 (x := nI i) rfl ?_
  refine Z.callVI (σ := σ) B (M' := mX12_isWay) (as := [.int (nI i)]) (st := []) (v := .int (nI 1)) dX12_weights_2 wX12_isWay iX12_isWay sX12_isWay kX12_98 (hl.n (k := 45) (by decide)) (hl.k (k := 45) (by decide)) (by decide) rfl rfl (t_X12_isWay_in (σ := σ) H hi) rfl rfl (by decide) (by decide) (Nat.le_of_ble_eq_true rfl) (by decide) (by decide) ?_
  refine Z.if_eqN B dX12_weights_5 (tgt := 16) rfl (by omega) (fun h5 => by exfalso; first | omega | contradiction | simp_all) (fun h5 => ?_)
  refine Z.aload_n B dX12_weights_8 (v := .ref 45) rfl rfl ?_
  refine Z.iload_n B dX12_weights_9 (x := nI j) rfl ?_
  refine Z.callVI (σ := σ) B (M' := mX12_isWay) (as := [.int (nI j)]) (st := []) (v := .int (nI 1)) dX12_weights_10 wX12_isWay iX12_isWay sX12_isWay kX12_98 (hl.n (k := 45) (by decide)) (hl.k (k := 45) (by decide)) (by decide) rfl rfl (t_X12_isWay_in (σ := σ) H hj) rfl rfl (by decide) (by decide) (Nat.le_of_ble_eq_true rfl) (by decide) (by decide) ?_
  refine Z.if_neN B dX12_weights_13 (tgt := 22) rfl (by omega) (fun h13 => ?_) (fun h13 => by exfalso; first | omega | contradiction | simp_all)
  refine Z.iconst B dX12_weights_22 (v := nI 0) rfl ?_
  refine Z.istore_n B dX12_weights_23 (by decide) (L' := [(0, .ref 45), (1, .int (nI i)), (2, .int (nI j)), (3, .int (nI 0))]) rfl ?_
  refine Z.aload_n B dX12_weights_24 (v := .ref 45) rfl rfl ?_
  refine Z.iload_n B dX12_weights_25 (x := nI i) rfl ?_
  refine Z.iload_n B dX12_weights_26 (x := nI j) rfl ?_
  refine Z.iconst B dX12_weights_27 (v := nI 0) rfl ?_
  refine Z.callVI (σ := σ) B (M' := mX12_joins) (as := [.int (nI i), .int (nI j), .int (nI 0)]) (st := []) (v := .int ((fun z => tO (mt (am_ 255) (zX σ 47) (fun c => nI z * (mtf (zX σ 47) (zX σ 48) (zX σ 49) (zX σ 50) true kd pa od pos a) c + (nI 10 - nI z) * (mtf (zX σ 47) (zX σ 48) (zX σ 49) (zX σ 50) true kd2 pa2 od pos a) c)) n) 0)) dX12_weights_28 wX12_joins iX12_joins sX12_joins kX12_213 (hl.n (k := 45) (by decide)) (hl.k (k := 45) (by decide)) (by decide) rfl rfl (t_M_joins_ (σ := σ) hl H ho hpo hw hw2 hg) rfl rfl (by decide) (by decide) (Nat.le_of_ble_eq_true rfl) (by decide) (by decide) ?_
  refine Z.eqσ (τ := (zuX σ 64 (fi n (fun c => nI 0 * (mtf (zX σ 47) (zX σ 48) (zX σ 49) (zX σ 50) true kd pa od pos a) c + (nI 10 - nI 0) * (mtf (zX σ 47) (zX σ 48) (zX σ 49) (zX σ 50) true kd2 pa2 od pos a) c) (zX σ 64)))) rfl ?_
  refine Z.istore B dX12_weights_31 (by decide) (L' := [(0, .ref 45), (1, .int (nI i)), (2, .int (nI j)), (3, .int (nI 0)), (4, .int ((fun z => tO (mt (am_ 255) (zX σ 47) (fun c => nI z * (mtf (zX σ 47) (zX σ 48) (zX σ 49) (zX σ 50) true kd pa od pos a) c + (nI 10 - nI z) * (mtf (zX σ 47) (zX σ 48) (zX σ 49) (zX σ 50) true kd2 pa2 od pos a) c)) n) 0))]) rfl ?_
  refine Z.iconst B dX12_weights_33 (v := nI 1) rfl ?_
  refine Z.istore B dX12_weights_34 (by decide) (L' := [(0, .ref 45), (1, .int (nI i)), (2, .int (nI j)), (3, .int (nI 0)), (4, .int ((fun z => tO (mt (am_ 255) (zX σ 47) (fun c => nI z * (mtf (zX σ 47) (zX σ 48) (zX σ 49) (zX σ 50) true kd pa od pos a) c + (nI 10 - nI z) * (mtf (zX σ 47) (zX σ 48) (zX σ 49) (zX σ 50) true kd2 pa2 od pos a) c)) n) 0)), (5, .int (nI 1))]) rfl ?_
  have hloop36 : ∀ x : Nat, x ≤ 10 → Z κ 0 0 (zuX σ 64 (fi n (fun c => nI x * (mtf (zX σ 47) (zX σ 48) (zX σ 49) (zX σ 50) true kd pa od pos a) c + (nI 10 - nI x) * (mtf (zX σ 47) (zX σ 48) (zX σ 49) (zX σ 50) true kd2 pa2 od pos a) c) (zX σ 64))) 36 [(0, .ref 45), (1, .int (nI i)), (2, .int (nI j)), (3, .int (nI (ga (fun z => tO (mt (am_ 255) (zX σ 47) (fun c => nI z * (mtf (zX σ 47) (zX σ 48) (zX σ 49) (zX σ 50) true kd pa od pos a) c + (nI 10 - nI z) * (mtf (zX σ 47) (zX σ 48) (zX σ 49) (zX σ 50) true kd2 pa2 od pos a) c)) n) x))), (4, .int ((fun z => tO (mt (am_ 255) (zX σ 47) (fun c => nI z * (mtf (zX σ 47) (zX σ 48) (zX σ 49) (zX σ 50) true kd pa od pos a) c + (nI 10 - nI z) * (mtf (zX σ 47) (zX σ 48) (zX σ 49) (zX σ 50) true kd2 pa2 od pos a) c)) n) (ga (fun z => tO (mt (am_ 255) (zX σ 47) (fun c => nI z * (mtf (zX σ 47) (zX σ 48) (zX σ 49) (zX σ 50) true kd pa od pos a) c + (nI 10 - nI z) * (mtf (zX σ 47) (zX σ 48) (zX σ 49) (zX σ 50) true kd2 pa2 od pos a) c)) n) x))), (5, .int (nI (x + 1)))] [] := by
    refine z_loop (fun x => 10 - x) (fun x ih hx => ?_)
    refine Z.iload B dX12_weights_36 (x := nI (x + 1)) rfl ?_
    refine Z.bipush B dX12_weights_38 (v := nI 10) rfl ?_
    refine Z.icmp_gtN B dX12_weights_40 (tgt := 76) rfl (by omega) (by omega) (fun h40 => ?_) (fun h40 => ?_)
    · skip
      obtain rfl : 10 = x := by omega
      refine Z.iload_n B dX12_weights_76 (x := nI (ga (fun z => tO (mt (am_ 255) (zX σ 47) (fun c => nI z * (mtf (zX σ 47) (zX σ 48) (zX σ 49) (zX σ 50) true kd pa od pos a) c + (nI 10 - nI z) * (mtf (zX σ 47) (zX σ 48) (zX σ 49) (zX σ 50) true kd2 pa2 od pos a) c)) n) 10)) rfl ?_
      refine Z.iret B Rt dX12_weights_77 (ty := .int) rfl rfl (by decide) (by decide) ?_
      exact ⟨rfl, rfl⟩
    · skip
      refine Z.aload_n B dX12_weights_43 (v := .ref 45) rfl rfl ?_
      refine Z.iload_n B dX12_weights_44 (x := nI i) rfl ?_
      refine Z.iload_n B dX12_weights_45 (x := nI j) rfl ?_
      refine Z.iload B dX12_weights_46 (x := nI (x + 1)) rfl ?_
      refine Z.callVI (σ := (zuX σ 64 (fi n (fun c => nI x * (mtf (zX σ 47) (zX σ 48) (zX σ 49) (zX σ 50) true kd pa od pos a) c + (nI 10 - nI x) * (mtf (zX σ 47) (zX σ 48) (zX σ 49) (zX σ 50) true kd2 pa2 od pos a) c) (zX σ 64)))) B (M' := mX12_joins) (as := [.int (nI i), .int (nI j), .int (nI (x + 1))]) (st := []) (v := .int ((fun z => tO (mt (am_ 255) (zX σ 47) (fun c => nI z * (mtf (zX σ 47) (zX σ 48) (zX σ 49) (zX σ 50) true kd pa od pos a) c + (nI 10 - nI z) * (mtf (zX σ 47) (zX σ 48) (zX σ 49) (zX σ 50) true kd2 pa2 od pos a) c)) n) (x + 1))) dX12_weights_48 wX12_joins iX12_joins sX12_joins kX12_213 (hl.n (k := 45) (by decide)) (hl.k (k := 45) (by decide)) (by decide) rfl rfl (t_M_joins_ (σ := (zuX σ 64 (fi n (fun c => nI x * (mtf (zX σ 47) (zX σ 48) (zX σ 49) (zX σ 50) true kd pa od pos a) c + (nI 10 - nI x) * (mtf (zX σ 47) (zX σ 48) (zX σ 49) (zX σ 50) true kd2 pa2 od pos a) c) (zX σ 64)))) hl H ho hpo hw hw2 hg (x := x + 1)) rfl rfl (by decide) (by decide) (Nat.le_of_ble_eq_true rfl) (by decide) (by decide) ?_
      refine Z.eqσ (τ := (zuX σ 64 (fi n (fun c => nI (x + 1) * (mtf (zX σ 47) (zX σ 48) (zX σ 49) (zX σ 50) true kd pa od pos a) c + (nI 10 - nI (x + 1)) * (mtf (zX σ 47) (zX σ 48) (zX σ 49) (zX σ 50) true kd2 pa2 od pos a) c) (zX σ 64)))) (by rw [zX_self, zuX_uX, fi_fi]; rfl) ?_
      refine Z.istore B dX12_weights_51 (by decide) (L' := [(0, .ref 45), (1, .int (nI i)), (2, .int (nI j)), (3, .int (nI (ga (fun z => tO (mt (am_ 255) (zX σ 47) (fun c => nI z * (mtf (zX σ 47) (zX σ 48) (zX σ 49) (zX σ 50) true kd pa od pos a) c + (nI 10 - nI z) * (mtf (zX σ 47) (zX σ 48) (zX σ 49) (zX σ 50) true kd2 pa2 od pos a) c)) n) x))), (4, .int ((fun z => tO (mt (am_ 255) (zX σ 47) (fun c => nI z * (mtf (zX σ 47) (zX σ 48) (zX σ 49) (zX σ 50) true kd pa od pos a) c + (nI 10 - nI z) * (mtf (zX σ 47) (zX σ 48) (zX σ 49) (zX σ 50) true kd2 pa2 od pos a) c)) n) (ga (fun z => tO (mt (am_ 255) (zX σ 47) (fun c => nI z * (mtf (zX σ 47) (zX σ 48) (zX σ 49) (zX σ 50) true kd pa od pos a) c + (nI 10 - nI z) * (mtf (zX σ 47) (zX σ 48) (zX σ 49) (zX σ 50) true kd2 pa2 od pos a) c)) n) x))), (5, .int (nI (x + 1))), (6, .int ((fun z => tO (mt (am_ 255) (zX σ 47) (fun c => nI z * (mtf (zX σ 47) (zX σ 48) (zX σ 49) (zX σ 50) true kd pa od pos a) c + (nI 10 - nI z) * (mtf (zX σ 47) (zX σ 48) (zX σ 49) (zX σ 50) true kd2 pa2 od pos a) c)) n) (x + 1)))]) rfl ?_
      refine Z.iload B dX12_weights_53 (x := ((fun z => tO (mt (am_ 255) (zX σ 47) (fun c => nI z * (mtf (zX σ 47) (zX σ 48) (zX σ 49) (zX σ 50) true kd pa od pos a) c + (nI 10 - nI z) * (mtf (zX σ 47) (zX σ 48) (zX σ 49) (zX σ 50) true kd2 pa2 od pos a) c)) n) (x + 1))) rfl ?_
      refine Z.iload B dX12_weights_55 (x := (fun z => tO (mt (am_ 255) (zX σ 47) (fun c => nI z * (mtf (zX σ 47) (zX σ 48) (zX σ 49) (zX σ 50) true kd pa od pos a) c + (nI 10 - nI z) * (mtf (zX σ 47) (zX σ 48) (zX σ 49) (zX σ 50) true kd2 pa2 od pos a) c)) n) (ga (fun z => tO (mt (am_ 255) (zX σ 47) (fun c => nI z * (mtf (zX σ 47) (zX σ 48) (zX σ 49) (zX σ 50) true kd pa od pos a) c + (nI 10 - nI z) * (mtf (zX σ 47) (zX σ 48) (zX σ 49) (zX σ 50) true kd2 pa2 od pos a) c)) n) x)) rfl ?_
      refine Z.icmp_gt B dX12_weights_57 (tgt := 63) rfl (fun h57 => ?_) (fun h57 => ?_)
      · skip
        have h57 : (fun z => tO (mt (am_ 255) (zX σ 47) (fun c => nI z * (mtf (zX σ 47) (zX σ 48) (zX σ 49) (zX σ 50) true kd pa od pos a) c + (nI 10 - nI z) * (mtf (zX σ 47) (zX σ 48) (zX σ 49) (zX σ 50) true kd2 pa2 od pos a) c)) n) (ga (fun z => tO (mt (am_ 255) (zX σ 47) (fun c => nI z * (mtf (zX σ 47) (zX σ 48) (zX σ 49) (zX σ 50) true kd pa od pos a) c + (nI 10 - nI z) * (mtf (zX σ 47) (zX σ 48) (zX σ 49) (zX σ 50) true kd2 pa2 od pos a) c)) n) x) < (fun z => tO (mt (am_ 255) (zX σ 47) (fun c => nI z * (mtf (zX σ 47) (zX σ 48) (zX σ 49) (zX σ 50) true kd pa od pos a) c + (nI 10 - nI z) * (mtf (zX σ 47) (zX σ 48) (zX σ 49) (zX σ 50) true kd2 pa2 od pos a) c)) n) (x + 1) := h57
        refine Z.iload B dX12_weights_63 (x := nI (x + 1)) rfl ?_
        refine Z.istore_n B dX12_weights_65 (by decide) (L' := [(0, .ref 45), (1, .int (nI i)), (2, .int (nI j)), (3, .int (nI (x + 1))), (4, .int ((fun z => tO (mt (am_ 255) (zX σ 47) (fun c => nI z * (mtf (zX σ 47) (zX σ 48) (zX σ 49) (zX σ 50) true kd pa od pos a) c + (nI 10 - nI z) * (mtf (zX σ 47) (zX σ 48) (zX σ 49) (zX σ 50) true kd2 pa2 od pos a) c)) n) (ga (fun z => tO (mt (am_ 255) (zX σ 47) (fun c => nI z * (mtf (zX σ 47) (zX σ 48) (zX σ 49) (zX σ 50) true kd pa od pos a) c + (nI 10 - nI z) * (mtf (zX σ 47) (zX σ 48) (zX σ 49) (zX σ 50) true kd2 pa2 od pos a) c)) n) x))), (5, .int (nI (x + 1))), (6, .int ((fun z => tO (mt (am_ 255) (zX σ 47) (fun c => nI z * (mtf (zX σ 47) (zX σ 48) (zX σ 49) (zX σ 50) true kd pa od pos a) c + (nI 10 - nI z) * (mtf (zX σ 47) (zX σ 48) (zX σ 49) (zX σ 50) true kd2 pa2 od pos a) c)) n) (x + 1)))]) rfl ?_
        refine Z.iload B dX12_weights_66 (x := ((fun z => tO (mt (am_ 255) (zX σ 47) (fun c => nI z * (mtf (zX σ 47) (zX σ 48) (zX σ 49) (zX σ 50) true kd pa od pos a) c + (nI 10 - nI z) * (mtf (zX σ 47) (zX σ 48) (zX σ 49) (zX σ 50) true kd2 pa2 od pos a) c)) n) (x + 1))) rfl ?_
        refine Z.istore B dX12_weights_68 (by decide) (L' := [(0, .ref 45), (1, .int (nI i)), (2, .int (nI j)), (3, .int (nI (x + 1))), (4, .int ((fun z => tO (mt (am_ 255) (zX σ 47) (fun c => nI z * (mtf (zX σ 47) (zX σ 48) (zX σ 49) (zX σ 50) true kd pa od pos a) c + (nI 10 - nI z) * (mtf (zX σ 47) (zX σ 48) (zX σ 49) (zX σ 50) true kd2 pa2 od pos a) c)) n) (x + 1))), (5, .int (nI (x + 1))), (6, .int ((fun z => tO (mt (am_ 255) (zX σ 47) (fun c => nI z * (mtf (zX σ 47) (zX σ 48) (zX σ 49) (zX σ 50) true kd pa od pos a) c + (nI 10 - nI z) * (mtf (zX σ 47) (zX σ 48) (zX σ 49) (zX σ 50) true kd2 pa2 od pos a) c)) n) (x + 1)))]) rfl ?_
        refine Z.iincN B dX12_weights_70 (by decide) (a := x + 1) rfl (L' := [(0, .ref 45), (1, .int (nI i)), (2, .int (nI j)), (3, .int (nI (x + 1))), (4, .int ((fun z => tO (mt (am_ 255) (zX σ 47) (fun c => nI z * (mtf (zX σ 47) (zX σ 48) (zX σ 49) (zX σ 50) true kd pa od pos a) c + (nI 10 - nI z) * (mtf (zX σ 47) (zX σ 48) (zX σ 49) (zX σ 50) true kd2 pa2 od pos a) c)) n) (x + 1))), (5, .int (nI (x + 1 + 1))), (6, .int ((fun z => tO (mt (am_ 255) (zX σ 47) (fun c => nI z * (mtf (zX σ 47) (zX σ 48) (zX σ 49) (zX σ 50) true kd pa od pos a) c + (nI 10 - nI z) * (mtf (zX σ 47) (zX σ 48) (zX σ 49) (zX σ 50) true kd2 pa2 od pos a) c)) n) (x + 1)))]) rfl ?_
        refine Z.goto B dX12_weights_73 (tgt := 36) rfl ?_
        refine Z.drop 6 (L' := [(0, .ref 45), (1, .int (nI i)), (2, .int (nI j)), (3, .int (nI (x + 1))), (4, .int ((fun z => tO (mt (am_ 255) (zX σ 47) (fun c => nI z * (mtf (zX σ 47) (zX σ 48) (zX σ 49) (zX σ 50) true kd pa od pos a) c + (nI 10 - nI z) * (mtf (zX σ 47) (zX σ 48) (zX σ 49) (zX σ 50) true kd2 pa2 od pos a) c)) n) (x + 1))), (5, .int (nI (x + 1 + 1)))]) rfl ?_
        have e := ih (x + 1) (by omega) (by omega)
        simp only [ga] at e
        first | (rw [if_pos h57] at e; exact e) | (rw [if_neg h57] at e; exact e)
      · skip
        have h57 : ¬ (fun z => tO (mt (am_ 255) (zX σ 47) (fun c => nI z * (mtf (zX σ 47) (zX σ 48) (zX σ 49) (zX σ 50) true kd pa od pos a) c + (nI 10 - nI z) * (mtf (zX σ 47) (zX σ 48) (zX σ 49) (zX σ 50) true kd2 pa2 od pos a) c)) n) (ga (fun z => tO (mt (am_ 255) (zX σ 47) (fun c => nI z * (mtf (zX σ 47) (zX σ 48) (zX σ 49) (zX σ 50) true kd pa od pos a) c + (nI 10 - nI z) * (mtf (zX σ 47) (zX σ 48) (zX σ 49) (zX σ 50) true kd2 pa2 od pos a) c)) n) x) < (fun z => tO (mt (am_ 255) (zX σ 47) (fun c => nI z * (mtf (zX σ 47) (zX σ 48) (zX σ 49) (zX σ 50) true kd pa od pos a) c + (nI 10 - nI z) * (mtf (zX σ 47) (zX σ 48) (zX σ 49) (zX σ 50) true kd2 pa2 od pos a) c)) n) (x + 1) := h57
        refine Z.goto B dX12_weights_60 (tgt := 70) rfl ?_
        refine Z.iincN B dX12_weights_70 (by decide) (a := x + 1) rfl (L' := [(0, .ref 45), (1, .int (nI i)), (2, .int (nI j)), (3, .int (nI (ga (fun z => tO (mt (am_ 255) (zX σ 47) (fun c => nI z * (mtf (zX σ 47) (zX σ 48) (zX σ 49) (zX σ 50) true kd pa od pos a) c + (nI 10 - nI z) * (mtf (zX σ 47) (zX σ 48) (zX σ 49) (zX σ 50) true kd2 pa2 od pos a) c)) n) x))), (4, .int ((fun z => tO (mt (am_ 255) (zX σ 47) (fun c => nI z * (mtf (zX σ 47) (zX σ 48) (zX σ 49) (zX σ 50) true kd pa od pos a) c + (nI 10 - nI z) * (mtf (zX σ 47) (zX σ 48) (zX σ 49) (zX σ 50) true kd2 pa2 od pos a) c)) n) (ga (fun z => tO (mt (am_ 255) (zX σ 47) (fun c => nI z * (mtf (zX σ 47) (zX σ 48) (zX σ 49) (zX σ 50) true kd pa od pos a) c + (nI 10 - nI z) * (mtf (zX σ 47) (zX σ 48) (zX σ 49) (zX σ 50) true kd2 pa2 od pos a) c)) n) x))), (5, .int (nI (x + 1 + 1))), (6, .int ((fun z => tO (mt (am_ 255) (zX σ 47) (fun c => nI z * (mtf (zX σ 47) (zX σ 48) (zX σ 49) (zX σ 50) true kd pa od pos a) c + (nI 10 - nI z) * (mtf (zX σ 47) (zX σ 48) (zX σ 49) (zX σ 50) true kd2 pa2 od pos a) c)) n) (x + 1)))]) rfl ?_
        refine Z.goto B dX12_weights_73 (tgt := 36) rfl ?_
        refine Z.drop 6 (L' := [(0, .ref 45), (1, .int (nI i)), (2, .int (nI j)), (3, .int (nI (ga (fun z => tO (mt (am_ 255) (zX σ 47) (fun c => nI z * (mtf (zX σ 47) (zX σ 48) (zX σ 49) (zX σ 50) true kd pa od pos a) c + (nI 10 - nI z) * (mtf (zX σ 47) (zX σ 48) (zX σ 49) (zX σ 50) true kd2 pa2 od pos a) c)) n) x))), (4, .int ((fun z => tO (mt (am_ 255) (zX σ 47) (fun c => nI z * (mtf (zX σ 47) (zX σ 48) (zX σ 49) (zX σ 50) true kd pa od pos a) c + (nI 10 - nI z) * (mtf (zX σ 47) (zX σ 48) (zX σ 49) (zX σ 50) true kd2 pa2 od pos a) c)) n) (ga (fun z => tO (mt (am_ 255) (zX σ 47) (fun c => nI z * (mtf (zX σ 47) (zX σ 48) (zX σ 49) (zX σ 50) true kd pa od pos a) c + (nI 10 - nI z) * (mtf (zX σ 47) (zX σ 48) (zX σ 49) (zX σ 50) true kd2 pa2 od pos a) c)) n) x))), (5, .int (nI (x + 1 + 1)))]) rfl ?_
        have e := ih (x + 1) (by omega) (by omega)
        simp only [ga] at e
        first | (rw [if_pos h57] at e; exact e) | (rw [if_neg h57] at e; exact e)
  exact hloop36 0 (by decide)

theorem t_M_heads_1 {σ : zSt} (hl : Lay σ) {n a y : Nat} (H : zMd σ n a y) {b : Int32} (hb : zOut b a)  : Dt mX12_heads [.ref 45, .int b] σ (some (.int (-1))) (zuX σ 46 (upd (zX σ 46) 1 (zX σ 46 1 + nI 1))) := by
  obtain ⟨-, hn, hn8, ha, ha4, hy, hy8⟩ := id H
  refine Dt.of (by decide) (Nat.le_of_ble_eq_true rfl) fun κ B Rt => ?_
  show Z κ 0 0 σ 0 [(0, .ref 45), (1, .int b)] []
  refine Z.aload_n B dX12_heads_0 (v := .ref 45) rfl rfl ?_
  refine Z.iload_n B dX12_heads_1 (x := b) rfl ?_
  refine Z.callVI (σ := σ) B (M' := mX12_isAsker) (as := [.int b]) (st := []) (v := .int (nI 0)) dX12_heads_2 wX12_isAsker iX12_isAsker sX12_isAsker kX12_129 (hl.n (k := 45) (by decide)) (hl.k (k := 45) (by decide)) (by decide) rfl rfl (t_X12_isAsker_out (σ := σ) H hb) rfl rfl (by decide) (by decide) (Nat.le_of_ble_eq_true rfl) (by decide) (by decide) ?_
  refine Z.if_neN B dX12_heads_5 (tgt := 14) rfl (by omega) (fun h5 => by exfalso; first | omega | contradiction | simp_all) (fun h5 => ?_)
  refine Z.aload_n B dX12_heads_8 (v := .ref 45) rfl rfl ?_
  refine Z.iconst B dX12_heads_9 (v := (-1)) rfl ?_
  refine Z.callVI (σ := σ) B (M' := mX12_no) (as := [.int (-1)]) (st := []) (v := .int (-1)) dX12_heads_10 wX12_no iX12_no sX12_no kX12_94 (hl.n (k := 45) (by decide)) (hl.k (k := 45) (by decide)) (by decide) rfl rfl (t_X12_no_1 (σ := σ) hl) rfl rfl (by decide) (by decide) (Nat.le_of_ble_eq_true rfl) (by decide) (by decide) ?_
  refine Z.eqσ (τ := (zuX σ 46 (upd (zX σ 46) 1 (zX σ 46 1 + nI 1)))) rfl ?_
  refine Z.iret B Rt dX12_heads_13 (ty := .int) rfl rfl (by decide) (by decide) ?_
  exact ⟨rfl, rfl⟩
