/-! restore: the class and the model -/
def zOb (x : Int32) (n : Nat) : Bool := decide (x < 0) || decide (nI n ≤ x)
theorem zOb_t {x : Int32} {n : Nat} : zOb x n = true ↔ zOut x n := by
  unfold zOb zOut
  rw [Bool.or_eq_true, decide_eq_true_iff, decide_eq_true_iff]
theorem zOb_in {n j : Nat} (h : j < n) (hn : n < 2 ^ 31) : zOb (nI j) n = false := by
  cases hb : zOb (nI j) n with
  | false => rfl
  | true =>
    rcases zOb_t.mp hb with h1 | h1
    · exact absurd h1 (nI_pos (by omega))
    · exact absurd ((nI_leI hn (by omega)).mp h1) (by omega)
/-- the shelves whose way isn't there any more are emptied, the first of them -/
def rsS (y : Nat) (σ : zSt) : Nat → zSt
  | 0 => σ
  | s + 1 => if ¬ zX σ (2 + 2 * s) 3 = (-1) ∧ zOb (zX σ (2 + 2 * s) 3) y = true then zuX (rsS y σ s) (2 + 2 * s) (upd (upd (upd (zX σ (2 + 2 * s)) 3 (-1)) 1 (-1)) 2 (nI 0)) else rsS y σ s
theorem rsS_same {y : Nat} {σ : zSt} : ∀ s, zN (rsS y σ s) = zN σ ∧ zK (rsS y σ s) = zK σ ∧ zL (rsS y σ s) = zL σ ∧ zY (rsS y σ s) = zY σ ∧ zR (rsS y σ s) = zR σ
  | 0 => ⟨rfl, rfl, rfl, rfl, rfl⟩
  | s + 1 => by
    have h := rsS_same (y := y) (σ := σ) s
    simp only [rsS]
    split
    · exact h
    · exact h
theorem rsS_o {y : Nat} {σ : zSt} {k : Nat} : ∀ s, (∀ t, t < s → k ≠ 2 + 2 * t) → zX (rsS y σ s) k = zX σ k
  | 0, _ => rfl
  | s + 1, h => by
    have h1 := rsS_o (y := y) (σ := σ) s (fun t ht => h t (by omega))
    simp only [rsS]
    split
    · exact (zfu_ne (h s (by omega))).trans h1
    · exact h1
theorem Lay.rsS {y : Nat} {σ : zSt} {s : Nat} (h : Lay σ) : Lay (rsS y σ s) := by
  obtain ⟨h1, h2, h3, h4, h5⟩ := rsS_same (y := y) (σ := σ) s
  unfold Lay
  rw [h1, h2, h3, h5]
  exact h
theorem rsS_at {y : Nat} {σ : zSt} {t : Nat} : ∀ s, t < s → zX (rsS y σ s) (2 + 2 * t) = if ¬ zX σ (2 + 2 * t) 3 = (-1) ∧ zOb (zX σ (2 + 2 * t) 3) y = true then upd (upd (upd (zX σ (2 + 2 * t)) 3 (-1)) 1 (-1)) 2 (nI 0) else zX σ (2 + 2 * t)
  | 0, h => by omega
  | s + 1, h => by
    rcases (by omega : t < s ∨ t = s) with h1 | rfl
    · have h2 := rsS_at (y := y) (σ := σ) s h1
      rw [← h2]
      show zX (if ¬ zX σ (2 + 2 * s) 3 = (-1) ∧ zOb (zX σ (2 + 2 * s) 3) y = true then _ else _) (2 + 2 * t) = _
      split
      · exact zfu_ne (by omega)
      · rfl
    · have h2 := rsS_o (y := y) (σ := σ) (k := 2 + 2 * t) t (fun u hu => by omega)
      show zX (if ¬ zX σ (2 + 2 * t) 3 = (-1) ∧ zOb (zX σ (2 + 2 * t) 3) y = true then _ else _) (2 + 2 * t) = _
      split
      · exact zX_self
      · exact h2
def rsM (y s : Nat) (f g : Nat → Int32) : Nat → Int32 := fun t => if t < s ∧ f t = nI 2 ∧ nI y ≤ g t then nI 0 else f t
theorem rsM_0 {y : Nat} {f g : Nat → Int32} : rsM y 0 f g = f := by funext t; simp [rsM]
theorem rsM_t {y s : Nat} {f g : Nat → Int32} (h : f s = nI 2) (h2 : nI y ≤ g s) : upd (rsM y s f g) s (nI 0) = rsM y (s + 1) f g := by
  funext t
  simp only [upd, rsM]
  by_cases h1 : t = s
  · subst h1; rw [if_pos rfl, if_pos ⟨by omega, h, h2⟩]
  · rw [if_neg h1]
    by_cases h3 : t < s ∧ f t = nI 2 ∧ nI y ≤ g t
    · rw [if_pos h3, if_pos ⟨by omega, h3.2⟩]
    · rw [if_neg h3, if_neg (fun h4 => h3 ⟨by omega, h4.2⟩)]
theorem rsM_f {y s : Nat} {f g : Nat → Int32} (h : ¬ (f s = nI 2 ∧ nI y ≤ g s)) : rsM y s f g = rsM y (s + 1) f g := by
  funext t
  simp only [rsM]
  by_cases h3 : t < s ∧ f t = nI 2 ∧ nI y ≤ g t
  · rw [if_pos h3, if_pos ⟨by omega, h3.2⟩]
  · rw [if_neg h3]
    by_cases h4 : t = s
    · subst h4; rw [if_neg (fun h5 => h h5.2)]
    · rw [if_neg (fun h5 => h3 ⟨by omega, h5.2⟩)]
theorem rsM_at {y s : Nat} {f g : Nat → Int32} : rsM y s f g s = f s := by simp only [rsM]; rw [if_neg (by omega)]

theorem t_K_restore_6 {σ : zSt} (hl : Lay σ) (hi : zX σ 0 7 = nI 0) : Dt mX11_restore [.ref 0] σ (some (.int (-nI 6))) (zuX σ 43 (upd (zX σ 43) 6 (zX σ 43 6 + nI 1))) := by
  refine Dt.of (by decide) (Nat.le_of_ble_eq_true rfl) fun κ B Rt => ?_
  show Z κ 0 0 σ 0 [(0, .ref 0)] []
  refine Z.aload_n B dX11_restore_0 (v := .ref 0) rfl rfl ?_
  refine Z.getI (σ := σ) B fX11_51_11 dX11_restore_1 (hl.n (k := 0) (by decide)) (hl.k (k := 0) (by decide)) (by decide) (v := nI 0) hi ?_
  refine Z.if_neN B dX11_restore_4 (tgt := 14) rfl (by omega) (fun h4 => by exfalso; first | omega | contradiction | simp_all) (fun h4 => ?_)
  refine Z.aload_n B dX11_restore_7 (v := .ref 0) rfl rfl ?_
  refine Z.bipush B dX11_restore_8 (v := nI 6) rfl ?_
  refine Z.callVI (σ := σ) B (M' := mX11_refuse) (as := [.int (nI 6)]) (st := []) (v := .int (-nI 6)) dX11_restore_10 wX11_refuse iX11_refuse sX11_refuse kX11_63 (hl.n (k := 0) (by decide)) (hl.k (k := 0) (by decide)) (by decide) rfl rfl (t_X11_refuse (σ := σ) hl (b := 6) (by decide)) rfl rfl (by decide) (by decide) (Nat.le_of_ble_eq_true rfl) (by decide) (by decide) ?_
  refine Z.eqσ (τ := (zuX σ 43 (upd (zX σ 43) 6 (zX σ 43 6 + nI 1)))) rfl ?_
  refine Z.iret B Rt dX11_restore_13 (ty := .int) rfl rfl (by decide) (by decide) ?_
  exact ⟨rfl, rfl⟩

theorem t_K_restore_0 {σ : zSt} (hl : Lay σ) {n a y : Nat} (hi : zX σ 0 7 = nI 1) (hn : zX σ 27 2 = nI n) (hn8 : n ≤ 8) (ha : zX σ 27 5 = nI a) (ha4 : a ≤ 4) (hy : zX σ 27 7 = nI y) (hy8 : y ≤ 8) (hwy : ∀ i, i < y → ∃ q, zR σ 31 i = some q) (hsh : ∀ s, s < 8 → zX σ (2 + 2 * s) 3 = (-1) ∨ ∃ j, j < 8 ∧ zX σ (2 + 2 * s) 3 = nI j) (k1 : ∀ k, 48 ≤ k → zX σ 21 k = zX σ 28 k) (k2 : ∀ k, 12 ≤ k → zX σ 22 k = zX σ 29 k) (k3 : ∀ k, 4 ≤ k → zX σ 23 k = zX σ 30 k) (k4 : ∀ k, 8 ≤ k → zR σ 24 k = zR σ 31 k) (hW : ∀ k, k < 8 → ∀ q, zR σ 31 k = some q → 66 ≤ q ∧ q < zN σ ∧ zIsW (zK σ q)) : Dt mX11_restore [.ref 0] σ (some (.int (nI y))) (rsS y (zuX (zuR (zuX (zuX (zuX σ 21 (zX σ 28)) 22 (zX σ 29)) 23 (zX σ 30)) 24 (zR σ 31)) 20 (upd (upd (upd (upd (zX σ 20) 2 (zX σ 27 2)) 5 (zX σ 27 5)) 7 (zX σ 27 7)) 8 (zX σ 27 8))) 8) := by
  refine Dt.of (by decide) (Nat.le_of_ble_eq_true rfl) fun κ B Rt => ?_
  show Z κ 0 0 σ 0 [(0, .ref 0)] []
  refine Z.aload_n B dX11_restore_0 (v := .ref 0) rfl rfl ?_
  refine Z.getI (σ := σ) B fX11_51_11 dX11_restore_1 (hl.n (k := 0) (by decide)) (hl.k (k := 0) (by decide)) (by decide) (v := nI 1) hi ?_
  refine Z.if_neN B dX11_restore_4 (tgt := 14) rfl (by omega) (fun h4 => ?_) (fun h4 => by exfalso; first | omega | contradiction | simp_all)
  refine Z.aload_n B dX11_restore_14 (v := .ref 0) rfl rfl ?_
  refine Z.getR (σ := σ) B fX11_28_11 dX11_restore_15 (hl.n (k := 0) (by decide)) (hl.k (k := 0) (by decide)) (by decide) (j := 20) (hl.r (k := 0) (f := 2) (by decide) (by decide)) ?_
  refine Z.aload_n B dX11_restore_18 (v := .ref 0) rfl rfl ?_
  refine Z.getR (σ := σ) B fX11_32_11 dX11_restore_19 (hl.n (k := 0) (by decide)) (hl.k (k := 0) (by decide)) (by decide) (j := 27) (hl.r (k := 0) (f := 3) (by decide) (by decide)) ?_
  refine Z.callVN (σ := σ) B (M' := mX1_takeOver) (as := [.ref 27]) (st := []) dX11_restore_22 wX1_takeOver iX1_takeOver sX1_takeOver kX11_196 (hl.n (k := 20) (by decide)) (hl.k (k := 20) (by decide)) (by decide) rfl rfl (t_X1_takeOver_20_27 (σ := σ) hl k1 k2 k3 k4 hW) rfl rfl (by decide) (by decide) (Nat.le_of_ble_eq_true rfl) (by decide) (by decide) ?_
  refine Z.eqσ (τ := (zuX (zuR (zuX (zuX (zuX σ 21 (zX σ 28)) 22 (zX σ 29)) 23 (zX σ 30)) 24 (zR σ 31)) 20 (upd (upd (upd (upd (zX σ 20) 2 (zX σ 27 2)) 5 (zX σ 27 5)) 7 (zX σ 27 7)) 8 (zX σ 27 8)))) rfl ?_
  have hl1 : Lay (zuX (zuR (zuX (zuX (zuX σ 21 (zX σ 28)) 22 (zX σ 29)) 23 (zX σ 30)) 24 (zR σ 31)) 20 (upd (upd (upd (upd (zX σ 20) 2 (zX σ 27 2)) 5 (zX σ 27 5)) 7 (zX σ 27 7)) 8 (zX σ 27 8))) := Lay.uR (σ := (zuX (zuX (zuX σ 21 (zX σ 28)) 22 (zX σ 29)) 23 (zX σ 30))) (k := 24) (f := zR σ 31) hl (fun _ => rfl)
  have hs1 : ∀ s, s < 8 → zX (zuX (zuR (zuX (zuX (zuX σ 21 (zX σ 28)) 22 (zX σ 29)) 23 (zX σ 30)) 24 (zR σ 31)) 20 (upd (upd (upd (upd (zX σ 20) 2 (zX σ 27 2)) 5 (zX σ 27 5)) 7 (zX σ 27 7)) 8 (zX σ 27 8))) (2 + 2 * s) 3 = (-1) ∨ ∃ j, j < 8 ∧ zX (zuX (zuR (zuX (zuX (zuX σ 21 (zX σ 28)) 22 (zX σ 29)) 23 (zX σ 30)) 24 (zR σ 31)) 20 (upd (upd (upd (upd (zX σ 20) 2 (zX σ 27 2)) 5 (zX σ 27 5)) 7 (zX σ 27 7)) 8 (zX σ 27 8))) (2 + 2 * s) 3 = nI j := fun s hs => by
    have e : zX (zuX (zuR (zuX (zuX (zuX σ 21 (zX σ 28)) 22 (zX σ 29)) 23 (zX σ 30)) 24 (zR σ 31)) 20 (upd (upd (upd (upd (zX σ 20) 2 (zX σ 27 2)) 5 (zX σ 27 5)) 7 (zX σ 27 7)) 8 (zX σ 27 8))) (2 + 2 * s) = zX σ (2 + 2 * s) := (zfu_ne (by omega)).trans ((zfu_ne (by omega)).trans ((zfu_ne (by omega)).trans (zfu_ne (by omega))))
    rw [e]; exact hsh s hs
  have H1 : zHd (zuX (zuR (zuX (zuX (zuX σ 21 (zX σ 28)) 22 (zX σ 29)) 23 (zX σ 30)) 24 (zR σ 31)) 20 (upd (upd (upd (upd (zX σ 20) 2 (zX σ 27 2)) 5 (zX σ 27 5)) 7 (zX σ 27 7)) 8 (zX σ 27 8))) n a y := ⟨hl1, hn, hn8, ha, ha4, hy, hy8⟩
  have hw1 : ∀ i, i < y → ∃ q, zR (zuX (zuR (zuX (zuX (zuX σ 21 (zX σ 28)) 22 (zX σ 29)) 23 (zX σ 30)) 24 (zR σ 31)) 20 (upd (upd (upd (upd (zX σ 20) 2 (zX σ 27 2)) 5 (zX σ 27 5)) 7 (zX σ 27 7)) 8 (zX σ 27 8))) 24 i = some q := hwy
  generalize hσ1 : (zuX (zuR (zuX (zuX (zuX σ 21 (zX σ 28)) 22 (zX σ 29)) 23 (zX σ 30)) 24 (zR σ 31)) 20 (upd (upd (upd (upd (zX σ 20) 2 (zX σ 27 2)) 5 (zX σ 27 5)) 7 (zX σ 27 7)) 8 (zX σ 27 8))) = σ1 at hl1 hs1 H1 hw1 ⊢
  refine Z.iconst B dX11_restore_25 (v := nI 0) rfl ?_
  refine Z.istore_n B dX11_restore_26 (by decide) (L' := [(0, .ref 0), (1, .int (nI 0))]) rfl ?_
  have hloop27 : ∀ z : Nat, z ≤ 8 → Z κ 0 0 (rsS y σ1 z) 27 [(0, .ref 0), (1, .int (nI z))] [] := by
    refine z_loop (fun z => 8 - z) (fun z ih hz => ?_)
    have hlz : Lay (rsS y σ1 z) := hl1.rsS
    have hxz : zX (rsS y σ1 z) (2 + 2 * z) = zX σ1 (2 + 2 * z) := rsS_o z (fun t ht => by omega)
    refine Z.iload_n B dX11_restore_27 (x := nI z) rfl ?_
    refine Z.aload_n B dX11_restore_28 (v := .ref 0) rfl rfl ?_
    refine Z.getR (σ := (rsS y σ1 z)) B fX11_11_11 dX11_restore_29 (hlz.n (k := 0) (by decide)) (hlz.k (k := 0) (by decide)) (by decide) (j := 1) (hlz.r (k := 0) (f := 0) (by decide) (by decide)) ?_
    refine Z.alen (σ := (rsS y σ1 z)) B dX11_restore_32 (hlz.n (k := 1) (by decide)) (t := 2) (hlz.k (k := 1) (by decide)) (by decide) (n := 8) (hlz.l (k := 1) (by decide)) (v := nI 8) rfl ?_
    refine Z.icmp_geN B dX11_restore_33 (tgt := 78) rfl (by omega) (by omega) (fun h33 => ?_) (fun h33 => ?_)
    · skip
      obtain rfl : 8 = z := by omega
      have hl8 : Lay (rsS y σ1 8) := hl1.rsS
      have hx20 : zX (rsS y σ1 8) 20 = zX σ1 20 := rsS_o 8 (fun t ht => by omega)
      have H8 : zHd (rsS y σ1 8) n a y := ⟨hl8, by rw [hx20]; exact H1.2.1, hn8, by rw [hx20]; exact H1.2.2.2.1, ha4, by rw [hx20]; exact H1.2.2.2.2.2.1, hy8⟩
      refine Z.aload_n B dX11_restore_78 (v := .ref 0) rfl rfl ?_
      refine Z.getR (σ := (rsS y σ1 8)) B fX11_28_11 dX11_restore_79 (hl8.n (k := 0) (by decide)) (hl8.k (k := 0) (by decide)) (by decide) (j := 20) (hl8.r (k := 0) (f := 2) (by decide) (by decide)) ?_
      refine Z.callVI (σ := (rsS y σ1 8)) B (M' := mX1_wayCount) (as := []) (st := []) (v := .int (nI y)) dX11_restore_82 wX1_wayCount iX1_wayCount sX1_wayCount kX11_295 (hl8.n (k := 20) (by decide)) (hl8.k (k := 20) (by decide)) (by decide) rfl rfl (t_X1_wayCount (σ := (rsS y σ1 8)) H8) rfl rfl (by decide) (by decide) (Nat.le_of_ble_eq_true rfl) (by decide) (by decide) ?_
      refine Z.iret B Rt dX11_restore_85 (ty := .int) rfl rfl (by decide) (by decide) ?_
      exact ⟨rfl, by rw [← hσ1]⟩
    · skip
      have hqz := (hlz.shelf (s := z) (by omega)).2
      have hx20 : zX (rsS y σ1 z) 20 = zX σ1 20 := rsS_o z (fun t ht => by omega)
      have hr24 := (rsS_same (y := y) (σ := σ1) z).2.2.2.2
      have Hz : zHd (rsS y σ1 z) n a y := ⟨hlz, by rw [hx20]; exact H1.2.1, hn8, by rw [hx20]; exact H1.2.2.2.1, ha4, by rw [hx20]; exact H1.2.2.2.2.2.1, hy8⟩
      refine Z.aload_n B dX11_restore_36 (v := .ref 0) rfl rfl ?_
      refine Z.iload_n B dX11_restore_37 (x := nI z) rfl ?_
      refine Z.callVI (σ := (rsS y σ1 z)) B (M' := mX11_shelfAt) (as := [.int (nI z)]) (st := []) (v := .ref (2 + 2 * z)) dX11_restore_38 wX11_shelfAt iX11_shelfAt sX11_shelfAt kX11_59 (hlz.n (k := 0) (by decide)) (hlz.k (k := 0) (by decide)) (by decide) rfl rfl (t_X11_shelfAt_in (σ := (rsS y σ1 z)) hlz (s := z) (by omega)) rfl rfl (by decide) (by decide) (Nat.le_of_ble_eq_true rfl) (by decide) (by decide) ?_
      refine Z.astore_n B dX11_restore_41 (by decide) rfl (L' := [(0, .ref 0), (1, .int (nI z)), (2, .ref (2 + 2 * z))]) rfl ?_
      refine Z.aload_n B dX11_restore_42 (v := .ref (2 + 2 * z)) rfl rfl ?_
      refine Z.ifnull_r B dX11_restore_43 ?_
      refine Z.aload_n B dX11_restore_46 (v := .ref (2 + 2 * z)) rfl rfl ?_
      rcases hs1 z (by omega) with hv | ⟨j, hj8, hv⟩
      · skip
        refine Z.callVI (σ := (rsS y σ1 z)) B (M' := mX6_holdsWay) (as := []) (st := []) (v := .int (nI 0)) dX11_restore_47 wX6_holdsWay iX6_holdsWay sX6_holdsWay kX11_87 (Nat.lt_of_succ_lt hqz.1) hqz.2.1 (by decide) rfl rfl (t_X6_holdsWay_0 (σ := (rsS y σ1 z)) hqz (by rw [hxz]; exact hv)) rfl rfl (by decide) (by decide) (Nat.le_of_ble_eq_true rfl) (by decide) (by decide) ?_
        refine Z.if_eqN B dX11_restore_50 (tgt := 72) rfl (by omega) (fun h50 => ?_) (fun h50 => by exfalso; first | omega | contradiction | simp_all)
        refine Z.iincN B dX11_restore_72 (by decide) (a := z) rfl (L' := [(0, .ref 0), (1, .int (nI (z + 1))), (2, .ref (2 + 2 * z))]) rfl ?_
        refine Z.goto B dX11_restore_75 (tgt := 27) rfl ?_
        refine Z.drop 2 (L' := [(0, .ref 0), (1, .int (nI (z + 1)))]) rfl ?_
        have e := ih (z + 1) (by omega) (by omega)
        simp only [rsS] at e
        first | (have hc : ¬ (¬ zX σ1 (2 + 2 * z) 3 = (-1) ∧ zOb (zX σ1 (2 + 2 * z) 3) y = true) := fun h => h.1 hv; rw [if_neg hc] at e; exact e) | (have hc : ¬ (¬ zX σ1 (2 + 2 * z) 3 = (-1) ∧ zOb (zX σ1 (2 + 2 * z) 3) y = true) := (fun h => by (have h2 := h.2; rw [hv, zOb_in hjy (by omega)] at h2; cases h2)); rw [if_neg hc] at e; exact e) | (have hc : (¬ zX σ1 (2 + 2 * z) 3 = (-1) ∧ zOb (zX σ1 (2 + 2 * z) 3) y = true) := ⟨by rw [hv]; exact zm1 (by omega), by rw [hv]; exact zOb_t.mpr (Or.inr (nI_le hjy (by omega)))⟩; rw [if_pos hc] at e; exact e)
      · skip
        refine Z.callVI (σ := (rsS y σ1 z)) B (M' := mX6_holdsWay) (as := []) (st := []) (v := .int (nI 1)) dX11_restore_47 wX6_holdsWay iX6_holdsWay sX6_holdsWay kX11_87 (Nat.lt_of_succ_lt hqz.1) hqz.2.1 (by decide) rfl rfl (t_X6_holdsWay_1 (σ := (rsS y σ1 z)) hqz (o := j) (by omega) (by rw [hxz]; exact hv)) rfl rfl (by decide) (by decide) (Nat.le_of_ble_eq_true rfl) (by decide) (by decide) ?_
        refine Z.if_eqN B dX11_restore_50 (tgt := 72) rfl (by omega) (fun h50 => by exfalso; first | omega | contradiction | simp_all) (fun h50 => ?_)
        refine Z.aload_n B dX11_restore_53 (v := .ref 0) rfl rfl ?_
        refine Z.getR (σ := (rsS y σ1 z)) B fX11_28_11 dX11_restore_54 (hlz.n (k := 0) (by decide)) (hlz.k (k := 0) (by decide)) (by decide) (j := 20) (hlz.r (k := 0) (f := 2) (by decide) (by decide)) ?_
        refine Z.aload_n B dX11_restore_57 (v := .ref (2 + 2 * z)) rfl rfl ?_
        refine Z.callVI (σ := (rsS y σ1 z)) B (M' := mX6_wayHeld) (as := []) (st := [.ref 20]) (v := .int (zX (rsS y σ1 z) (2 + 2 * z) 3)) dX11_restore_58 wX6_wayHeld iX6_wayHeld sX6_wayHeld kX11_114 (Nat.lt_of_succ_lt hqz.1) hqz.2.1 (by decide) rfl rfl (t_X6_wayHeld (σ := (rsS y σ1 z)) hqz) rfl rfl (by decide) (by decide) (Nat.le_of_ble_eq_true rfl) (by decide) (by decide) ?_
        rcases Nat.lt_or_ge j y with hjy | hjy
        · skip
          rw [hxz, hv]
          obtain ⟨qj, hqj⟩ := hw1 j hjy
          refine Z.callVI (σ := (rsS y σ1 z)) B (M' := mX1_wayAt) (as := [.int (nI j)]) (st := []) (v := .ref qj) dX11_restore_61 wX1_wayAt iX1_wayAt sX1_wayAt kX11_102 (hlz.n (k := 20) (by decide)) (hlz.k (k := 20) (by decide)) (by decide) rfl rfl (t_X1_wayAt_in (σ := (rsS y σ1 z)) Hz hjy (q := qj) (by rw [hr24]; exact hqj)) rfl rfl (by decide) (by decide) (Nat.le_of_ble_eq_true rfl) (by decide) (by decide) ?_
          refine Z.ifnonnull_r B dX11_restore_64 (tgt := 72) rfl ?_
          refine Z.iincN B dX11_restore_72 (by decide) (a := z) rfl (L' := [(0, .ref 0), (1, .int (nI (z + 1))), (2, .ref (2 + 2 * z))]) rfl ?_
          refine Z.goto B dX11_restore_75 (tgt := 27) rfl ?_
          refine Z.drop 2 (L' := [(0, .ref 0), (1, .int (nI (z + 1)))]) rfl ?_
          have e := ih (z + 1) (by omega) (by omega)
          simp only [rsS] at e
          first | (have hc : ¬ (¬ zX σ1 (2 + 2 * z) 3 = (-1) ∧ zOb (zX σ1 (2 + 2 * z) 3) y = true) := fun h => h.1 hv; rw [if_neg hc] at e; exact e) | (have hc : ¬ (¬ zX σ1 (2 + 2 * z) 3 = (-1) ∧ zOb (zX σ1 (2 + 2 * z) 3) y = true) := (fun h => by (have h2 := h.2; rw [hv, zOb_in hjy (by omega)] at h2; cases h2)); rw [if_neg hc] at e; exact e) | (have hc : (¬ zX σ1 (2 + 2 * z) 3 = (-1) ∧ zOb (zX σ1 (2 + 2 * z) 3) y = true) := ⟨by rw [hv]; exact zm1 (by omega), by rw [hv]; exact zOb_t.mpr (Or.inr (nI_le hjy (by omega)))⟩; rw [if_pos hc] at e; exact e)
        · skip
          rw [hxz, hv]
          refine Z.callVI (σ := (rsS y σ1 z)) B (M' := mX1_wayAt) (as := [.int (nI j)]) (st := []) (v := .null) dX11_restore_61 wX1_wayAt iX1_wayAt sX1_wayAt kX11_102 (hlz.n (k := 20) (by decide)) (hlz.k (k := 20) (by decide)) (by decide) rfl rfl (t_X1_wayAt_out (σ := (rsS y σ1 z)) Hz (Or.inr (nI_le hjy (by omega)))) rfl rfl (by decide) (by decide) (Nat.le_of_ble_eq_true rfl) (by decide) (by decide) ?_
          refine Z.ifnonnull_n B dX11_restore_64 ?_
          refine Z.aload_n B dX11_restore_67 (v := .ref (2 + 2 * z)) rfl rfl ?_
          refine Z.iconst B dX11_restore_68 (v := (-1)) rfl ?_
          refine Z.callVN (σ := (rsS y σ1 z)) B (M' := mX6_holdWay) (as := [.int (-1)]) (st := []) dX11_restore_69 wX6_holdWay iX6_holdWay sX6_holdWay kX11_106 (Nat.lt_of_succ_lt hqz.1) hqz.2.1 (by decide) rfl rfl (t_X6_holdWay (σ := (rsS y σ1 z)) hqz) rfl rfl (by decide) (by decide) (Nat.le_of_ble_eq_true rfl) (by decide) (by decide) ?_
          refine Z.eqσ (τ := (zuX (rsS y σ1 z) (2 + 2 * z) (upd (upd (upd (zX σ1 (2 + 2 * z)) 3 (-1)) 1 (-1)) 2 (nI 0)))) (by rw [hxz]) ?_
          refine Z.iincN B dX11_restore_72 (by decide) (a := z) rfl (L' := [(0, .ref 0), (1, .int (nI (z + 1))), (2, .ref (2 + 2 * z))]) rfl ?_
          refine Z.goto B dX11_restore_75 (tgt := 27) rfl ?_
          refine Z.drop 2 (L' := [(0, .ref 0), (1, .int (nI (z + 1)))]) rfl ?_
          have e := ih (z + 1) (by omega) (by omega)
          simp only [rsS] at e
          first | (have hc : ¬ (¬ zX σ1 (2 + 2 * z) 3 = (-1) ∧ zOb (zX σ1 (2 + 2 * z) 3) y = true) := fun h => h.1 hv; rw [if_neg hc] at e; exact e) | (have hc : ¬ (¬ zX σ1 (2 + 2 * z) 3 = (-1) ∧ zOb (zX σ1 (2 + 2 * z) 3) y = true) := (fun h => by (have h2 := h.2; rw [hv, zOb_in hjy (by omega)] at h2; cases h2)); rw [if_neg hc] at e; exact e) | (have hc : (¬ zX σ1 (2 + 2 * z) 3 = (-1) ∧ zOb (zX σ1 (2 + 2 * z) 3) y = true) := ⟨by rw [hv]; exact zm1 (by omega), by rw [hv]; exact zOb_t.mpr (Or.inr (nI_le hjy (by omega)))⟩; rw [if_pos hc] at e; exact e)
  exact hloop27 0 (Nat.zero_le _)

theorem t_M_restore_6 {σ : zSt} (hl : Lay σ) (hi : zX σ 45 32 = nI 0) : Dt mX12_restore [.ref 45] σ (some (.int (-6))) (zuX σ 46 (upd (zX σ 46) 6 (zX σ 46 6 + nI 1))) := by
  refine Dt.of (by decide) (Nat.le_of_ble_eq_true rfl) fun κ B Rt => ?_
  show Z κ 0 0 σ 0 [(0, .ref 45)] []
  refine Z.aload_n B dX12_restore_0 (v := .ref 45) rfl rfl ?_
  refine Z.getI (σ := σ) B fX12_242_12 dX12_restore_1 (hl.n (k := 45) (by decide)) (hl.k (k := 45) (by decide)) (by decide) (v := nI 0) hi ?_
  refine Z.if_neN B dX12_restore_4 (tgt := 14) rfl (by omega) (fun h4 => by exfalso; first | omega | contradiction | simp_all) (fun h4 => ?_)
  refine Z.aload_n B dX12_restore_7 (v := .ref 45) rfl rfl ?_
  refine Z.bipush B dX12_restore_8 (v := (-6)) rfl ?_
  refine Z.callVI (σ := σ) B (M' := mX12_no) (as := [.int (-6)]) (st := []) (v := .int (-6)) dX12_restore_10 wX12_no iX12_no sX12_no kX12_94 (hl.n (k := 45) (by decide)) (hl.k (k := 45) (by decide)) (by decide) rfl rfl (t_X12_no_6 (σ := σ) hl) rfl rfl (by decide) (by decide) (Nat.le_of_ble_eq_true rfl) (by decide) (by decide) ?_
  refine Z.eqσ (τ := (zuX σ 46 (upd (zX σ 46) 6 (zX σ 46 6 + nI 1)))) rfl ?_
  refine Z.iret B Rt dX12_restore_13 (ty := .int) rfl rfl (by decide) (by decide) ?_
  exact ⟨rfl, rfl⟩

theorem t_M_restore_0 {σ : zSt} (hl : Lay σ) {y : Nat} (hi : zX σ 45 32 = nI 1) (hy : zX σ 63 (80 + 2) = nI y) (hy8 : y ≤ 8) : Dt mX12_restore [.ref 45] σ (some (.int (nI y))) (zuX (zuX (zuX (zuX (zuX (zuX (zuX (zuX (zuX σ 47 (va_cpy (zX σ 63) (zX σ 47) 0 0 48)) 48 (va_cpy (zX σ 63) (zX σ 48) 48 0 4)) 49 (va_cpy (zX σ 63) (zX σ 49) 52 0 4)) 50 (va_cpy (zX σ 63) (zX σ 50) 56 0 4)) 51 (va_cpy (zX σ 63) (zX σ 51) 60 0 4)) 52 (va_cpy (zX σ 63) (zX σ 52) 64 0 8)) 53 (va_cpy (zX σ 63) (zX σ 53) 72 0 8)) 45 (upd (upd (upd (upd (zX σ 45) 0 (zX σ 63 80)) 1 (zX σ 63 (80 + 1))) 2 (zX σ 63 (80 + 2))) 3 (zX σ 63 (80 + 3)))) 54 (rsM y 8 (zX σ 54) (zX σ 57))) := by
  refine Dt.of (by decide) (Nat.le_of_ble_eq_true rfl) fun κ B Rt => ?_
  show Z κ 0 0 σ 0 [(0, .ref 45)] []
  refine Z.aload_n B dX12_restore_0 (v := .ref 45) rfl rfl ?_
  refine Z.getI (σ := σ) B fX12_242_12 dX12_restore_1 (hl.n (k := 45) (by decide)) (hl.k (k := 45) (by decide)) (by decide) (v := nI 1) hi ?_
  refine Z.if_neN B dX12_restore_4 (tgt := 14) rfl (by omega) (fun h4 => ?_) (fun h4 => by exfalso; first | omega | contradiction | simp_all)
  refine Z.aload_n B dX12_restore_14 (v := .ref 45) rfl rfl ?_
  refine Z.aload_n B dX12_restore_15 (v := .ref 45) rfl rfl ?_
  refine Z.getR (σ := σ) B fX12_69_12 dX12_restore_16 (hl.n (k := 45) (by decide)) (hl.k (k := 45) (by decide)) (by decide) (j := 63) (hl.r (k := 45) (f := 27) (by decide) (by decide)) ?_
  refine Z.iconst B dX12_restore_19 (v := nI 1) rfl ?_
  have etrue : nI 1 = zb true := rfl
  refine Z.callVN (σ := σ) B (M' := mX12_all) (as := [.ref 63, .int (zb true)]) (st := []) dX12_restore_20 wX12_all iX12_all sX12_all kX12_179 (hl.n (k := 45) (by decide)) (hl.k (k := 45) (by decide)) (by decide) rfl rfl (t_M_all_b_63 (σ := σ) hl) rfl rfl (by decide) (by decide) (Nat.le_of_ble_eq_true rfl) (by decide) (by decide) ?_
  refine Z.eqσ (τ := (zuX (zuX (zuX (zuX (zuX (zuX (zuX (zuX σ 47 (va_cpy (zX σ 63) (zX σ 47) 0 0 48)) 48 (va_cpy (zX σ 63) (zX σ 48) 48 0 4)) 49 (va_cpy (zX σ 63) (zX σ 49) 52 0 4)) 50 (va_cpy (zX σ 63) (zX σ 50) 56 0 4)) 51 (va_cpy (zX σ 63) (zX σ 51) 60 0 4)) 52 (va_cpy (zX σ 63) (zX σ 52) 64 0 8)) 53 (va_cpy (zX σ 63) (zX σ 53) 72 0 8)) 45 (upd (upd (upd (upd (zX σ 45) 0 (zX σ 63 80)) 1 (zX σ 63 (80 + 1))) 2 (zX σ 63 (80 + 2))) 3 (zX σ 63 (80 + 3))))) rfl ?_
  have e54 : zX (zuX (zuX (zuX (zuX (zuX (zuX (zuX (zuX σ 47 (va_cpy (zX σ 63) (zX σ 47) 0 0 48)) 48 (va_cpy (zX σ 63) (zX σ 48) 48 0 4)) 49 (va_cpy (zX σ 63) (zX σ 49) 52 0 4)) 50 (va_cpy (zX σ 63) (zX σ 50) 56 0 4)) 51 (va_cpy (zX σ 63) (zX σ 51) 60 0 4)) 52 (va_cpy (zX σ 63) (zX σ 52) 64 0 8)) 53 (va_cpy (zX σ 63) (zX σ 53) 72 0 8)) 45 (upd (upd (upd (upd (zX σ 45) 0 (zX σ 63 80)) 1 (zX σ 63 (80 + 1))) 2 (zX σ 63 (80 + 2))) 3 (zX σ 63 (80 + 3)))) 54 = zX σ 54 := rfl
  have e57 : zX (zuX (zuX (zuX (zuX (zuX (zuX (zuX (zuX σ 47 (va_cpy (zX σ 63) (zX σ 47) 0 0 48)) 48 (va_cpy (zX σ 63) (zX σ 48) 48 0 4)) 49 (va_cpy (zX σ 63) (zX σ 49) 52 0 4)) 50 (va_cpy (zX σ 63) (zX σ 50) 56 0 4)) 51 (va_cpy (zX σ 63) (zX σ 51) 60 0 4)) 52 (va_cpy (zX σ 63) (zX σ 52) 64 0 8)) 53 (va_cpy (zX σ 63) (zX σ 53) 72 0 8)) 45 (upd (upd (upd (upd (zX σ 45) 0 (zX σ 63 80)) 1 (zX σ 63 (80 + 1))) 2 (zX σ 63 (80 + 2))) 3 (zX σ 63 (80 + 3)))) 57 = zX σ 57 := rfl
  have ey : zX (zuX (zuX (zuX (zuX (zuX (zuX (zuX (zuX σ 47 (va_cpy (zX σ 63) (zX σ 47) 0 0 48)) 48 (va_cpy (zX σ 63) (zX σ 48) 48 0 4)) 49 (va_cpy (zX σ 63) (zX σ 49) 52 0 4)) 50 (va_cpy (zX σ 63) (zX σ 50) 56 0 4)) 51 (va_cpy (zX σ 63) (zX σ 51) 60 0 4)) 52 (va_cpy (zX σ 63) (zX σ 52) 64 0 8)) 53 (va_cpy (zX σ 63) (zX σ 53) 72 0 8)) 45 (upd (upd (upd (upd (zX σ 45) 0 (zX σ 63 80)) 1 (zX σ 63 (80 + 1))) 2 (zX σ 63 (80 + 2))) 3 (zX σ 63 (80 + 3)))) 45 2 = nI y := hy
  have hl1 : Lay (zuX (zuX (zuX (zuX (zuX (zuX (zuX (zuX σ 47 (va_cpy (zX σ 63) (zX σ 47) 0 0 48)) 48 (va_cpy (zX σ 63) (zX σ 48) 48 0 4)) 49 (va_cpy (zX σ 63) (zX σ 49) 52 0 4)) 50 (va_cpy (zX σ 63) (zX σ 50) 56 0 4)) 51 (va_cpy (zX σ 63) (zX σ 51) 60 0 4)) 52 (va_cpy (zX σ 63) (zX σ 52) 64 0 8)) 53 (va_cpy (zX σ 63) (zX σ 53) 72 0 8)) 45 (upd (upd (upd (upd (zX σ 45) 0 (zX σ 63 80)) 1 (zX σ 63 (80 + 1))) 2 (zX σ 63 (80 + 2))) 3 (zX σ 63 (80 + 3)))) := hl
  generalize hσ1 : (zuX (zuX (zuX (zuX (zuX (zuX (zuX (zuX σ 47 (va_cpy (zX σ 63) (zX σ 47) 0 0 48)) 48 (va_cpy (zX σ 63) (zX σ 48) 48 0 4)) 49 (va_cpy (zX σ 63) (zX σ 49) 52 0 4)) 50 (va_cpy (zX σ 63) (zX σ 50) 56 0 4)) 51 (va_cpy (zX σ 63) (zX σ 51) 60 0 4)) 52 (va_cpy (zX σ 63) (zX σ 52) 64 0 8)) 53 (va_cpy (zX σ 63) (zX σ 53) 72 0 8)) 45 (upd (upd (upd (upd (zX σ 45) 0 (zX σ 63 80)) 1 (zX σ 63 (80 + 1))) 2 (zX σ 63 (80 + 2))) 3 (zX σ 63 (80 + 3)))) = σ1 at e54 e57 ey hl1 ⊢
  refine Z.iconst B dX12_restore_23 (v := nI 0) rfl ?_
  refine Z.istore_n B dX12_restore_24 (by decide) (L' := [(0, .ref 45), (1, .int (nI 0))]) rfl ?_
  have hloop25 : ∀ z : Nat, z ≤ 8 → Z κ 0 0 (zuX σ1 54 (rsM y z (zX σ 54) (zX σ 57))) 25 [(0, .ref 45), (1, .int (nI z))] [] := by
    refine z_loop (fun z => 8 - z) (fun z ih hz => ?_)
    refine Z.iload_n B dX12_restore_25 (x := nI z) rfl ?_
    refine Z.bipush B dX12_restore_26 (v := nI 8) rfl ?_
    refine Z.icmp_geN B dX12_restore_28 (tgt := 67) rfl (by omega) (by omega) (fun h28 => ?_) (fun h28 => ?_)
    · skip
      obtain rfl : 8 = z := by omega
      refine Z.aload_n B dX12_restore_67 (v := .ref 45) rfl rfl ?_
      refine Z.getI (σ := (zuX σ1 54 (rsM y 8 (zX σ 54) (zX σ 57)))) B fX12_87_12 dX12_restore_68 (hl1.n (k := 45) (by decide)) (hl1.k (k := 45) (by decide)) (by decide) (v := nI y) ey ?_
      refine Z.iret B Rt dX12_restore_71 (ty := .int) rfl rfl (by decide) (by decide) ?_
      exact ⟨rfl, by rw [← hσ1]⟩
    · skip
      refine Z.aload_n B dX12_restore_31 (v := .ref 45) rfl rfl ?_
      refine Z.getR (σ := (zuX σ1 54 (rsM y z (zX σ 54) (zX σ 57)))) B fX12_41_12 dX12_restore_32 (hl1.n (k := 45) (by decide)) (hl1.k (k := 45) (by decide)) (by decide) (j := 54) (hl1.r (k := 45) (f := 13) (by decide) (by decide)) ?_
      refine Z.iload_n B dX12_restore_35 (x := nI z) rfl ?_
      refine Z.iald (σ := (zuX σ1 54 (rsM y z (zX σ 54) (zX σ 57)))) B dX12_restore_36 (n := 8) (hl1.n (k := 54) (by decide)) (hl1.k (k := 54) (by decide)) (hl1.l (k := 54) (by decide)) (by decide) (j := z) rfl (by omega) (v := (zX σ 54 z)) (by rw [zX_self, rsM_at]) ?_
      refine Z.iconst B dX12_restore_37 (v := nI 2) rfl ?_
      refine Z.icmp_ne B dX12_restore_38 (tgt := 61) rfl (fun h38 => ?_) (fun h38 => ?_)
      · skip
        refine Z.iincN B dX12_restore_61 (by decide) (a := z) rfl (L' := [(0, .ref 45), (1, .int (nI (z + 1)))]) rfl ?_
        refine Z.goto B dX12_restore_64 (tgt := 25) rfl ?_
        have e := ih (z + 1) (by omega) (by omega)
        first | exact e | (have hc : ¬ (zX σ 54 z = nI 2 ∧ nI y ≤ zX σ 57 z) := fun h => h38 h.1; rw [← rsM_f hc] at e; exact e) | (have hc : ¬ (zX σ 54 z = nI 2 ∧ nI y ≤ zX σ 57 z) := (fun h => by (have := h.2; rw [zle_iff] at this; rw [zlt_iff] at h51; omega)); rw [← rsM_f hc] at e; exact e)
      · skip
        refine Z.aload_n B dX12_restore_41 (v := .ref 45) rfl rfl ?_
        refine Z.getR (σ := (zuX σ1 54 (rsM y z (zX σ 54) (zX σ 57)))) B fX12_50_12 dX12_restore_42 (hl1.n (k := 45) (by decide)) (hl1.k (k := 45) (by decide)) (by decide) (j := 57) (hl1.r (k := 45) (f := 16) (by decide) (by decide)) ?_
        refine Z.iload_n B dX12_restore_45 (x := nI z) rfl ?_
        refine Z.iald (σ := (zuX σ1 54 (rsM y z (zX σ 54) (zX σ 57)))) B dX12_restore_46 (n := 8) (hl1.n (k := 57) (by decide)) (hl1.k (k := 57) (by decide)) (hl1.l (k := 57) (by decide)) (by decide) (j := z) rfl (by omega) (v := (zX σ 57 z)) (congrFun e57 z) ?_
        refine Z.aload_n B dX12_restore_47 (v := .ref 45) rfl rfl ?_
        refine Z.getI (σ := (zuX σ1 54 (rsM y z (zX σ 54) (zX σ 57)))) B fX12_87_12 dX12_restore_48 (hl1.n (k := 45) (by decide)) (hl1.k (k := 45) (by decide)) (by decide) (v := nI y) ey ?_
        refine Z.icmp_lt B dX12_restore_51 (tgt := 61) rfl (fun h51 => ?_) (fun h51 => ?_)
        · skip
          refine Z.iincN B dX12_restore_61 (by decide) (a := z) rfl (L' := [(0, .ref 45), (1, .int (nI (z + 1)))]) rfl ?_
          refine Z.goto B dX12_restore_64 (tgt := 25) rfl ?_
          have e := ih (z + 1) (by omega) (by omega)
          first | exact e | (have hc : ¬ (zX σ 54 z = nI 2 ∧ nI y ≤ zX σ 57 z) := fun h => h38 h.1; rw [← rsM_f hc] at e; exact e) | (have hc : ¬ (zX σ 54 z = nI 2 ∧ nI y ≤ zX σ 57 z) := (fun h => by (have := h.2; rw [zle_iff] at this; rw [zlt_iff] at h51; omega)); rw [← rsM_f hc] at e; exact e)
        · skip
          have h51 : nI y ≤ zX σ 57 z := by rw [zle_iff]; rw [zlt_iff] at h51; omega
          refine Z.aload_n B dX12_restore_54 (v := .ref 45) rfl rfl ?_
          refine Z.getR (σ := (zuX σ1 54 (rsM y z (zX σ 54) (zX σ 57)))) B fX12_41_12 dX12_restore_55 (hl1.n (k := 45) (by decide)) (hl1.k (k := 45) (by decide)) (by decide) (j := 54) (hl1.r (k := 45) (f := 13) (by decide) (by decide)) ?_
          refine Z.iload_n B dX12_restore_58 (x := nI z) rfl ?_
          refine Z.iconst B dX12_restore_59 (v := nI 0) rfl ?_
          refine Z.iast (σ := (zuX σ1 54 (rsM y z (zX σ 54) (zX σ 57)))) B dX12_restore_60 (n := 8) (hl1.n (k := 54) (by decide)) (hl1.k (k := 54) (by decide)) (hl1.l (k := 54) (by decide)) (by decide) (j := z) rfl (by omega) (τ := (zuX σ1 54 (rsM y (z + 1) (zX σ 54) (zX σ 57)))) (by rw [zX_self, zuX_uX, rsM_t h38 h51]) ?_
          refine Z.iincN B dX12_restore_61 (by decide) (a := z) rfl (L' := [(0, .ref 45), (1, .int (nI (z + 1)))]) rfl ?_
          refine Z.goto B dX12_restore_64 (tgt := 25) rfl ?_
          have e := ih (z + 1) (by omega) (by omega)
          first | exact e | (have hc : ¬ (zX σ 54 z = nI 2 ∧ nI y ≤ zX σ 57 z) := fun h => h38 h.1; rw [← rsM_f hc] at e; exact e) | (have hc : ¬ (zX σ 54 z = nI 2 ∧ nI y ≤ zX σ 57 z) := (fun h => by (have := h.2; rw [zle_iff] at this; rw [zlt_iff] at h51; omega)); rw [← rsM_f hc] at e; exact e)
  have h0 := hloop25 0 (Nat.zero_le _)
  rw [rsM_0, ← e54, zuX_id] at h0
  exact h0
