/-! comparing: signs, tells, ranks, heads, names off -/
theorem upd_upd {f : Nat → Int32} {i : Nat} {v v' : Int32} : upd (upd f i v) i v' = upd f i v' := by
  funext j
  simp only [upd]
  split <;> rfl
theorem fi_fi {n : Nat} {f g X : Nat → Int32} : fi n f (fi n g X) = fi n f X := by
  funext j
  simp only [fi]
  split <;> rfl
/-- a row filled anew in each round -/
def fl (G : Nat → Nat → Int32) (n : Nat) (X : Nat → Int32) : Nat → Nat → Int32
  | 0 => X
  | b + 1 => fi n (G b) X
theorem fl_s {G : Nat → Nat → Int32} {n : Nat} {X : Nat → Int32} {b : Nat} : fi n (G b) (fl G n X b) = fl G n X (b + 1) := by
  cases b with
  | zero => rfl
  | succ b => exact fi_fi
theorem zuX_sw {σ : zSt} {k j : Nat} {f g h : Nat → Int32} (hkj : k ≠ j) : zuX (zuX (zuX σ k f) j g) k h = zuX (zuX σ k h) j g := by
  unfold zuX
  have : zfu (zfu (zfu σ.2.2.2.1 k f) j g) k h = zfu (zfu σ.2.2.2.1 k h) j g := by
    funext i
    by_cases h1 : i = k
    · subst h1; rw [zfu_self, zfu_ne hkj, zfu_self]
    · rw [zfu_ne h1]
      by_cases h2 : i = j
      · subst h2; rw [zfu_self, zfu_self]
      · rw [zfu_ne h2, zfu_ne h2, zfu_ne h1, zfu_ne h1]
  rw [this]
def smz (z : Int32) (f : Nat → Int32) : Nat → Int32
  | 0 => z
  | i + 1 => smz z f i + f i
def smm (z : Int32) (f : Nat → Int32) : Nat → Int32
  | 0 => z
  | i + 1 => smm z f i - f i
/-- over pairs i below j -/
def tO (f : Nat → Nat → Int32) : Nat → Int32
  | 0 => nI 0
  | j + 1 => smz (tO f j) (fun i => f i j) j
theorem tO_1 {f : Nat → Nat → Int32} : tO f 1 = nI 0 := rfl
theorem smz_cong {z : Int32} {f g : Nat → Int32} : ∀ n, (∀ i, i < n → f i = g i) → smz z f n = smz z g n
  | 0, _ => rfl
  | n + 1, h => by simp only [smz]; rw [smz_cong n (fun i hi => h i (by omega)), h n (by omega)]
theorem tO_cong {f g : Nat → Nat → Int32} : ∀ n, (∀ i j, i < j → j < n → f i j = g i j) → tO f n = tO g n
  | 0, _ => rfl
  | n + 1, h => by
    simp only [tO]
    rw [tO_cong n (fun i j hi hj => h i j hi (by omega))]
    exact smz_cong n fun i hi => h i n hi (by omega)
def sg (x y : Int32) : Int32 := if x = y then nI 0 else if y < x then nI 1 else (-1)
def pt (F X : Nat → Int32) (i j : Nat) : Int32 := sg (cn F i 6) (cn F j 6) * sg (X i) (X j)
theorem pt_fi {F f g : Nat → Int32} {n : Nat} : tO (pt F (fi n f g)) n = tO (pt F f) n := tO_cong n fun i j hi hj => by unfold pt; rw [fi_at hj, fi_at (Nat.lt_trans hi hj)]
def cN (p : Nat → Bool) : Nat → Nat
  | 0 => 0
  | i + 1 => cN p i + (bif p i then 1 else 0)
theorem cN_le (p : Nat → Bool) : ∀ n, cN p n ≤ n
  | 0 => Nat.le_refl _
  | n + 1 => by
    have := cN_le p n
    simp only [cN]
    cases p n <;> simp <;> omega
theorem cN_cong {p q : Nat → Bool} : ∀ n, (∀ i, i < n → p i = q i) → cN p n = cN q n
  | 0, _ => rfl
  | n + 1, h => by simp only [cN]; rw [cN_cong n (fun i hi => h i (by omega)), h n (by omega)]
/-- o stands before c by the numbers X: greater, or the same and first -/
def ah (X : Nat → Int32) (c o : Nat) : Bool := decide (X c < X o ∨ (X o = X c ∧ o < c))
def rkN (X : Nat → Int32) (n c : Nat) : Nat := cN (ah X c) n
theorem rkN_fi {n c : Nat} {f g : Nat → Int32} (hc : c < n) : rkN (fi n f g) n c = rkN f n c := cN_cong n fun i hi => by unfold ah; rw [fi_at hi, fi_at hc]
theorem rkN_le {X : Nat → Int32} {n c : Nat} : rkN X n c ≤ n := cN_le _ n
/-- turned: the names taken, each asker gone once -/
def tn (n : Nat) (G : Nat → Nat → Int32) : Nat → Int32
  | 0 => nI 0
  | b + 1 => tn n G b ||| (if gI (G b) n = (-1) then nI 0 else nI 1 <<< (gI (G b) n &&& 31))
/-- heads: the share, and all shares -/
def hS (s : Int32) (d : Nat → Int32) (p : Nat) : Nat → Int32
  | 0 => s
  | k + 1 => hS s d p k * d (p + 1 + k) / nI 10
def hH (s : Int32) (d : Nat → Int32) (p : Nat) : Nat → Int32
  | 0 => s
  | k + 1 => hH s d p k + hS s d p (k + 1)
theorem decT {P : Prop} [Decidable P] (h : P) : (bif decide P then 1 else 0 : Nat) = 1 := by rw [decide_eq_true h]; rfl
theorem decF {P : Prop} [Decidable P] (h : ¬ P) : (bif decide P then 1 else 0 : Nat) = 0 := by rw [decide_eq_false h]; rfl

theorem t_X1_takenWithNames {σ : zSt} {n a y : Nat} (H : zHd σ n a y) {q pa num : Nat} (hw : zWo σ q 6 pa num) : Dt mX1_takenWithNames [.ref 20, .ref q] σ (some (.int (gI (fun c => sm (fun b => shW (zX σ 21) (zSc σ) (zLk σ) 5 pa b c) a) n))) (zuX σ 25 (fi n (fun c => sm (fun b => shW (zX σ 21) (zSc σ) (zLk σ) 5 pa b c) a) (zX σ 25))) := by
  obtain ⟨hl, hn, hn8, ha, ha4, hy, hy8⟩ := id H
  refine Dt.of (by decide) (Nat.le_of_ble_eq_true rfl) fun κ B Rt => ?_
  show Z κ 0 0 σ 0 [(0, .ref 20), (1, .ref q)] []
  refine Z.iconst B dX1_takenWithNames_0 (v := nI 0) rfl ?_
  refine Z.istore_n B dX1_takenWithNames_1 (by decide) (L' := [(0, .ref 20), (1, .ref q), (2, .int (nI 0))]) rfl ?_
  have hloop2 : ∀ i : Nat, i ≤ n → Z κ 0 0 (zuX σ 25 (fi i (fun c => sm (fun b => shW (zX σ 21) (zSc σ) (zLk σ) 5 pa b c) a) (zX σ 25))) 2 [(0, .ref 20), (1, .ref q), (2, .int (nI i))] [] := by
    refine z_loop (fun i => n - i) (fun i ih hi => ?_)
    refine Z.iload_n B dX1_takenWithNames_2 (x := nI i) rfl ?_
    refine Z.aload_n B dX1_takenWithNames_3 (v := .ref 20) rfl rfl ?_
    refine Z.getI (σ := (zuX σ 25 (fi i (fun c => sm (fun b => shW (zX σ 21) (zSc σ) (zLk σ) 5 pa b c) a) (zX σ 25)))) B fX1_37_1 dX1_takenWithNames_4 (hl.n (k := 20) (by decide)) (hl.k (k := 20) (by decide)) (by decide) (v := nI n) hn ?_
    refine Z.icmp_geN B dX1_takenWithNames_7 (tgt := 55) rfl (by omega) (by omega) (fun h7 => ?_) (fun h7 => ?_)
    · skip
      obtain rfl : n = i := by omega
      refine Z.aload_n B dX1_takenWithNames_55 (v := .ref 20) rfl rfl ?_
      refine Z.callVI (σ := (zuX σ 25 (fi n (fun c => sm (fun b => shW (zX σ 21) (zSc σ) (zLk σ) 5 pa b c) a) (zX σ 25)))) B (M' := mX1_greatest) (as := []) (st := []) (v := .int (gI (fi n (fun c => sm (fun b => shW (zX σ 21) (zSc σ) (zLk σ) 5 pa b c) a) (zX σ 25)) n)) dX1_takenWithNames_56 wX1_greatest iX1_greatest sX1_greatest kX1_114 (hl.n (k := 20) (by decide)) (hl.k (k := 20) (by decide)) (by decide) rfl rfl (t_X1_greatest (σ := (zuX σ 25 (fi n (fun c => sm (fun b => shW (zX σ 21) (zSc σ) (zLk σ) 5 pa b c) a) (zX σ 25)))) H) rfl rfl (by decide) (by decide) (Nat.le_of_ble_eq_true rfl) (by decide) (by decide) ?_
      refine Z.iret B Rt dX1_takenWithNames_59 (ty := .int) rfl rfl (by decide) (by decide) ?_
      exact ⟨by rw [gI_fi], rfl⟩
    · skip
      refine Z.aload_n B dX1_takenWithNames_10 (v := .ref 20) rfl rfl ?_
      refine Z.getR (σ := (zuX σ 25 (fi i (fun c => sm (fun b => shW (zX σ 21) (zSc σ) (zLk σ) 5 pa b c) a) (zX σ 25)))) B fX1_31_1 dX1_takenWithNames_11 (hl.n (k := 20) (by decide)) (hl.k (k := 20) (by decide)) (by decide) (j := 25) (hl.r (k := 20) (f := 9) (by decide) (by decide)) ?_
      refine Z.iload_n B dX1_takenWithNames_14 (x := nI i) rfl ?_
      refine Z.iconst B dX1_takenWithNames_15 (v := nI 0) rfl ?_
      refine Z.iast (σ := (zuX σ 25 (fi i (fun c => sm (fun b => shW (zX σ 21) (zSc σ) (zLk σ) 5 pa b c) a) (zX σ 25)))) B dX1_takenWithNames_16 (n := 8) (hl.n (k := 25) (by decide)) (hl.k (k := 25) (by decide)) (hl.l (k := 25) (by decide)) (by decide) (j := i) rfl (by omega) (τ := (zuX σ 25 (upd (fi i (fun c => sm (fun b => shW (zX σ 21) (zSc σ) (zLk σ) 5 pa b c) a) (zX σ 25)) i (nI 0)))) (by simp only [zX_self, zuX_uX]) ?_
      refine Z.iconst B dX1_takenWithNames_17 (v := nI 0) rfl ?_
      refine Z.istore_n B dX1_takenWithNames_18 (by decide) (L' := [(0, .ref 20), (1, .ref q), (2, .int (nI i)), (3, .int (nI 0))]) rfl ?_
      have hloop19 : ∀ j : Nat, j ≤ a → Z κ 0 0 (zuX σ 25 (upd (fi i (fun c => sm (fun b => shW (zX σ 21) (zSc σ) (zLk σ) 5 pa b c) a) (zX σ 25)) i (sm (fun b => shW (zX σ 21) (zSc σ) (zLk σ) 5 pa b i) j))) 19 [(0, .ref 20), (1, .ref q), (2, .int (nI i)), (3, .int (nI j))] [] := by
        refine z_loop (fun j => a - j) (fun j jh hj => ?_)
        refine Z.iload_n B dX1_takenWithNames_19 (x := nI j) rfl ?_
        refine Z.aload_n B dX1_takenWithNames_20 (v := .ref 20) rfl rfl ?_
        refine Z.getI (σ := (zuX σ 25 (upd (fi i (fun c => sm (fun b => shW (zX σ 21) (zSc σ) (zLk σ) 5 pa b c) a) (zX σ 25)) i (sm (fun b => shW (zX σ 21) (zSc σ) (zLk σ) 5 pa b i) j)))) B fX1_41_1 dX1_takenWithNames_21 (hl.n (k := 20) (by decide)) (hl.k (k := 20) (by decide)) (by decide) (v := nI a) ha ?_
        refine Z.icmp_geN B dX1_takenWithNames_24 (tgt := 49) rfl (by omega) (by omega) (fun h24 => ?_) (fun h24 => ?_)
        · skip
          obtain rfl : a = j := by omega
          refine Z.iincN B dX1_takenWithNames_49 (by decide) (a := i) rfl (L' := [(0, .ref 20), (1, .ref q), (2, .int (nI (i + 1))), (3, .int (nI a))]) rfl ?_
          refine Z.goto B dX1_takenWithNames_52 (tgt := 2) rfl ?_
          refine Z.drop 3 (L' := [(0, .ref 20), (1, .ref q), (2, .int (nI (i + 1)))]) rfl ?_
          have e := ih (i + 1) (by omega) (by omega)
          rw [← fi_s (i := i) (f := (fun c => sm (fun b => shW (zX σ 21) (zSc σ) (zLk σ) 5 pa b c) a)) rfl] at e
          exact e
        · skip
          refine Z.aload_n B dX1_takenWithNames_27 (v := .ref 20) rfl rfl ?_
          refine Z.getR (σ := (zuX σ 25 (upd (fi i (fun c => sm (fun b => shW (zX σ 21) (zSc σ) (zLk σ) 5 pa b c) a) (zX σ 25)) i (sm (fun b => shW (zX σ 21) (zSc σ) (zLk σ) 5 pa b i) j)))) B fX1_31_1 dX1_takenWithNames_28 (hl.n (k := 20) (by decide)) (hl.k (k := 20) (by decide)) (by decide) (j := 25) (hl.r (k := 20) (f := 9) (by decide) (by decide)) ?_
          refine Z.iload_n B dX1_takenWithNames_31 (x := nI i) rfl ?_
          refine Z.dup2 B dX1_takenWithNames_32 rfl rfl ?_
          refine Z.iald (σ := (zuX σ 25 (upd (fi i (fun c => sm (fun b => shW (zX σ 21) (zSc σ) (zLk σ) 5 pa b c) a) (zX σ 25)) i (sm (fun b => shW (zX σ 21) (zSc σ) (zLk σ) 5 pa b i) j)))) B dX1_takenWithNames_33 (n := 8) (hl.n (k := 25) (by decide)) (hl.k (k := 25) (by decide)) (hl.l (k := 25) (by decide)) (by decide) (j := i) rfl (by omega) (v := sm (fun b => shW (zX σ 21) (zSc σ) (zLk σ) 5 pa b i) j) (by simp only [zX_self, pk_us]) ?_
          refine Z.aload_n B dX1_takenWithNames_34 (v := .ref q) rfl rfl ?_
          refine Z.aload_n B dX1_takenWithNames_35 (v := .ref 20) rfl rfl ?_
          refine Z.iload_n B dX1_takenWithNames_36 (x := nI j) rfl ?_
          refine Z.iload_n B dX1_takenWithNames_37 (x := nI i) rfl ?_
          refine Z.callVI (σ := (zuX σ 25 (upd (fi i (fun c => sm (fun b => shW (zX σ 21) (zSc σ) (zLk σ) 5 pa b c) a) (zX σ 25)) i (sm (fun b => shW (zX σ 21) (zSc σ) (zLk σ) 5 pa b i) j)))) B (M' := mX0_shownWithNames) (as := [.ref 20, .int (nI j), .int (nI i)]) (st := [.int (sm (fun b => shW (zX σ 21) (zSc σ) (zLk σ) 5 pa b i) j), .int (nI i), .ref 25]) (v := .int (shW (zX σ 21) (zSc σ) (zLk σ) 5 pa j i)) dX1_takenWithNames_38 wX0_shownWithNames iX0_shownWithNames sX0_shownWithNames kX1_125 hw.1 hw.2.1 (by decide) rfl rfl (t_X0_shownWithNames (σ := (zuX σ 25 (upd (fi i (fun c => sm (fun b => shW (zX σ 21) (zSc σ) (zLk σ) 5 pa b c) a) (zX σ 25)) i (sm (fun b => shW (zX σ 21) (zSc σ) (zLk σ) 5 pa b i) j)))) H (hw.uX (by decide)) (b := j) (c := i) (by omega) (by omega)) rfl rfl (by decide) (by decide) (Nat.le_of_ble_eq_true rfl) (by decide) (by decide) ?_
          refine Z.iadd B dX1_takenWithNames_41 ?_
          refine Z.iast (σ := (zuX σ 25 (upd (fi i (fun c => sm (fun b => shW (zX σ 21) (zSc σ) (zLk σ) 5 pa b c) a) (zX σ 25)) i (sm (fun b => shW (zX σ 21) (zSc σ) (zLk σ) 5 pa b i) j)))) B dX1_takenWithNames_42 (n := 8) (hl.n (k := 25) (by decide)) (hl.k (k := 25) (by decide)) (hl.l (k := 25) (by decide)) (by decide) (j := i) rfl (by omega) (τ := (zuX σ 25 (upd (fi i (fun c => sm (fun b => shW (zX σ 21) (zSc σ) (zLk σ) 5 pa b c) a) (zX σ 25)) i (sm (fun b => shW (zX σ 21) (zSc σ) (zLk σ) 5 pa b i) (j + 1))))) (by rw [zX_self, zuX_uX, upd_upd]; rfl) ?_
          refine Z.iincN B dX1_takenWithNames_43 (by decide) (a := j) rfl (L' := [(0, .ref 20), (1, .ref q), (2, .int (nI i)), (3, .int (nI (j + 1)))]) rfl ?_
          refine Z.goto B dX1_takenWithNames_46 (tgt := 19) rfl ?_
          exact jh (j + 1) (by omega) (by omega)
      exact hloop19 0 (Nat.zero_le _)
  have h0 := hloop2 0 (Nat.zero_le _)
  rw [fi_0, zuX_id] at h0
  exact h0

theorem t_X1_agreeing {σ : zSt} {n a y : Nat} (H : zHd σ n a y) {q kd pa num : Nat} (hw : zWo σ q kd pa num) {t : Int32} : Dt mX1_agreeing [.ref 20, .ref q, .int t] σ (some (.int (ct (fun b => decide (gI ((fun b c => shW (zX σ 21) (zSc σ) (zLk σ) kd pa b c) b) n = t)) a))) (zuX σ 25 (fl (fun b c => shW (zX σ 21) (zSc σ) (zLk σ) kd pa b c) n (zX σ 25) a)) := by
  obtain ⟨hl, hn, hn8, ha, ha4, hy, hy8⟩ := id H
  refine Dt.of (by decide) (Nat.le_of_ble_eq_true rfl) fun κ B Rt => ?_
  show Z κ 0 0 σ 0 [(0, .ref 20), (1, .ref q), (2, .int t)] []
  refine Z.iconst B dX1_agreeing_0 (v := nI 0) rfl ?_
  refine Z.istore_n B dX1_agreeing_1 (by decide) (L' := [(0, .ref 20), (1, .ref q), (2, .int t), (3, .int (nI 0))]) rfl ?_
  refine Z.iconst B dX1_agreeing_2 (v := nI 0) rfl ?_
  refine Z.istore B dX1_agreeing_3 (by decide) (L' := [(0, .ref 20), (1, .ref q), (2, .int t), (3, .int (nI 0)), (4, .int (nI 0))]) rfl ?_
  have hloop5 : ∀ i : Nat, i ≤ a → Z κ 0 0 (zuX σ 25 (fl (fun b c => shW (zX σ 21) (zSc σ) (zLk σ) kd pa b c) n (zX σ 25) i)) 5 [(0, .ref 20), (1, .ref q), (2, .int t), (3, .int (ct (fun b => decide (gI ((fun b c => shW (zX σ 21) (zSc σ) (zLk σ) kd pa b c) b) n = t)) i)), (4, .int (nI i))] [] := by
    refine z_loop (fun i => a - i) (fun i ih hi => ?_)
    refine Z.iload B dX1_agreeing_5 (x := nI i) rfl ?_
    refine Z.aload_n B dX1_agreeing_7 (v := .ref 20) rfl rfl ?_
    refine Z.getI (σ := (zuX σ 25 (fl (fun b c => shW (zX σ 21) (zSc σ) (zLk σ) kd pa b c) n (zX σ 25) i))) B fX1_41_1 dX1_agreeing_8 (hl.n (k := 20) (by decide)) (hl.k (k := 20) (by decide)) (by decide) (v := nI a) ha ?_
    refine Z.icmp_geN B dX1_agreeing_11 (tgt := 70) rfl (by omega) (by omega) (fun h11 => ?_) (fun h11 => ?_)
    · skip
      obtain rfl : a = i := by omega
      refine Z.iload_n B dX1_agreeing_70 (x := ct (fun b => decide (gI ((fun b c => shW (zX σ 21) (zSc σ) (zLk σ) kd pa b c) b) n = t)) a) rfl ?_
      refine Z.iret B Rt dX1_agreeing_71 (ty := .int) rfl rfl (by decide) (by decide) ?_
      exact ⟨rfl, rfl⟩
    · skip
      refine Z.iconst B dX1_agreeing_14 (v := nI 0) rfl ?_
      refine Z.istore B dX1_agreeing_15 (by decide) (L' := [(0, .ref 20), (1, .ref q), (2, .int t), (3, .int (ct (fun b => decide (gI ((fun b c => shW (zX σ 21) (zSc σ) (zLk σ) kd pa b c) b) n = t)) i)), (4, .int (nI i)), (5, .int (nI 0))]) rfl ?_
      have hloop17 : ∀ j : Nat, j ≤ n → Z κ 0 0 (zuX σ 25 (fi j ((fun b c => shW (zX σ 21) (zSc σ) (zLk σ) kd pa b c) i) (fl (fun b c => shW (zX σ 21) (zSc σ) (zLk σ) kd pa b c) n (zX σ 25) i))) 17 [(0, .ref 20), (1, .ref q), (2, .int t), (3, .int (ct (fun b => decide (gI ((fun b c => shW (zX σ 21) (zSc σ) (zLk σ) kd pa b c) b) n = t)) i)), (4, .int (nI i)), (5, .int (nI j))] [] := by
        refine z_loop (fun j => n - j) (fun j jh hj => ?_)
        refine Z.iload B dX1_agreeing_17 (x := nI j) rfl ?_
        refine Z.aload_n B dX1_agreeing_19 (v := .ref 20) rfl rfl ?_
        refine Z.getI (σ := (zuX σ 25 (fi j ((fun b c => shW (zX σ 21) (zSc σ) (zLk σ) kd pa b c) i) (fl (fun b c => shW (zX σ 21) (zSc σ) (zLk σ) kd pa b c) n (zX σ 25) i)))) B fX1_37_1 dX1_agreeing_20 (hl.n (k := 20) (by decide)) (hl.k (k := 20) (by decide)) (by decide) (v := nI n) hn ?_
        refine Z.icmp_geN B dX1_agreeing_23 (tgt := 48) rfl (by omega) (by omega) (fun h23 => ?_) (fun h23 => ?_)
        · skip
          obtain rfl : n = j := by omega
          refine Z.iload_n B dX1_agreeing_48 (x := ct (fun b => decide (gI ((fun b c => shW (zX σ 21) (zSc σ) (zLk σ) kd pa b c) b) n = t)) i) rfl ?_
          refine Z.aload_n B dX1_agreeing_49 (v := .ref 20) rfl rfl ?_
          refine Z.callVI (σ := (zuX σ 25 (fi n ((fun b c => shW (zX σ 21) (zSc σ) (zLk σ) kd pa b c) i) (fl (fun b c => shW (zX σ 21) (zSc σ) (zLk σ) kd pa b c) n (zX σ 25) i)))) B (M' := mX1_greatest) (as := []) (st := [.int (ct (fun b => decide (gI ((fun b c => shW (zX σ 21) (zSc σ) (zLk σ) kd pa b c) b) n = t)) i)]) (v := .int (gI (fi n ((fun b c => shW (zX σ 21) (zSc σ) (zLk σ) kd pa b c) i) (fl (fun b c => shW (zX σ 21) (zSc σ) (zLk σ) kd pa b c) n (zX σ 25) i)) n)) dX1_agreeing_50 wX1_greatest iX1_greatest sX1_greatest kX1_114 (hl.n (k := 20) (by decide)) (hl.k (k := 20) (by decide)) (by decide) rfl rfl (t_X1_greatest (σ := (zuX σ 25 (fi n ((fun b c => shW (zX σ 21) (zSc σ) (zLk σ) kd pa b c) i) (fl (fun b c => shW (zX σ 21) (zSc σ) (zLk σ) kd pa b c) n (zX σ 25) i)))) H) rfl rfl (by decide) (by decide) (Nat.le_of_ble_eq_true rfl) (by decide) (by decide) ?_
          refine Z.iload_n B dX1_agreeing_53 (x := t) rfl ?_
          refine Z.icmp_ne B dX1_agreeing_54 (tgt := 61) rfl (fun h54 => ?_) (fun h54 => ?_)
          · skip
            refine Z.iconst B dX1_agreeing_61 (v := nI 0) rfl ?_
            refine Z.iadd B dX1_agreeing_62 ?_
            refine Z.istore_n B dX1_agreeing_63 (by decide) (L' := [(0, .ref 20), (1, .ref q), (2, .int t), (3, .int ((ct (fun b => decide (gI ((fun b c => shW (zX σ 21) (zSc σ) (zLk σ) kd pa b c) b) n = t)) i) + (nI 0))), (4, .int (nI i)), (5, .int (nI n))]) rfl ?_
            refine Z.iincN B dX1_agreeing_64 (by decide) (a := i) rfl (L' := [(0, .ref 20), (1, .ref q), (2, .int t), (3, .int ((ct (fun b => decide (gI ((fun b c => shW (zX σ 21) (zSc σ) (zLk σ) kd pa b c) b) n = t)) i) + (nI 0))), (4, .int (nI (i + 1))), (5, .int (nI n))]) rfl ?_
            refine Z.goto B dX1_agreeing_67 (tgt := 5) rfl ?_
            refine Z.drop 5 (L' := [(0, .ref 20), (1, .ref q), (2, .int t), (3, .int ((ct (fun b => decide (gI ((fun b c => shW (zX σ 21) (zSc σ) (zLk σ) kd pa b c) b) n = t)) i) + (nI 0))), (4, .int (nI (i + 1)))]) rfl ?_
            have e := ih (i + 1) (by omega) (by omega)
            rw [← fl_s] at e
            simp only [ct] at e
            rw [gI_fi] at h54
            first | (rw [decide_eq_true h54] at e; exact e) | (rw [decide_eq_false h54] at e; exact e)
          · skip
            refine Z.iconst B dX1_agreeing_57 (v := nI 1) rfl ?_
            refine Z.goto B dX1_agreeing_58 (tgt := 62) rfl ?_
            refine Z.iadd B dX1_agreeing_62 ?_
            refine Z.istore_n B dX1_agreeing_63 (by decide) (L' := [(0, .ref 20), (1, .ref q), (2, .int t), (3, .int ((ct (fun b => decide (gI ((fun b c => shW (zX σ 21) (zSc σ) (zLk σ) kd pa b c) b) n = t)) i) + (nI 1))), (4, .int (nI i)), (5, .int (nI n))]) rfl ?_
            refine Z.iincN B dX1_agreeing_64 (by decide) (a := i) rfl (L' := [(0, .ref 20), (1, .ref q), (2, .int t), (3, .int ((ct (fun b => decide (gI ((fun b c => shW (zX σ 21) (zSc σ) (zLk σ) kd pa b c) b) n = t)) i) + (nI 1))), (4, .int (nI (i + 1))), (5, .int (nI n))]) rfl ?_
            refine Z.goto B dX1_agreeing_67 (tgt := 5) rfl ?_
            refine Z.drop 5 (L' := [(0, .ref 20), (1, .ref q), (2, .int t), (3, .int ((ct (fun b => decide (gI ((fun b c => shW (zX σ 21) (zSc σ) (zLk σ) kd pa b c) b) n = t)) i) + (nI 1))), (4, .int (nI (i + 1)))]) rfl ?_
            have e := ih (i + 1) (by omega) (by omega)
            rw [← fl_s] at e
            simp only [ct] at e
            rw [gI_fi] at h54
            first | (rw [decide_eq_true h54] at e; exact e) | (rw [decide_eq_false h54] at e; exact e)
        · skip
          refine Z.aload_n B dX1_agreeing_26 (v := .ref 20) rfl rfl ?_
          refine Z.getR (σ := (zuX σ 25 (fi j ((fun b c => shW (zX σ 21) (zSc σ) (zLk σ) kd pa b c) i) (fl (fun b c => shW (zX σ 21) (zSc σ) (zLk σ) kd pa b c) n (zX σ 25) i)))) B fX1_31_1 dX1_agreeing_27 (hl.n (k := 20) (by decide)) (hl.k (k := 20) (by decide)) (by decide) (j := 25) (hl.r (k := 20) (f := 9) (by decide) (by decide)) ?_
          refine Z.iload B dX1_agreeing_30 (x := nI j) rfl ?_
          refine Z.aload_n B dX1_agreeing_32 (v := .ref q) rfl rfl ?_
          refine Z.aload_n B dX1_agreeing_33 (v := .ref 20) rfl rfl ?_
          refine Z.iload B dX1_agreeing_34 (x := nI i) rfl ?_
          refine Z.iload B dX1_agreeing_36 (x := nI j) rfl ?_
          refine Z.shown (σ := (zuX σ 25 (fi j ((fun b c => shW (zX σ 21) (zSc σ) (zLk σ) kd pa b c) i) (fl (fun b c => shW (zX σ 21) (zSc σ) (zLk σ) kd pa b c) n (zX σ 25) i)))) B dX1_agreeing_38 kX1_102 (b := i) (c := j) H (hw.uX (by decide)) (by omega) (by omega) (by decide) (Nat.le_of_ble_eq_true rfl) (by decide) (by decide) ?_
          show Z κ 0 0 (zuX σ 25 (fi j ((fun b c => shW (zX σ 21) (zSc σ) (zLk σ) kd pa b c) i) (fl (fun b c => shW (zX σ 21) (zSc σ) (zLk σ) kd pa b c) n (zX σ 25) i))) 41 [(0, .ref 20), (1, .ref q), (2, .int t), (3, .int (ct (fun b => decide (gI ((fun b c => shW (zX σ 21) (zSc σ) (zLk σ) kd pa b c) b) n = t)) i)), (4, .int (nI i)), (5, .int (nI j))] [.int (shW (zX σ 21) (zSc σ) (zLk σ) kd pa i j), .int (nI j), .ref 25]
          refine Z.iast (σ := (zuX σ 25 (fi j ((fun b c => shW (zX σ 21) (zSc σ) (zLk σ) kd pa b c) i) (fl (fun b c => shW (zX σ 21) (zSc σ) (zLk σ) kd pa b c) n (zX σ 25) i)))) B dX1_agreeing_41 (n := 8) (hl.n (k := 25) (by decide)) (hl.k (k := 25) (by decide)) (hl.l (k := 25) (by decide)) (by decide) (j := j) rfl (by omega) (τ := (zuX σ 25 (fi (j + 1) ((fun b c => shW (zX σ 21) (zSc σ) (zLk σ) kd pa b c) i) (fl (fun b c => shW (zX σ 21) (zSc σ) (zLk σ) kd pa b c) n (zX σ 25) i)))) (by rw [zX_self, zuX_uX, fi_s rfl]) ?_
          refine Z.iincN B dX1_agreeing_42 (by decide) (a := j) rfl (L' := [(0, .ref 20), (1, .ref q), (2, .int t), (3, .int (ct (fun b => decide (gI ((fun b c => shW (zX σ 21) (zSc σ) (zLk σ) kd pa b c) b) n = t)) i)), (4, .int (nI i)), (5, .int (nI (j + 1)))]) rfl ?_
          refine Z.goto B dX1_agreeing_45 (tgt := 17) rfl ?_
          exact jh (j + 1) (by omega) (by omega)
      have h1 := hloop17 0 (Nat.zero_le _)
      rw [fi_0] at h1
      exact h1
  have h0 := hloop5 0 (Nat.zero_le _)
  have e0 : fl (fun b c => shW (zX σ 21) (zSc σ) (zLk σ) kd pa b c) n (zX σ 25) 0 = zX σ 25 := rfl
  rw [e0, zuX_id] at h0
  exact h0

theorem t_X1_turnedBy {σ : zSt} {n a y : Nat} (H : zHd σ n a y) {od : Nat → Nat} (ho : zOd σ a od) {q kd pa num : Nat} (hw : zWo σ q kd pa num)  : Dt mX1_turnedBy [.ref 20, .ref q] σ (some (.int (tn n (fun b c => (tf (zX σ 21) (zSc σ) (zLk σ) (zDr σ) true kd pa od a) c - shW (zX σ 21) (zSc σ) (zLk σ) kd pa b c) a))) (zuX (zuX σ 26 (fi n (tf (zX σ 21) (zSc σ) (zLk σ) (zDr σ) true kd pa od a) (zX σ 26))) 25 (fl (fun b c => (tf (zX σ 21) (zSc σ) (zLk σ) (zDr σ) true kd pa od a) c - shW (zX σ 21) (zSc σ) (zLk σ) kd pa b c) n (zX σ 25) a)) := by
  obtain ⟨hl, hn, hn8, ha, ha4, hy, hy8⟩ := id H
  refine Dt.of (by decide) (Nat.le_of_ble_eq_true rfl) fun κ B Rt => ?_
  show Z κ 0 0 σ 0 [(0, .ref 20), (1, .ref q)] []
  refine Z.aload_n B dX1_turnedBy_0 (v := .ref 20) rfl rfl ?_
  refine Z.aload_n B dX1_turnedBy_1 (v := .ref 20) rfl rfl ?_
  refine Z.getR (σ := σ) B fX1_34_1 dX1_turnedBy_2 (hl.n (k := 20) (by decide)) (hl.k (k := 20) (by decide)) (by decide) (j := 26) (hl.r (k := 20) (f := 10) (by decide) (by decide)) ?_
  refine Z.aload_n B dX1_turnedBy_5 (v := .ref q) rfl rfl ?_
  refine Z.iconst B dX1_turnedBy_6 (v := nI 1) rfl ?_
  have etrue : nI 1 = zb true := rfl
  refine Z.callVN (σ := σ) B (M' := mX1_fillTotals) (as := [.ref 26, .ref q, .int (zb true)]) (st := []) dX1_turnedBy_7 wX1_fillTotals iX1_fillTotals sX1_fillTotals kX1_121 (hl.n (k := 20) (by decide)) (hl.k (k := 20) (by decide)) (by decide) rfl rfl (t_X1_fillTotals_26 (σ := σ) H ho hw (sl := true)) rfl rfl (by decide) (by decide) (Nat.le_of_ble_eq_true rfl) (by decide) (by decide) ?_
  refine Z.eqσ (τ := (zuX σ 26 (fi n (tf (zX σ 21) (zSc σ) (zLk σ) (zDr σ) true kd pa od a) (zX σ 26)))) rfl ?_
  refine Z.iconst B dX1_turnedBy_10 (v := nI 0) rfl ?_
  refine Z.istore_n B dX1_turnedBy_11 (by decide) (L' := [(0, .ref 20), (1, .ref q), (2, .int (nI 0))]) rfl ?_
  refine Z.iconst B dX1_turnedBy_12 (v := nI 0) rfl ?_
  refine Z.istore_n B dX1_turnedBy_13 (by decide) (L' := [(0, .ref 20), (1, .ref q), (2, .int (nI 0)), (3, .int (nI 0))]) rfl ?_
  have hloop14 : ∀ i : Nat, i ≤ a → Z κ 0 0 (zuX (zuX σ 26 (fi n (tf (zX σ 21) (zSc σ) (zLk σ) (zDr σ) true kd pa od a) (zX σ 26))) 25 (fl (fun b c => (tf (zX σ 21) (zSc σ) (zLk σ) (zDr σ) true kd pa od a) c - shW (zX σ 21) (zSc σ) (zLk σ) kd pa b c) n (zX σ 25) i)) 14 [(0, .ref 20), (1, .ref q), (2, .int (tn n (fun b c => (tf (zX σ 21) (zSc σ) (zLk σ) (zDr σ) true kd pa od a) c - shW (zX σ 21) (zSc σ) (zLk σ) kd pa b c) i)), (3, .int (nI i))] [] := by
    refine z_loop (fun i => a - i) (fun i ih hi => ?_)
    refine Z.iload_n B dX1_turnedBy_14 (x := nI i) rfl ?_
    refine Z.aload_n B dX1_turnedBy_15 (v := .ref 20) rfl rfl ?_
    refine Z.getI (σ := (zuX (zuX σ 26 (fi n (tf (zX σ 21) (zSc σ) (zLk σ) (zDr σ) true kd pa od a) (zX σ 26))) 25 (fl (fun b c => (tf (zX σ 21) (zSc σ) (zLk σ) (zDr σ) true kd pa od a) c - shW (zX σ 21) (zSc σ) (zLk σ) kd pa b c) n (zX σ 25) i))) B fX1_41_1 dX1_turnedBy_16 (hl.n (k := 20) (by decide)) (hl.k (k := 20) (by decide)) (by decide) (v := nI a) ha ?_
    refine Z.icmp_geN B dX1_turnedBy_19 (tgt := 92) rfl (by omega) (by omega) (fun h19 => ?_) (fun h19 => ?_)
    · skip
      obtain rfl : a = i := by omega
      refine Z.iload_n B dX1_turnedBy_92 (x := tn n (fun b c => (tf (zX σ 21) (zSc σ) (zLk σ) (zDr σ) true kd pa od a) c - shW (zX σ 21) (zSc σ) (zLk σ) kd pa b c) a) rfl ?_
      refine Z.iret B Rt dX1_turnedBy_93 (ty := .int) rfl rfl (by decide) (by decide) ?_
      exact ⟨rfl, rfl⟩
    · skip
      refine Z.iconst B dX1_turnedBy_22 (v := nI 0) rfl ?_
      refine Z.istore B dX1_turnedBy_23 (by decide) (L' := [(0, .ref 20), (1, .ref q), (2, .int (tn n (fun b c => (tf (zX σ 21) (zSc σ) (zLk σ) (zDr σ) true kd pa od a) c - shW (zX σ 21) (zSc σ) (zLk σ) kd pa b c) i)), (3, .int (nI i)), (4, .int (nI 0))]) rfl ?_
      have hloop25 : ∀ j : Nat, j ≤ n → Z κ 0 0 (zuX (zuX σ 26 (fi n (tf (zX σ 21) (zSc σ) (zLk σ) (zDr σ) true kd pa od a) (zX σ 26))) 25 (fi j ((fun b c => (tf (zX σ 21) (zSc σ) (zLk σ) (zDr σ) true kd pa od a) c - shW (zX σ 21) (zSc σ) (zLk σ) kd pa b c) i) (fl (fun b c => (tf (zX σ 21) (zSc σ) (zLk σ) (zDr σ) true kd pa od a) c - shW (zX σ 21) (zSc σ) (zLk σ) kd pa b c) n (zX σ 25) i))) 25 [(0, .ref 20), (1, .ref q), (2, .int (tn n (fun b c => (tf (zX σ 21) (zSc σ) (zLk σ) (zDr σ) true kd pa od a) c - shW (zX σ 21) (zSc σ) (zLk σ) kd pa b c) i)), (3, .int (nI i)), (4, .int (nI j))] [] := by
        refine z_loop (fun j => n - j) (fun j jh hj => ?_)
        refine Z.iload B dX1_turnedBy_25 (x := nI j) rfl ?_
        refine Z.aload_n B dX1_turnedBy_27 (v := .ref 20) rfl rfl ?_
        refine Z.getI (σ := (zuX (zuX σ 26 (fi n (tf (zX σ 21) (zSc σ) (zLk σ) (zDr σ) true kd pa od a) (zX σ 26))) 25 (fi j ((fun b c => (tf (zX σ 21) (zSc σ) (zLk σ) (zDr σ) true kd pa od a) c - shW (zX σ 21) (zSc σ) (zLk σ) kd pa b c) i) (fl (fun b c => (tf (zX σ 21) (zSc σ) (zLk σ) (zDr σ) true kd pa od a) c - shW (zX σ 21) (zSc σ) (zLk σ) kd pa b c) n (zX σ 25) i)))) B fX1_37_1 dX1_turnedBy_28 (hl.n (k := 20) (by decide)) (hl.k (k := 20) (by decide)) (by decide) (v := nI n) hn ?_
        refine Z.icmp_geN B dX1_turnedBy_31 (tgt := 63) rfl (by omega) (by omega) (fun h31 => ?_) (fun h31 => ?_)
        · skip
          obtain rfl : n = j := by omega
          refine Z.aload_n B dX1_turnedBy_63 (v := .ref 20) rfl rfl ?_
          refine Z.callVI (σ := (zuX (zuX σ 26 (fi n (tf (zX σ 21) (zSc σ) (zLk σ) (zDr σ) true kd pa od a) (zX σ 26))) 25 (fi n ((fun b c => (tf (zX σ 21) (zSc σ) (zLk σ) (zDr σ) true kd pa od a) c - shW (zX σ 21) (zSc σ) (zLk σ) kd pa b c) i) (fl (fun b c => (tf (zX σ 21) (zSc σ) (zLk σ) (zDr σ) true kd pa od a) c - shW (zX σ 21) (zSc σ) (zLk σ) kd pa b c) n (zX σ 25) i)))) B (M' := mX1_greatest) (as := []) (st := []) (v := .int (gI (fi n ((fun b c => (tf (zX σ 21) (zSc σ) (zLk σ) (zDr σ) true kd pa od a) c - shW (zX σ 21) (zSc σ) (zLk σ) kd pa b c) i) (fl (fun b c => (tf (zX σ 21) (zSc σ) (zLk σ) (zDr σ) true kd pa od a) c - shW (zX σ 21) (zSc σ) (zLk σ) kd pa b c) n (zX σ 25) i)) n)) dX1_turnedBy_64 wX1_greatest iX1_greatest sX1_greatest kX1_114 (hl.n (k := 20) (by decide)) (hl.k (k := 20) (by decide)) (by decide) rfl rfl (t_X1_greatest (σ := (zuX (zuX σ 26 (fi n (tf (zX σ 21) (zSc σ) (zLk σ) (zDr σ) true kd pa od a) (zX σ 26))) 25 (fi n ((fun b c => (tf (zX σ 21) (zSc σ) (zLk σ) (zDr σ) true kd pa od a) c - shW (zX σ 21) (zSc σ) (zLk σ) kd pa b c) i) (fl (fun b c => (tf (zX σ 21) (zSc σ) (zLk σ) (zDr σ) true kd pa od a) c - shW (zX σ 21) (zSc σ) (zLk σ) kd pa b c) n (zX σ 25) i)))) H) rfl rfl (by decide) (by decide) (Nat.le_of_ble_eq_true rfl) (by decide) (by decide) ?_
          refine Z.istore B dX1_turnedBy_67 (by decide) (L' := [(0, .ref 20), (1, .ref q), (2, .int (tn n (fun b c => (tf (zX σ 21) (zSc σ) (zLk σ) (zDr σ) true kd pa od a) c - shW (zX σ 21) (zSc σ) (zLk σ) kd pa b c) i)), (3, .int (nI i)), (4, .int (gI (fi n ((fun b c => (tf (zX σ 21) (zSc σ) (zLk σ) (zDr σ) true kd pa od a) c - shW (zX σ 21) (zSc σ) (zLk σ) kd pa b c) i) (fl (fun b c => (tf (zX σ 21) (zSc σ) (zLk σ) (zDr σ) true kd pa od a) c - shW (zX σ 21) (zSc σ) (zLk σ) kd pa b c) n (zX σ 25) i)) n))]) rfl ?_
          refine Z.iload_n B dX1_turnedBy_69 (x := tn n (fun b c => (tf (zX σ 21) (zSc σ) (zLk σ) (zDr σ) true kd pa od a) c - shW (zX σ 21) (zSc σ) (zLk σ) kd pa b c) i) rfl ?_
          refine Z.iload B dX1_turnedBy_70 (x := gI (fi n ((fun b c => (tf (zX σ 21) (zSc σ) (zLk σ) (zDr σ) true kd pa od a) c - shW (zX σ 21) (zSc σ) (zLk σ) kd pa b c) i) (fl (fun b c => (tf (zX σ 21) (zSc σ) (zLk σ) (zDr σ) true kd pa od a) c - shW (zX σ 21) (zSc σ) (zLk σ) kd pa b c) n (zX σ 25) i)) n) rfl ?_
          refine Z.iconst B dX1_turnedBy_72 (v := (-1)) rfl ?_
          refine Z.icmp_ne B dX1_turnedBy_73 (tgt := 80) rfl (fun h73 => ?_) (fun h73 => ?_)
          · skip
            refine Z.iconst B dX1_turnedBy_80 (v := nI 1) rfl ?_
            refine Z.iload B dX1_turnedBy_81 (x := gI (fi n ((fun b c => (tf (zX σ 21) (zSc σ) (zLk σ) (zDr σ) true kd pa od a) c - shW (zX σ 21) (zSc σ) (zLk σ) kd pa b c) i) (fl (fun b c => (tf (zX σ 21) (zSc σ) (zLk σ) (zDr σ) true kd pa od a) c - shW (zX σ 21) (zSc σ) (zLk σ) kd pa b c) n (zX σ 25) i)) n) rfl ?_
            refine Z.ishl B dX1_turnedBy_83 ?_
            refine Z.ior B dX1_turnedBy_84 ?_
            refine Z.istore_n B dX1_turnedBy_85 (by decide) (L' := [(0, .ref 20), (1, .ref q), (2, .int ((tn n (fun b c => (tf (zX σ 21) (zSc σ) (zLk σ) (zDr σ) true kd pa od a) c - shW (zX σ 21) (zSc σ) (zLk σ) kd pa b c) i) ||| ((nI 1) <<< ((gI (fi n ((fun b c => (tf (zX σ 21) (zSc σ) (zLk σ) (zDr σ) true kd pa od a) c - shW (zX σ 21) (zSc σ) (zLk σ) kd pa b c) i) (fl (fun b c => (tf (zX σ 21) (zSc σ) (zLk σ) (zDr σ) true kd pa od a) c - shW (zX σ 21) (zSc σ) (zLk σ) kd pa b c) n (zX σ 25) i)) n) &&& 31)))), (3, .int (nI i)), (4, .int (gI (fi n ((fun b c => (tf (zX σ 21) (zSc σ) (zLk σ) (zDr σ) true kd pa od a) c - shW (zX σ 21) (zSc σ) (zLk σ) kd pa b c) i) (fl (fun b c => (tf (zX σ 21) (zSc σ) (zLk σ) (zDr σ) true kd pa od a) c - shW (zX σ 21) (zSc σ) (zLk σ) kd pa b c) n (zX σ 25) i)) n))]) rfl ?_
            refine Z.iincN B dX1_turnedBy_86 (by decide) (a := i) rfl (L' := [(0, .ref 20), (1, .ref q), (2, .int ((tn n (fun b c => (tf (zX σ 21) (zSc σ) (zLk σ) (zDr σ) true kd pa od a) c - shW (zX σ 21) (zSc σ) (zLk σ) kd pa b c) i) ||| ((nI 1) <<< ((gI (fi n ((fun b c => (tf (zX σ 21) (zSc σ) (zLk σ) (zDr σ) true kd pa od a) c - shW (zX σ 21) (zSc σ) (zLk σ) kd pa b c) i) (fl (fun b c => (tf (zX σ 21) (zSc σ) (zLk σ) (zDr σ) true kd pa od a) c - shW (zX σ 21) (zSc σ) (zLk σ) kd pa b c) n (zX σ 25) i)) n) &&& 31)))), (3, .int (nI (i + 1))), (4, .int (gI (fi n ((fun b c => (tf (zX σ 21) (zSc σ) (zLk σ) (zDr σ) true kd pa od a) c - shW (zX σ 21) (zSc σ) (zLk σ) kd pa b c) i) (fl (fun b c => (tf (zX σ 21) (zSc σ) (zLk σ) (zDr σ) true kd pa od a) c - shW (zX σ 21) (zSc σ) (zLk σ) kd pa b c) n (zX σ 25) i)) n))]) rfl ?_
            refine Z.goto B dX1_turnedBy_89 (tgt := 14) rfl ?_
            refine Z.drop 4 (L' := [(0, .ref 20), (1, .ref q), (2, .int ((tn n (fun b c => (tf (zX σ 21) (zSc σ) (zLk σ) (zDr σ) true kd pa od a) c - shW (zX σ 21) (zSc σ) (zLk σ) kd pa b c) i) ||| ((nI 1) <<< ((gI (fi n ((fun b c => (tf (zX σ 21) (zSc σ) (zLk σ) (zDr σ) true kd pa od a) c - shW (zX σ 21) (zSc σ) (zLk σ) kd pa b c) i) (fl (fun b c => (tf (zX σ 21) (zSc σ) (zLk σ) (zDr σ) true kd pa od a) c - shW (zX σ 21) (zSc σ) (zLk σ) kd pa b c) n (zX σ 25) i)) n) &&& 31)))), (3, .int (nI (i + 1)))]) rfl ?_
            have e := ih (i + 1) (by omega) (by omega)
            rw [← fl_s] at e
            simp only [tn] at e
            rw [gI_fi] at h73
            first | (rw [if_pos h73] at e; exact e) | (rw [if_neg h73, ← gI_fi] at e; exact e)
          · skip
            refine Z.iconst B dX1_turnedBy_76 (v := nI 0) rfl ?_
            refine Z.goto B dX1_turnedBy_77 (tgt := 84) rfl ?_
            refine Z.ior B dX1_turnedBy_84 ?_
            refine Z.istore_n B dX1_turnedBy_85 (by decide) (L' := [(0, .ref 20), (1, .ref q), (2, .int ((tn n (fun b c => (tf (zX σ 21) (zSc σ) (zLk σ) (zDr σ) true kd pa od a) c - shW (zX σ 21) (zSc σ) (zLk σ) kd pa b c) i) ||| (nI 0))), (3, .int (nI i)), (4, .int (gI (fi n ((fun b c => (tf (zX σ 21) (zSc σ) (zLk σ) (zDr σ) true kd pa od a) c - shW (zX σ 21) (zSc σ) (zLk σ) kd pa b c) i) (fl (fun b c => (tf (zX σ 21) (zSc σ) (zLk σ) (zDr σ) true kd pa od a) c - shW (zX σ 21) (zSc σ) (zLk σ) kd pa b c) n (zX σ 25) i)) n))]) rfl ?_
            refine Z.iincN B dX1_turnedBy_86 (by decide) (a := i) rfl (L' := [(0, .ref 20), (1, .ref q), (2, .int ((tn n (fun b c => (tf (zX σ 21) (zSc σ) (zLk σ) (zDr σ) true kd pa od a) c - shW (zX σ 21) (zSc σ) (zLk σ) kd pa b c) i) ||| (nI 0))), (3, .int (nI (i + 1))), (4, .int (gI (fi n ((fun b c => (tf (zX σ 21) (zSc σ) (zLk σ) (zDr σ) true kd pa od a) c - shW (zX σ 21) (zSc σ) (zLk σ) kd pa b c) i) (fl (fun b c => (tf (zX σ 21) (zSc σ) (zLk σ) (zDr σ) true kd pa od a) c - shW (zX σ 21) (zSc σ) (zLk σ) kd pa b c) n (zX σ 25) i)) n))]) rfl ?_
            refine Z.goto B dX1_turnedBy_89 (tgt := 14) rfl ?_
            refine Z.drop 4 (L' := [(0, .ref 20), (1, .ref q), (2, .int ((tn n (fun b c => (tf (zX σ 21) (zSc σ) (zLk σ) (zDr σ) true kd pa od a) c - shW (zX σ 21) (zSc σ) (zLk σ) kd pa b c) i) ||| (nI 0))), (3, .int (nI (i + 1)))]) rfl ?_
            have e := ih (i + 1) (by omega) (by omega)
            rw [← fl_s] at e
            simp only [tn] at e
            rw [gI_fi] at h73
            first | (rw [if_pos h73] at e; exact e) | (rw [if_neg h73, ← gI_fi] at e; exact e)
        · skip
          refine Z.aload_n B dX1_turnedBy_34 (v := .ref 20) rfl rfl ?_
          refine Z.getR (σ := (zuX (zuX σ 26 (fi n (tf (zX σ 21) (zSc σ) (zLk σ) (zDr σ) true kd pa od a) (zX σ 26))) 25 (fi j ((fun b c => (tf (zX σ 21) (zSc σ) (zLk σ) (zDr σ) true kd pa od a) c - shW (zX σ 21) (zSc σ) (zLk σ) kd pa b c) i) (fl (fun b c => (tf (zX σ 21) (zSc σ) (zLk σ) (zDr σ) true kd pa od a) c - shW (zX σ 21) (zSc σ) (zLk σ) kd pa b c) n (zX σ 25) i)))) B fX1_31_1 dX1_turnedBy_35 (hl.n (k := 20) (by decide)) (hl.k (k := 20) (by decide)) (by decide) (j := 25) (hl.r (k := 20) (f := 9) (by decide) (by decide)) ?_
          refine Z.iload B dX1_turnedBy_38 (x := nI j) rfl ?_
          refine Z.aload_n B dX1_turnedBy_40 (v := .ref 20) rfl rfl ?_
          refine Z.getR (σ := (zuX (zuX σ 26 (fi n (tf (zX σ 21) (zSc σ) (zLk σ) (zDr σ) true kd pa od a) (zX σ 26))) 25 (fi j ((fun b c => (tf (zX σ 21) (zSc σ) (zLk σ) (zDr σ) true kd pa od a) c - shW (zX σ 21) (zSc σ) (zLk σ) kd pa b c) i) (fl (fun b c => (tf (zX σ 21) (zSc σ) (zLk σ) (zDr σ) true kd pa od a) c - shW (zX σ 21) (zSc σ) (zLk σ) kd pa b c) n (zX σ 25) i)))) B fX1_34_1 dX1_turnedBy_41 (hl.n (k := 20) (by decide)) (hl.k (k := 20) (by decide)) (by decide) (j := 26) (hl.r (k := 20) (f := 10) (by decide) (by decide)) ?_
          refine Z.iload B dX1_turnedBy_44 (x := nI j) rfl ?_
          refine Z.iald (σ := (zuX (zuX σ 26 (fi n (tf (zX σ 21) (zSc σ) (zLk σ) (zDr σ) true kd pa od a) (zX σ 26))) 25 (fi j ((fun b c => (tf (zX σ 21) (zSc σ) (zLk σ) (zDr σ) true kd pa od a) c - shW (zX σ 21) (zSc σ) (zLk σ) kd pa b c) i) (fl (fun b c => (tf (zX σ 21) (zSc σ) (zLk σ) (zDr σ) true kd pa od a) c - shW (zX σ 21) (zSc σ) (zLk σ) kd pa b c) n (zX σ 25) i)))) B dX1_turnedBy_46 (n := 8) (hl.n (k := 26) (by decide)) (hl.k (k := 26) (by decide)) (hl.l (k := 26) (by decide)) (by decide) (j := j) rfl (by omega) (v := (tf (zX σ 21) (zSc σ) (zLk σ) (zDr σ) true kd pa od a) j) (fi_at (by omega)) ?_
          refine Z.aload_n B dX1_turnedBy_47 (v := .ref q) rfl rfl ?_
          refine Z.aload_n B dX1_turnedBy_48 (v := .ref 20) rfl rfl ?_
          refine Z.iload_n B dX1_turnedBy_49 (x := nI i) rfl ?_
          refine Z.iload B dX1_turnedBy_50 (x := nI j) rfl ?_
          refine Z.shown (σ := (zuX (zuX σ 26 (fi n (tf (zX σ 21) (zSc σ) (zLk σ) (zDr σ) true kd pa od a) (zX σ 26))) 25 (fi j ((fun b c => (tf (zX σ 21) (zSc σ) (zLk σ) (zDr σ) true kd pa od a) c - shW (zX σ 21) (zSc σ) (zLk σ) kd pa b c) i) (fl (fun b c => (tf (zX σ 21) (zSc σ) (zLk σ) (zDr σ) true kd pa od a) c - shW (zX σ 21) (zSc σ) (zLk σ) kd pa b c) n (zX σ 25) i)))) B dX1_turnedBy_52 kX1_102 (b := i) (c := j) H ((hw.uX (by decide)).uX (by decide)) (by omega) (by omega) (by decide) (Nat.le_of_ble_eq_true rfl) (by decide) (by decide) ?_
          show Z κ 0 0 (zuX (zuX σ 26 (fi n (tf (zX σ 21) (zSc σ) (zLk σ) (zDr σ) true kd pa od a) (zX σ 26))) 25 (fi j ((fun b c => (tf (zX σ 21) (zSc σ) (zLk σ) (zDr σ) true kd pa od a) c - shW (zX σ 21) (zSc σ) (zLk σ) kd pa b c) i) (fl (fun b c => (tf (zX σ 21) (zSc σ) (zLk σ) (zDr σ) true kd pa od a) c - shW (zX σ 21) (zSc σ) (zLk σ) kd pa b c) n (zX σ 25) i))) 55 [(0, .ref 20), (1, .ref q), (2, .int (tn n (fun b c => (tf (zX σ 21) (zSc σ) (zLk σ) (zDr σ) true kd pa od a) c - shW (zX σ 21) (zSc σ) (zLk σ) kd pa b c) i)), (3, .int (nI i)), (4, .int (nI j))] [.int (shW (zX σ 21) (zSc σ) (zLk σ) kd pa i j), .int ((tf (zX σ 21) (zSc σ) (zLk σ) (zDr σ) true kd pa od a) j), .int (nI j), .ref 25]
          refine Z.isub B dX1_turnedBy_55 ?_
          refine Z.iast (σ := (zuX (zuX σ 26 (fi n (tf (zX σ 21) (zSc σ) (zLk σ) (zDr σ) true kd pa od a) (zX σ 26))) 25 (fi j ((fun b c => (tf (zX σ 21) (zSc σ) (zLk σ) (zDr σ) true kd pa od a) c - shW (zX σ 21) (zSc σ) (zLk σ) kd pa b c) i) (fl (fun b c => (tf (zX σ 21) (zSc σ) (zLk σ) (zDr σ) true kd pa od a) c - shW (zX σ 21) (zSc σ) (zLk σ) kd pa b c) n (zX σ 25) i)))) B dX1_turnedBy_56 (n := 8) (hl.n (k := 25) (by decide)) (hl.k (k := 25) (by decide)) (hl.l (k := 25) (by decide)) (by decide) (j := j) rfl (by omega) (τ := (zuX (zuX σ 26 (fi n (tf (zX σ 21) (zSc σ) (zLk σ) (zDr σ) true kd pa od a) (zX σ 26))) 25 (fi (j + 1) ((fun b c => (tf (zX σ 21) (zSc σ) (zLk σ) (zDr σ) true kd pa od a) c - shW (zX σ 21) (zSc σ) (zLk σ) kd pa b c) i) (fl (fun b c => (tf (zX σ 21) (zSc σ) (zLk σ) (zDr σ) true kd pa od a) c - shW (zX σ 21) (zSc σ) (zLk σ) kd pa b c) n (zX σ 25) i)))) (by rw [zX_self, zuX_uX, fi_s rfl]) ?_
          refine Z.iincN B dX1_turnedBy_57 (by decide) (a := j) rfl (L' := [(0, .ref 20), (1, .ref q), (2, .int (tn n (fun b c => (tf (zX σ 21) (zSc σ) (zLk σ) (zDr σ) true kd pa od a) c - shW (zX σ 21) (zSc σ) (zLk σ) kd pa b c) i)), (3, .int (nI i)), (4, .int (nI (j + 1)))]) rfl ?_
          refine Z.goto B dX1_turnedBy_60 (tgt := 25) rfl ?_
          exact jh (j + 1) (by omega) (by omega)
      have h1 := hloop25 0 (Nat.zero_le _)
      rw [fi_0] at h1
      exact h1
  have h0 := hloop14 0 (Nat.zero_le _)
  have e0 : fl (fun b c => (tf (zX σ 21) (zSc σ) (zLk σ) (zDr σ) true kd pa od a) c - shW (zX σ 21) (zSc σ) (zLk σ) kd pa b c) n (zX σ 25) 0 = zX (zuX σ 26 (fi n (tf (zX σ 21) (zSc σ) (zLk σ) (zDr σ) true kd pa od a) (zX σ 26))) 25 := rfl
  rw [e0, zuX_id] at h0
  exact h0

theorem t_X1_sign {σ : zSt} {x y : Int32} : Dt mX1_sign [.int x, .int y] σ (some (.int (sg x y))) σ := by
  refine Dt.of (by decide) (Nat.le_of_ble_eq_true rfl) fun κ B Rt => ?_
  show Z κ 0 0 σ 0 [(0, .int x), (1, .int y)] []
  refine Z.iload_n B dX1_sign_0 (x := x) rfl ?_
  refine Z.iload_n B dX1_sign_1 (x := y) rfl ?_
  refine Z.icmp_ne B dX1_sign_2 (tgt := 7) rfl (fun h2 => ?_) (fun h2 => ?_)
  · skip
    refine Z.iload_n B dX1_sign_7 (x := x) rfl ?_
    refine Z.iload_n B dX1_sign_8 (x := y) rfl ?_
    refine Z.icmp_le B dX1_sign_9 (tgt := 16) rfl (fun h9 => ?_) (fun h9 => ?_)
    · skip
      refine Z.iconst B dX1_sign_16 (v := (-1)) rfl ?_
      refine Z.iret B Rt dX1_sign_17 (ty := .int) rfl rfl (by decide) (by decide) ?_
      first | exact ⟨by unfold sg; rw [if_neg h2, if_neg (by rw [zlt_iff]; rw [zle_iff] at h9; omega)], rfl⟩ | exact ⟨by unfold sg; rw [if_neg h2, if_pos (by rw [zlt_iff]; rw [zle_iff] at h9; omega)], rfl⟩
    · skip
      refine Z.iconst B dX1_sign_12 (v := nI 1) rfl ?_
      refine Z.goto B dX1_sign_13 (tgt := 17) rfl ?_
      refine Z.iret B Rt dX1_sign_17 (ty := .int) rfl rfl (by decide) (by decide) ?_
      first | exact ⟨by unfold sg; rw [if_neg h2, if_neg (by rw [zlt_iff]; rw [zle_iff] at h9; omega)], rfl⟩ | exact ⟨by unfold sg; rw [if_neg h2, if_pos (by rw [zlt_iff]; rw [zle_iff] at h9; omega)], rfl⟩
  · skip
    refine Z.iconst B dX1_sign_5 (v := nI 0) rfl ?_
    refine Z.iret B Rt dX1_sign_6 (ty := .int) rfl rfl (by decide) (by decide) ?_
    exact ⟨by unfold sg; rw [if_pos h2], rfl⟩

theorem t_X1_pairTells {σ : zSt} {n a y : Nat} (H : zHd σ n a y) {i j : Nat} (hi : i < n) (hj : j < n) : Dt mX1_pairTells [.ref 20, .int (nI i), .int (nI j)] σ (some (.int (pt (zX σ 21) (zX σ 25) i j))) σ := by
  obtain ⟨hl, hn, hn8, ha, ha4, hy, hy8⟩ := id H
  refine Dt.of (by decide) (Nat.le_of_ble_eq_true rfl) fun κ B Rt => ?_
  show Z κ 0 0 σ 0 [(0, .ref 20), (1, .int (nI i)), (2, .int (nI j))] []
  refine Z.aload_n B dX1_pairTells_0 (v := .ref 20) rfl rfl ?_
  refine Z.iload_n B dX1_pairTells_1 (x := nI i) rfl ?_
  refine Z.bipush B dX1_pairTells_2 (v := nI 6) rfl ?_
  refine Z.callVI (σ := σ) B (M' := mX1_comerNumber) (as := [.int (nI i), .int (nI 6)]) (st := []) (v := .int (cn (zX σ 21) i 6)) dX1_pairTells_4 wX1_comerNumber iX1_comerNumber sX1_comerNumber kX1_95 (hl.n (k := 20) (by decide)) (hl.k (k := 20) (by decide)) (by decide) rfl rfl (t_X1_comerNumber (σ := σ) H hi (by decide)) rfl rfl (by decide) (by decide) (Nat.le_of_ble_eq_true rfl) (by decide) (by decide) ?_
  refine Z.aload_n B dX1_pairTells_7 (v := .ref 20) rfl rfl ?_
  refine Z.iload_n B dX1_pairTells_8 (x := nI j) rfl ?_
  refine Z.bipush B dX1_pairTells_9 (v := nI 6) rfl ?_
  refine Z.callVI (σ := σ) B (M' := mX1_comerNumber) (as := [.int (nI j), .int (nI 6)]) (st := [.int (cn (zX σ 21) i 6)]) (v := .int (cn (zX σ 21) j 6)) dX1_pairTells_11 wX1_comerNumber iX1_comerNumber sX1_comerNumber kX1_95 (hl.n (k := 20) (by decide)) (hl.k (k := 20) (by decide)) (by decide) rfl rfl (t_X1_comerNumber (σ := σ) H hj (by decide)) rfl rfl (by decide) (by decide) (Nat.le_of_ble_eq_true rfl) (by decide) (by decide) ?_
  refine Z.callSI (σ := σ) B (M' := mX1_sign) (as := [.int (cn (zX σ 21) i 6), .int (cn (zX σ 21) j 6)]) (st := []) (v := .int (sg (cn (zX σ 21) i 6) (cn (zX σ 21) j 6))) dX1_pairTells_14 wX1_sign iX1_sign kX1_128 (t_X1_sign (σ := σ)) rfl rfl (by decide) (by decide) (Nat.le_of_ble_eq_true rfl) (by decide) (by decide) ?_
  refine Z.aload_n B dX1_pairTells_17 (v := .ref 20) rfl rfl ?_
  refine Z.getR (σ := σ) B fX1_31_1 dX1_pairTells_18 (hl.n (k := 20) (by decide)) (hl.k (k := 20) (by decide)) (by decide) (j := 25) (hl.r (k := 20) (f := 9) (by decide) (by decide)) ?_
  refine Z.iload_n B dX1_pairTells_21 (x := nI i) rfl ?_
  refine Z.iald (σ := σ) B dX1_pairTells_22 (n := 8) (hl.n (k := 25) (by decide)) (hl.k (k := 25) (by decide)) (hl.l (k := 25) (by decide)) (by decide) (j := i) rfl (by omega) (v := (zX σ 25 i)) rfl ?_
  refine Z.aload_n B dX1_pairTells_23 (v := .ref 20) rfl rfl ?_
  refine Z.getR (σ := σ) B fX1_31_1 dX1_pairTells_24 (hl.n (k := 20) (by decide)) (hl.k (k := 20) (by decide)) (by decide) (j := 25) (hl.r (k := 20) (f := 9) (by decide) (by decide)) ?_
  refine Z.iload_n B dX1_pairTells_27 (x := nI j) rfl ?_
  refine Z.iald (σ := σ) B dX1_pairTells_28 (n := 8) (hl.n (k := 25) (by decide)) (hl.k (k := 25) (by decide)) (hl.l (k := 25) (by decide)) (by decide) (j := j) rfl (by omega) (v := (zX σ 25 j)) rfl ?_
  refine Z.callSI (σ := σ) B (M' := mX1_sign) (as := [.int (zX σ 25 i), .int (zX σ 25 j)]) (st := [.int (sg (cn (zX σ 21) i 6) (cn (zX σ 21) j 6))]) (v := .int (sg (zX σ 25 i) (zX σ 25 j))) dX1_pairTells_29 wX1_sign iX1_sign kX1_128 (t_X1_sign (σ := σ)) rfl rfl (by decide) (by decide) (Nat.le_of_ble_eq_true rfl) (by decide) (by decide) ?_
  refine Z.imul B dX1_pairTells_32 ?_
  refine Z.iret B Rt dX1_pairTells_33 (ty := .int) rfl rfl (by decide) (by decide) ?_
  exact ⟨rfl, rfl⟩

theorem t_X1_tellsByNumbers {σ : zSt} {n a y : Nat} (H : zHd σ n a y)  : Dt mX1_tellsByNumbers [.ref 20] σ (some (.int (tO (pt (zX σ 21) (zX σ 25)) n))) σ := by
  obtain ⟨hl, hn, hn8, ha, ha4, hy, hy8⟩ := id H
  refine Dt.of (by decide) (Nat.le_of_ble_eq_true rfl) fun κ B Rt => ?_
  show Z κ 0 0 σ 0 [(0, .ref 20)] []
  refine Z.iconst B dX1_tellsByNumbers_0 (v := nI 0) rfl ?_
  refine Z.istore_n B dX1_tellsByNumbers_1 (by decide) (L' := [(0, .ref 20), (1, .int (nI 0))]) rfl ?_
  refine Z.iconst B dX1_tellsByNumbers_2 (v := nI 1) rfl ?_
  refine Z.istore_n B dX1_tellsByNumbers_3 (by decide) (L' := [(0, .ref 20), (1, .int (nI 0)), (2, .int (nI 1))]) rfl ?_
  have hloop4 : ∀ j : Nat, (j ≤ n ∨ j = 1) ∧ 1 ≤ j → Z κ 0 0 σ 4 [(0, .ref 20), (1, .int (tO (pt (zX σ 21) (zX σ 25)) j)), (2, .int (nI j))] [] := by
    refine z_loop (fun j => n - j) (fun j ih hj => ?_)
    refine Z.iload_n B dX1_tellsByNumbers_4 (x := nI j) rfl ?_
    refine Z.aload_n B dX1_tellsByNumbers_5 (v := .ref 20) rfl rfl ?_
    refine Z.getI (σ := σ) B fX1_37_1 dX1_tellsByNumbers_6 (hl.n (k := 20) (by decide)) (hl.k (k := 20) (by decide)) (by decide) (v := nI n) hn ?_
    refine Z.icmp_geN B dX1_tellsByNumbers_9 (tgt := 40) rfl (by omega) (by omega) (fun h9 => ?_) (fun h9 => ?_)
    · skip
      have hfin : tO (pt (zX σ 21) (zX σ 25)) j = tO (pt (zX σ 21) (zX σ 25)) n := by
        rcases (by omega : j = n ∨ (n = 0 ∧ j = 1)) with e | ⟨e1, e2⟩
        · rw [e]
        · rw [e1, e2]; rfl
      refine Z.iload_n B dX1_tellsByNumbers_40 (x := tO (pt (zX σ 21) (zX σ 25)) j) rfl ?_
      refine Z.iret B Rt dX1_tellsByNumbers_41 (ty := .int) rfl rfl (by decide) (by decide) ?_
      exact ⟨by rw [hfin], rfl⟩
    · skip
      refine Z.iconst B dX1_tellsByNumbers_12 (v := nI 0) rfl ?_
      refine Z.istore_n B dX1_tellsByNumbers_13 (by decide) (L' := [(0, .ref 20), (1, .int (tO (pt (zX σ 21) (zX σ 25)) j)), (2, .int (nI j)), (3, .int (nI 0))]) rfl ?_
      have hloop14 : ∀ i : Nat, i ≤ j → Z κ 0 0 σ 14 [(0, .ref 20), (1, .int (smz (tO (pt (zX σ 21) (zX σ 25)) j) (fun o => pt (zX σ 21) (zX σ 25) o j) i)), (2, .int (nI j)), (3, .int (nI i))] [] := by
        refine z_loop (fun i => j - i) (fun i ihi hi => ?_)
        refine Z.iload_n B dX1_tellsByNumbers_14 (x := nI i) rfl ?_
        refine Z.iload_n B dX1_tellsByNumbers_15 (x := nI j) rfl ?_
        refine Z.icmp_geN B dX1_tellsByNumbers_16 (tgt := 34) rfl (by omega) (by omega) (fun h16 => ?_) (fun h16 => ?_)
        · skip
          obtain rfl : j = i := by omega
          refine Z.iincN B dX1_tellsByNumbers_34 (by decide) (a := j) rfl (L' := [(0, .ref 20), (1, .int (smz (tO (pt (zX σ 21) (zX σ 25)) j) (fun o => pt (zX σ 21) (zX σ 25) o j) j)), (2, .int (nI (j + 1))), (3, .int (nI j))]) rfl ?_
          refine Z.goto B dX1_tellsByNumbers_37 (tgt := 4) rfl ?_
          refine Z.drop 3 (L' := [(0, .ref 20), (1, .int (smz (tO (pt (zX σ 21) (zX σ 25)) j) (fun o => pt (zX σ 21) (zX σ 25) o j) j)), (2, .int (nI (j + 1)))]) rfl ?_
          exact ih (j + 1) (by omega) ⟨Or.inl (by omega), by omega⟩
        · skip
          refine Z.iload_n B dX1_tellsByNumbers_19 (x := smz (tO (pt (zX σ 21) (zX σ 25)) j) (fun o => pt (zX σ 21) (zX σ 25) o j) i) rfl ?_
          refine Z.aload_n B dX1_tellsByNumbers_20 (v := .ref 20) rfl rfl ?_
          refine Z.iload_n B dX1_tellsByNumbers_21 (x := nI i) rfl ?_
          refine Z.iload_n B dX1_tellsByNumbers_22 (x := nI j) rfl ?_
          refine Z.callVI (σ := σ) B (M' := mX1_pairTells) (as := [.int (nI i), .int (nI j)]) (st := [.int (smz (tO (pt (zX σ 21) (zX σ 25)) j) (fun o => pt (zX σ 21) (zX σ 25) o j) i)]) (v := .int (pt (zX σ 21) (zX σ 25) i j)) dX1_tellsByNumbers_23 wX1_pairTells iX1_pairTells sX1_pairTells kX1_131 (hl.n (k := 20) (by decide)) (hl.k (k := 20) (by decide)) (by decide) rfl rfl (t_X1_pairTells (σ := σ) H (i := i) (j := j) (by omega) (by omega)) rfl rfl (by decide) (by decide) (Nat.le_of_ble_eq_true rfl) (by decide) (by decide) ?_
          refine Z.iadd B dX1_tellsByNumbers_26 ?_
          refine Z.istore_n B dX1_tellsByNumbers_27 (by decide) (L' := [(0, .ref 20), (1, .int ((smz (tO (pt (zX σ 21) (zX σ 25)) j) (fun o => pt (zX σ 21) (zX σ 25) o j) i) + (pt (zX σ 21) (zX σ 25) i j))), (2, .int (nI j)), (3, .int (nI i))]) rfl ?_
          refine Z.iincN B dX1_tellsByNumbers_28 (by decide) (a := i) rfl (L' := [(0, .ref 20), (1, .int ((smz (tO (pt (zX σ 21) (zX σ 25)) j) (fun o => pt (zX σ 21) (zX σ 25) o j) i) + (pt (zX σ 21) (zX σ 25) i j))), (2, .int (nI j)), (3, .int (nI (i + 1)))]) rfl ?_
          refine Z.goto B dX1_tellsByNumbers_31 (tgt := 14) rfl ?_
          exact ihi (i + 1) (by omega) (by omega)
      exact hloop14 0 (Nat.zero_le _)
  exact hloop4 1 ⟨Or.inr rfl, Nat.le_refl _⟩

theorem t_X1_tellsOf {σ : zSt} {n a y : Nat} (H : zHd σ n a y) {od : Nat → Nat} (ho : zOd σ a od) {q kd pa num : Nat} (hw : zWo σ q kd pa num) {sl : Bool} : Dt mX1_tellsOf [.ref 20, .ref q, .int (zb sl)] σ (some (.int (tO (pt (zX σ 21) (tf (zX σ 21) (zSc σ) (zLk σ) (zDr σ) sl kd pa od a)) n))) (zuX σ 25 (fi n (tf (zX σ 21) (zSc σ) (zLk σ) (zDr σ) sl kd pa od a) (zX σ 25))) := by
  obtain ⟨hl, hn, hn8, ha, ha4, hy, hy8⟩ := id H
  refine Dt.of (by decide) (Nat.le_of_ble_eq_true rfl) fun κ B Rt => ?_
  show Z κ 0 0 σ 0 [(0, .ref 20), (1, .ref q), (2, .int (zb sl))] []
  refine Z.aload_n B dX1_tellsOf_0 (v := .ref 20) rfl rfl ?_
  refine Z.aload_n B dX1_tellsOf_1 (v := .ref 20) rfl rfl ?_
  refine Z.getR (σ := σ) B fX1_31_1 dX1_tellsOf_2 (hl.n (k := 20) (by decide)) (hl.k (k := 20) (by decide)) (by decide) (j := 25) (hl.r (k := 20) (f := 9) (by decide) (by decide)) ?_
  refine Z.aload_n B dX1_tellsOf_5 (v := .ref q) rfl rfl ?_
  refine Z.iload_n B dX1_tellsOf_6 (x := zb sl) rfl ?_
  refine Z.callVN (σ := σ) B (M' := mX1_fillTotals) (as := [.ref 25, .ref q, .int (zb sl)]) (st := []) dX1_tellsOf_7 wX1_fillTotals iX1_fillTotals sX1_fillTotals kX1_121 (hl.n (k := 20) (by decide)) (hl.k (k := 20) (by decide)) (by decide) rfl rfl (t_X1_fillTotals_25 (σ := σ) H ho hw) rfl rfl (by decide) (by decide) (Nat.le_of_ble_eq_true rfl) (by decide) (by decide) ?_
  refine Z.eqσ (τ := (zuX σ 25 (fi n (tf (zX σ 21) (zSc σ) (zLk σ) (zDr σ) sl kd pa od a) (zX σ 25)))) rfl ?_
  refine Z.aload_n B dX1_tellsOf_10 (v := .ref 20) rfl rfl ?_
  refine Z.callVI (σ := (zuX σ 25 (fi n (tf (zX σ 21) (zSc σ) (zLk σ) (zDr σ) sl kd pa od a) (zX σ 25)))) B (M' := mX1_tellsByNumbers) (as := []) (st := []) (v := .int (tO (pt (zX σ 21) (fi n (tf (zX σ 21) (zSc σ) (zLk σ) (zDr σ) sl kd pa od a) (zX σ 25))) n)) dX1_tellsOf_11 wX1_tellsByNumbers iX1_tellsByNumbers sX1_tellsByNumbers kX1_134 (hl.n (k := 20) (by decide)) (hl.k (k := 20) (by decide)) (by decide) rfl rfl (t_X1_tellsByNumbers (σ := (zuX σ 25 (fi n (tf (zX σ 21) (zSc σ) (zLk σ) (zDr σ) sl kd pa od a) (zX σ 25)))) H) rfl rfl (by decide) (by decide) (Nat.le_of_ble_eq_true rfl) (by decide) (by decide) ?_
  refine Z.iret B Rt dX1_tellsOf_14 (ty := .int) rfl rfl (by decide) (by decide) ?_
  exact ⟨by rw [pt_fi], rfl⟩

theorem t_X1_tellsOfNumber {σ : zSt} {n a y : Nat} (H : zHd σ n a y) {wt : Nat} (hwt : wt ≤ 6) : Dt mX1_tellsOfNumber [.ref 20, .int (nI wt)] σ (some (.int (tO (pt (zX σ 21) (fun c => cn (zX σ 21) c wt)) n))) (zuX σ 25 (fi n (fun c => cn (zX σ 21) c wt) (zX σ 25))) := by
  obtain ⟨hl, hn, hn8, ha, ha4, hy, hy8⟩ := id H
  refine Dt.of (by decide) (Nat.le_of_ble_eq_true rfl) fun κ B Rt => ?_
  show Z κ 0 0 σ 0 [(0, .ref 20), (1, .int (nI wt))] []
  refine Z.aload_n B dX1_tellsOfNumber_0 (v := .ref 20) rfl rfl ?_
  refine Z.iload_n B dX1_tellsOfNumber_1 (x := nI wt) rfl ?_
  refine Z.callVN (σ := σ) B (M' := mX1_fillOwn) (as := [.int (nI wt)]) (st := []) dX1_tellsOfNumber_2 wX1_fillOwn iX1_fillOwn sX1_fillOwn kX1_110 (hl.n (k := 20) (by decide)) (hl.k (k := 20) (by decide)) (by decide) rfl rfl (t_X1_fillOwn (σ := σ) H hwt) rfl rfl (by decide) (by decide) (Nat.le_of_ble_eq_true rfl) (by decide) (by decide) ?_
  refine Z.eqσ (τ := (zuX σ 25 (fi n (fun c => cn (zX σ 21) c wt) (zX σ 25)))) rfl ?_
  refine Z.aload_n B dX1_tellsOfNumber_5 (v := .ref 20) rfl rfl ?_
  refine Z.callVI (σ := (zuX σ 25 (fi n (fun c => cn (zX σ 21) c wt) (zX σ 25)))) B (M' := mX1_tellsByNumbers) (as := []) (st := []) (v := .int (tO (pt (zX σ 21) (fi n (fun c => cn (zX σ 21) c wt) (zX σ 25))) n)) dX1_tellsOfNumber_6 wX1_tellsByNumbers iX1_tellsByNumbers sX1_tellsByNumbers kX1_134 (hl.n (k := 20) (by decide)) (hl.k (k := 20) (by decide)) (by decide) rfl rfl (t_X1_tellsByNumbers (σ := (zuX σ 25 (fi n (fun c => cn (zX σ 21) c wt) (zX σ 25)))) H) rfl rfl (by decide) (by decide) (Nat.le_of_ble_eq_true rfl) (by decide) (by decide) ?_
  refine Z.iret B Rt dX1_tellsOfNumber_9 (ty := .int) rfl rfl (by decide) (by decide) ?_
  exact ⟨by rw [pt_fi], rfl⟩

theorem t_X1_joinedTells {σ : zSt} {n a y : Nat} (H : zHd σ n a y) {od : Nat → Nat} (ho : zOd σ a od) {q kd pa num : Nat} (hw : zWo σ q kd pa num) {q2 kd2 pa2 num2 x : Nat} (hw2 : zWo σ q2 kd2 pa2 num2) : Dt mX1_joinedTells [.ref 20, .ref q, .ref q2, .int (nI x)] σ (some (.int (tO (pt (zX σ 21) (fun c => nI x * (tf (zX σ 21) (zSc σ) (zLk σ) (zDr σ) true kd pa od a) c + (nI 10 - nI x) * (tf (zX σ 21) (zSc σ) (zLk σ) (zDr σ) true kd2 pa2 od a) c)) n))) (zuX (zuX σ 25 (fi n (fun c => nI x * (tf (zX σ 21) (zSc σ) (zLk σ) (zDr σ) true kd pa od a) c + (nI 10 - nI x) * (tf (zX σ 21) (zSc σ) (zLk σ) (zDr σ) true kd2 pa2 od a) c) (zX σ 25))) 26 (fi n (tf (zX σ 21) (zSc σ) (zLk σ) (zDr σ) true kd2 pa2 od a) (zX σ 26))) := by
  obtain ⟨hl, hn, hn8, ha, ha4, hy, hy8⟩ := id H
  refine Dt.of (by decide) (Nat.le_of_ble_eq_true rfl) fun κ B Rt => ?_
  show Z κ 0 0 σ 0 [(0, .ref 20), (1, .ref q), (2, .ref q2), (3, .int (nI x))] []
  refine Z.aload_n B dX1_joinedTells_0 (v := .ref 20) rfl rfl ?_
  refine Z.aload_n B dX1_joinedTells_1 (v := .ref 20) rfl rfl ?_
  refine Z.getR (σ := σ) B fX1_31_1 dX1_joinedTells_2 (hl.n (k := 20) (by decide)) (hl.k (k := 20) (by decide)) (by decide) (j := 25) (hl.r (k := 20) (f := 9) (by decide) (by decide)) ?_
  refine Z.aload_n B dX1_joinedTells_5 (v := .ref q) rfl rfl ?_
  refine Z.iconst B dX1_joinedTells_6 (v := nI 1) rfl ?_
  have etrue : nI 1 = zb true := rfl
  refine Z.callVN (σ := σ) B (M' := mX1_fillTotals) (as := [.ref 25, .ref q, .int (zb true)]) (st := []) dX1_joinedTells_7 wX1_fillTotals iX1_fillTotals sX1_fillTotals kX1_121 (hl.n (k := 20) (by decide)) (hl.k (k := 20) (by decide)) (by decide) rfl rfl (t_X1_fillTotals_25 (σ := σ) H ho hw (sl := true)) rfl rfl (by decide) (by decide) (Nat.le_of_ble_eq_true rfl) (by decide) (by decide) ?_
  refine Z.eqσ (τ := (zuX σ 25 (fi n (tf (zX σ 21) (zSc σ) (zLk σ) (zDr σ) true kd pa od a) (zX σ 25)))) rfl ?_
  refine Z.aload_n B dX1_joinedTells_10 (v := .ref 20) rfl rfl ?_
  refine Z.aload_n B dX1_joinedTells_11 (v := .ref 20) rfl rfl ?_
  refine Z.getR (σ := (zuX σ 25 (fi n (tf (zX σ 21) (zSc σ) (zLk σ) (zDr σ) true kd pa od a) (zX σ 25)))) B fX1_34_1 dX1_joinedTells_12 (hl.n (k := 20) (by decide)) (hl.k (k := 20) (by decide)) (by decide) (j := 26) (hl.r (k := 20) (f := 10) (by decide) (by decide)) ?_
  refine Z.aload_n B dX1_joinedTells_15 (v := .ref q2) rfl rfl ?_
  refine Z.iconst B dX1_joinedTells_16 (v := nI 1) rfl ?_
  refine Z.callVN (σ := (zuX σ 25 (fi n (tf (zX σ 21) (zSc σ) (zLk σ) (zDr σ) true kd pa od a) (zX σ 25)))) B (M' := mX1_fillTotals) (as := [.ref 26, .ref q2, .int (zb true)]) (st := []) dX1_joinedTells_17 wX1_fillTotals iX1_fillTotals sX1_fillTotals kX1_121 (hl.n (k := 20) (by decide)) (hl.k (k := 20) (by decide)) (by decide) rfl rfl (t_X1_fillTotals_26 (σ := (zuX σ 25 (fi n (tf (zX σ 21) (zSc σ) (zLk σ) (zDr σ) true kd pa od a) (zX σ 25)))) H ho (hw2.uX (by decide)) (sl := true)) rfl rfl (by decide) (by decide) (Nat.le_of_ble_eq_true rfl) (by decide) (by decide) ?_
  refine Z.eqσ (τ := (zuX (zuX σ 25 (fi n (tf (zX σ 21) (zSc σ) (zLk σ) (zDr σ) true kd pa od a) (zX σ 25))) 26 (fi n (tf (zX σ 21) (zSc σ) (zLk σ) (zDr σ) true kd2 pa2 od a) (zX σ 26)))) rfl ?_
  refine Z.iconst B dX1_joinedTells_20 (v := nI 0) rfl ?_
  refine Z.istore B dX1_joinedTells_21 (by decide) (L' := [(0, .ref 20), (1, .ref q), (2, .ref q2), (3, .int (nI x)), (4, .int (nI 0))]) rfl ?_
  have hloop23 : ∀ i : Nat, i ≤ n → Z κ 0 0 (zuX (zuX σ 25 (fi i (fun c => nI x * (tf (zX σ 21) (zSc σ) (zLk σ) (zDr σ) true kd pa od a) c + (nI 10 - nI x) * (tf (zX σ 21) (zSc σ) (zLk σ) (zDr σ) true kd2 pa2 od a) c) (fi n (tf (zX σ 21) (zSc σ) (zLk σ) (zDr σ) true kd pa od a) (zX σ 25)))) 26 (fi n (tf (zX σ 21) (zSc σ) (zLk σ) (zDr σ) true kd2 pa2 od a) (zX σ 26))) 23 [(0, .ref 20), (1, .ref q), (2, .ref q2), (3, .int (nI x)), (4, .int (nI i))] [] := by
    refine z_loop (fun i => n - i) (fun i ih hi => ?_)
    refine Z.iload B dX1_joinedTells_23 (x := nI i) rfl ?_
    refine Z.aload_n B dX1_joinedTells_25 (v := .ref 20) rfl rfl ?_
    refine Z.getI (σ := (zuX (zuX σ 25 (fi i (fun c => nI x * (tf (zX σ 21) (zSc σ) (zLk σ) (zDr σ) true kd pa od a) c + (nI 10 - nI x) * (tf (zX σ 21) (zSc σ) (zLk σ) (zDr σ) true kd2 pa2 od a) c) (fi n (tf (zX σ 21) (zSc σ) (zLk σ) (zDr σ) true kd pa od a) (zX σ 25)))) 26 (fi n (tf (zX σ 21) (zSc σ) (zLk σ) (zDr σ) true kd2 pa2 od a) (zX σ 26)))) B fX1_37_1 dX1_joinedTells_26 (hl.n (k := 20) (by decide)) (hl.k (k := 20) (by decide)) (by decide) (v := nI n) hn ?_
    refine Z.icmp_geN B dX1_joinedTells_29 (tgt := 67) rfl (by omega) (by omega) (fun h29 => ?_) (fun h29 => ?_)
    · skip
      obtain rfl : n = i := by omega
      rw [fi_fi]
      refine Z.aload_n B dX1_joinedTells_67 (v := .ref 20) rfl rfl ?_
      refine Z.callVI (σ := (zuX (zuX σ 25 (fi n (fun c => nI x * (tf (zX σ 21) (zSc σ) (zLk σ) (zDr σ) true kd pa od a) c + (nI 10 - nI x) * (tf (zX σ 21) (zSc σ) (zLk σ) (zDr σ) true kd2 pa2 od a) c) (zX σ 25))) 26 (fi n (tf (zX σ 21) (zSc σ) (zLk σ) (zDr σ) true kd2 pa2 od a) (zX σ 26)))) B (M' := mX1_tellsByNumbers) (as := []) (st := []) (v := .int (tO (pt (zX σ 21) (fi n (fun c => nI x * (tf (zX σ 21) (zSc σ) (zLk σ) (zDr σ) true kd pa od a) c + (nI 10 - nI x) * (tf (zX σ 21) (zSc σ) (zLk σ) (zDr σ) true kd2 pa2 od a) c) (zX σ 25))) n)) dX1_joinedTells_68 wX1_tellsByNumbers iX1_tellsByNumbers sX1_tellsByNumbers kX1_134 (hl.n (k := 20) (by decide)) (hl.k (k := 20) (by decide)) (by decide) rfl rfl (t_X1_tellsByNumbers (σ := (zuX (zuX σ 25 (fi n (fun c => nI x * (tf (zX σ 21) (zSc σ) (zLk σ) (zDr σ) true kd pa od a) c + (nI 10 - nI x) * (tf (zX σ 21) (zSc σ) (zLk σ) (zDr σ) true kd2 pa2 od a) c) (zX σ 25))) 26 (fi n (tf (zX σ 21) (zSc σ) (zLk σ) (zDr σ) true kd2 pa2 od a) (zX σ 26)))) H) rfl rfl (by decide) (by decide) (Nat.le_of_ble_eq_true rfl) (by decide) (by decide) ?_
      refine Z.iret B Rt dX1_joinedTells_71 (ty := .int) rfl rfl (by decide) (by decide) ?_
      exact ⟨by rw [pt_fi], rfl⟩
    · skip
      refine Z.aload_n B dX1_joinedTells_32 (v := .ref 20) rfl rfl ?_
      refine Z.getR (σ := (zuX (zuX σ 25 (fi i (fun c => nI x * (tf (zX σ 21) (zSc σ) (zLk σ) (zDr σ) true kd pa od a) c + (nI 10 - nI x) * (tf (zX σ 21) (zSc σ) (zLk σ) (zDr σ) true kd2 pa2 od a) c) (fi n (tf (zX σ 21) (zSc σ) (zLk σ) (zDr σ) true kd pa od a) (zX σ 25)))) 26 (fi n (tf (zX σ 21) (zSc σ) (zLk σ) (zDr σ) true kd2 pa2 od a) (zX σ 26)))) B fX1_31_1 dX1_joinedTells_33 (hl.n (k := 20) (by decide)) (hl.k (k := 20) (by decide)) (by decide) (j := 25) (hl.r (k := 20) (f := 9) (by decide) (by decide)) ?_
      refine Z.iload B dX1_joinedTells_36 (x := nI i) rfl ?_
      refine Z.iload_n B dX1_joinedTells_38 (x := nI x) rfl ?_
      refine Z.aload_n B dX1_joinedTells_39 (v := .ref 20) rfl rfl ?_
      refine Z.getR (σ := (zuX (zuX σ 25 (fi i (fun c => nI x * (tf (zX σ 21) (zSc σ) (zLk σ) (zDr σ) true kd pa od a) c + (nI 10 - nI x) * (tf (zX σ 21) (zSc σ) (zLk σ) (zDr σ) true kd2 pa2 od a) c) (fi n (tf (zX σ 21) (zSc σ) (zLk σ) (zDr σ) true kd pa od a) (zX σ 25)))) 26 (fi n (tf (zX σ 21) (zSc σ) (zLk σ) (zDr σ) true kd2 pa2 od a) (zX σ 26)))) B fX1_31_1 dX1_joinedTells_40 (hl.n (k := 20) (by decide)) (hl.k (k := 20) (by decide)) (by decide) (j := 25) (hl.r (k := 20) (f := 9) (by decide) (by decide)) ?_
      refine Z.iload B dX1_joinedTells_43 (x := nI i) rfl ?_
      refine Z.iald (σ := (zuX (zuX σ 25 (fi i (fun c => nI x * (tf (zX σ 21) (zSc σ) (zLk σ) (zDr σ) true kd pa od a) c + (nI 10 - nI x) * (tf (zX σ 21) (zSc σ) (zLk σ) (zDr σ) true kd2 pa2 od a) c) (fi n (tf (zX σ 21) (zSc σ) (zLk σ) (zDr σ) true kd pa od a) (zX σ 25)))) 26 (fi n (tf (zX σ 21) (zSc σ) (zLk σ) (zDr σ) true kd2 pa2 od a) (zX σ 26)))) B dX1_joinedTells_45 (n := 8) (hl.n (k := 25) (by decide)) (hl.k (k := 25) (by decide)) (hl.l (k := 25) (by decide)) (by decide) (j := i) rfl (by omega) (v := (tf (zX σ 21) (zSc σ) (zLk σ) (zDr σ) true kd pa od a) i) (by rw [show zX (zuX (zuX σ 25 (fi i (fun c => nI x * (tf (zX σ 21) (zSc σ) (zLk σ) (zDr σ) true kd pa od a) c + (nI 10 - nI x) * (tf (zX σ 21) (zSc σ) (zLk σ) (zDr σ) true kd2 pa2 od a) c) (fi n (tf (zX σ 21) (zSc σ) (zLk σ) (zDr σ) true kd pa od a) (zX σ 25)))) 26 (fi n (tf (zX σ 21) (zSc σ) (zLk σ) (zDr σ) true kd2 pa2 od a) (zX σ 26))) 25 = fi i (fun c => nI x * (tf (zX σ 21) (zSc σ) (zLk σ) (zDr σ) true kd pa od a) c + (nI 10 - nI x) * (tf (zX σ 21) (zSc σ) (zLk σ) (zDr σ) true kd2 pa2 od a) c) (fi n (tf (zX σ 21) (zSc σ) (zLk σ) (zDr σ) true kd pa od a) (zX σ 25)) from rfl, show fi i (fun c => nI x * (tf (zX σ 21) (zSc σ) (zLk σ) (zDr σ) true kd pa od a) c + (nI 10 - nI x) * (tf (zX σ 21) (zSc σ) (zLk σ) (zDr σ) true kd2 pa2 od a) c) (fi n (tf (zX σ 21) (zSc σ) (zLk σ) (zDr σ) true kd pa od a) (zX σ 25)) i = (fi n (tf (zX σ 21) (zSc σ) (zLk σ) (zDr σ) true kd pa od a) (zX σ 25)) i from if_neg (Nat.lt_irrefl _), fi_at (by omega)]) ?_
      refine Z.imul B dX1_joinedTells_46 ?_
      refine Z.bipush B dX1_joinedTells_47 (v := nI 10) rfl ?_
      refine Z.iload_n B dX1_joinedTells_49 (x := nI x) rfl ?_
      refine Z.isub B dX1_joinedTells_50 ?_
      refine Z.aload_n B dX1_joinedTells_51 (v := .ref 20) rfl rfl ?_
      refine Z.getR (σ := (zuX (zuX σ 25 (fi i (fun c => nI x * (tf (zX σ 21) (zSc σ) (zLk σ) (zDr σ) true kd pa od a) c + (nI 10 - nI x) * (tf (zX σ 21) (zSc σ) (zLk σ) (zDr σ) true kd2 pa2 od a) c) (fi n (tf (zX σ 21) (zSc σ) (zLk σ) (zDr σ) true kd pa od a) (zX σ 25)))) 26 (fi n (tf (zX σ 21) (zSc σ) (zLk σ) (zDr σ) true kd2 pa2 od a) (zX σ 26)))) B fX1_34_1 dX1_joinedTells_52 (hl.n (k := 20) (by decide)) (hl.k (k := 20) (by decide)) (by decide) (j := 26) (hl.r (k := 20) (f := 10) (by decide) (by decide)) ?_
      refine Z.iload B dX1_joinedTells_55 (x := nI i) rfl ?_
      refine Z.iald (σ := (zuX (zuX σ 25 (fi i (fun c => nI x * (tf (zX σ 21) (zSc σ) (zLk σ) (zDr σ) true kd pa od a) c + (nI 10 - nI x) * (tf (zX σ 21) (zSc σ) (zLk σ) (zDr σ) true kd2 pa2 od a) c) (fi n (tf (zX σ 21) (zSc σ) (zLk σ) (zDr σ) true kd pa od a) (zX σ 25)))) 26 (fi n (tf (zX σ 21) (zSc σ) (zLk σ) (zDr σ) true kd2 pa2 od a) (zX σ 26)))) B dX1_joinedTells_57 (n := 8) (hl.n (k := 26) (by decide)) (hl.k (k := 26) (by decide)) (hl.l (k := 26) (by decide)) (by decide) (j := i) rfl (by omega) (v := (tf (zX σ 21) (zSc σ) (zLk σ) (zDr σ) true kd2 pa2 od a) i) (fi_at (by omega)) ?_
      refine Z.imul B dX1_joinedTells_58 ?_
      refine Z.iadd B dX1_joinedTells_59 ?_
      refine Z.iast (σ := (zuX (zuX σ 25 (fi i (fun c => nI x * (tf (zX σ 21) (zSc σ) (zLk σ) (zDr σ) true kd pa od a) c + (nI 10 - nI x) * (tf (zX σ 21) (zSc σ) (zLk σ) (zDr σ) true kd2 pa2 od a) c) (fi n (tf (zX σ 21) (zSc σ) (zLk σ) (zDr σ) true kd pa od a) (zX σ 25)))) 26 (fi n (tf (zX σ 21) (zSc σ) (zLk σ) (zDr σ) true kd2 pa2 od a) (zX σ 26)))) B dX1_joinedTells_60 (n := 8) (hl.n (k := 25) (by decide)) (hl.k (k := 25) (by decide)) (hl.l (k := 25) (by decide)) (by decide) (j := i) rfl (by omega) (τ := (zuX (zuX σ 25 (fi (i + 1) (fun c => nI x * (tf (zX σ 21) (zSc σ) (zLk σ) (zDr σ) true kd pa od a) c + (nI 10 - nI x) * (tf (zX σ 21) (zSc σ) (zLk σ) (zDr σ) true kd2 pa2 od a) c) (fi n (tf (zX σ 21) (zSc σ) (zLk σ) (zDr σ) true kd pa od a) (zX σ 25)))) 26 (fi n (tf (zX σ 21) (zSc σ) (zLk σ) (zDr σ) true kd2 pa2 od a) (zX σ 26)))) (by rw [show zX (zuX (zuX σ 25 (fi i (fun c => nI x * (tf (zX σ 21) (zSc σ) (zLk σ) (zDr σ) true kd pa od a) c + (nI 10 - nI x) * (tf (zX σ 21) (zSc σ) (zLk σ) (zDr σ) true kd2 pa2 od a) c) (fi n (tf (zX σ 21) (zSc σ) (zLk σ) (zDr σ) true kd pa od a) (zX σ 25)))) 26 (fi n (tf (zX σ 21) (zSc σ) (zLk σ) (zDr σ) true kd2 pa2 od a) (zX σ 26))) 25 = fi i (fun c => nI x * (tf (zX σ 21) (zSc σ) (zLk σ) (zDr σ) true kd pa od a) c + (nI 10 - nI x) * (tf (zX σ 21) (zSc σ) (zLk σ) (zDr σ) true kd2 pa2 od a) c) (fi n (tf (zX σ 21) (zSc σ) (zLk σ) (zDr σ) true kd pa od a) (zX σ 25)) from rfl, fi_s (f := (fun c => nI x * (tf (zX σ 21) (zSc σ) (zLk σ) (zDr σ) true kd pa od a) c + (nI 10 - nI x) * (tf (zX σ 21) (zSc σ) (zLk σ) (zDr σ) true kd2 pa2 od a) c)) rfl]; exact zuX_sw (by decide)) ?_
      refine Z.iincN B dX1_joinedTells_61 (by decide) (a := i) rfl (L' := [(0, .ref 20), (1, .ref q), (2, .ref q2), (3, .int (nI x)), (4, .int (nI (i + 1)))]) rfl ?_
      refine Z.goto B dX1_joinedTells_64 (tgt := 23) rfl ?_
      exact ih (i + 1) (by omega) (by omega)
  have h0 := hloop23 0 (Nat.zero_le _)
  rw [fi_0] at h0
  exact h0

theorem t_X1_rank_25 {σ : zSt} {n a y : Nat} (H : zHd σ n a y) {c : Nat} (hc : c < n) : Dt mX1_rank [.ref 20, .ref 25, .int (nI c)] σ (some (.int (nI (rkN (zX σ 25) n c)))) σ := by
  obtain ⟨hl, hn, hn8, ha, ha4, hy, hy8⟩ := id H
  refine Dt.of (by decide) (Nat.le_of_ble_eq_true rfl) fun κ B Rt => ?_
  show Z κ 0 0 σ 0 [(0, .ref 20), (1, .ref 25), (2, .int (nI c))] []
  refine Z.iconst B dX1_rank_0 (v := nI 0) rfl ?_
  refine Z.istore_n B dX1_rank_1 (by decide) (L' := [(0, .ref 20), (1, .ref 25), (2, .int (nI c)), (3, .int (nI 0))]) rfl ?_
  refine Z.iconst B dX1_rank_2 (v := nI 0) rfl ?_
  refine Z.istore B dX1_rank_3 (by decide) (L' := [(0, .ref 20), (1, .ref 25), (2, .int (nI c)), (3, .int (nI 0)), (4, .int (nI 0))]) rfl ?_
  have hloop5 : ∀ i : Nat, i ≤ n → Z κ 0 0 σ 5 [(0, .ref 20), (1, .ref 25), (2, .int (nI c)), (3, .int (nI (cN (ah (zX σ 25) c) i))), (4, .int (nI i))] [] := by
    refine z_loop (fun i => n - i) (fun i ih hi => ?_)
    refine Z.iload B dX1_rank_5 (x := nI i) rfl ?_
    refine Z.aload_n B dX1_rank_7 (v := .ref 20) rfl rfl ?_
    refine Z.getI (σ := σ) B fX1_37_1 dX1_rank_8 (hl.n (k := 20) (by decide)) (hl.k (k := 20) (by decide)) (by decide) (v := nI n) hn ?_
    refine Z.icmp_geN B dX1_rank_11 (tgt := 54) rfl (by omega) (by omega) (fun h11 => ?_) (fun h11 => ?_)
    · skip
      obtain rfl : n = i := by omega
      refine Z.iload_n B dX1_rank_54 (x := nI (cN (ah (zX σ 25) c) n)) rfl ?_
      refine Z.iret B Rt dX1_rank_55 (ty := .int) rfl rfl (by decide) (by decide) ?_
      exact ⟨rfl, rfl⟩
    · skip
      refine Z.iload_n B dX1_rank_14 (x := nI (cN (ah (zX σ 25) c) i)) rfl ?_
      refine Z.aload_n B dX1_rank_15 (v := .ref 25) rfl rfl ?_
      refine Z.iload B dX1_rank_16 (x := nI i) rfl ?_
      refine Z.iald (σ := σ) B dX1_rank_18 (n := 8) (hl.n (k := 25) (by decide)) (hl.k (k := 25) (by decide)) (hl.l (k := 25) (by decide)) (by decide) (j := i) rfl (by omega) (v := (zX σ 25 i)) rfl ?_
      refine Z.aload_n B dX1_rank_19 (v := .ref 25) rfl rfl ?_
      refine Z.iload_n B dX1_rank_20 (x := nI c) rfl ?_
      refine Z.iald (σ := σ) B dX1_rank_21 (n := 8) (hl.n (k := 25) (by decide)) (hl.k (k := 25) (by decide)) (hl.l (k := 25) (by decide)) (by decide) (j := c) rfl (by omega) (v := (zX σ 25 c)) rfl ?_
      refine Z.icmp_gt B dX1_rank_22 (tgt := 41) rfl (fun h22 => ?_) (fun h22 => ?_)
      · skip
        refine Z.iconst B dX1_rank_41 (v := nI 1) rfl ?_
        refine Z.goto B dX1_rank_42 (tgt := 46) rfl ?_
        refine Z.iaddN B dX1_rank_46 (a := cN (ah (zX σ 25) c) i) (b := 1) ?_
        refine Z.istore_n B dX1_rank_47 (by decide) (L' := [(0, .ref 20), (1, .ref 25), (2, .int (nI c)), (3, .int (nI ((cN (ah (zX σ 25) c) i) + 1))), (4, .int (nI i))]) rfl ?_
        refine Z.iincN B dX1_rank_48 (by decide) (a := i) rfl (L' := [(0, .ref 20), (1, .ref 25), (2, .int (nI c)), (3, .int (nI ((cN (ah (zX σ 25) c) i) + 1))), (4, .int (nI (i + 1)))]) rfl ?_
        refine Z.goto B dX1_rank_51 (tgt := 5) rfl ?_
        have e := ih (i + 1) (by omega) (by omega)
        simp only [cN] at e
        first | (rw [show ah (zX σ 25) c i = true from decide_eq_true (Or.inl h22)] at e; exact e) | (rw [show ah (zX σ 25) c i = true from decide_eq_true (Or.inr ⟨h32, by omega⟩)] at e; exact e) | (rw [show ah (zX σ 25) c i = false from decide_eq_false (fun h => h.elim h22 (fun h => h32 h.1))] at e; exact e) | (rw [show ah (zX σ 25) c i = false from decide_eq_false (fun h => h.elim h22 (fun h => by omega))] at e; exact e)
      · skip
        refine Z.aload_n B dX1_rank_25 (v := .ref 25) rfl rfl ?_
        refine Z.iload B dX1_rank_26 (x := nI i) rfl ?_
        refine Z.iald (σ := σ) B dX1_rank_28 (n := 8) (hl.n (k := 25) (by decide)) (hl.k (k := 25) (by decide)) (hl.l (k := 25) (by decide)) (by decide) (j := i) rfl (by omega) (v := (zX σ 25 i)) rfl ?_
        refine Z.aload_n B dX1_rank_29 (v := .ref 25) rfl rfl ?_
        refine Z.iload_n B dX1_rank_30 (x := nI c) rfl ?_
        refine Z.iald (σ := σ) B dX1_rank_31 (n := 8) (hl.n (k := 25) (by decide)) (hl.k (k := 25) (by decide)) (hl.l (k := 25) (by decide)) (by decide) (j := c) rfl (by omega) (v := (zX σ 25 c)) rfl ?_
        refine Z.icmp_ne B dX1_rank_32 (tgt := 45) rfl (fun h32 => ?_) (fun h32 => ?_)
        · skip
          refine Z.iconst B dX1_rank_45 (v := nI 0) rfl ?_
          refine Z.iaddN B dX1_rank_46 (a := cN (ah (zX σ 25) c) i) (b := 0) ?_
          refine Z.istore_n B dX1_rank_47 (by decide) (L' := [(0, .ref 20), (1, .ref 25), (2, .int (nI c)), (3, .int (nI ((cN (ah (zX σ 25) c) i) + 0))), (4, .int (nI i))]) rfl ?_
          refine Z.iincN B dX1_rank_48 (by decide) (a := i) rfl (L' := [(0, .ref 20), (1, .ref 25), (2, .int (nI c)), (3, .int (nI ((cN (ah (zX σ 25) c) i) + 0))), (4, .int (nI (i + 1)))]) rfl ?_
          refine Z.goto B dX1_rank_51 (tgt := 5) rfl ?_
          have e := ih (i + 1) (by omega) (by omega)
          simp only [cN] at e
          first | (rw [show ah (zX σ 25) c i = true from decide_eq_true (Or.inl h22)] at e; exact e) | (rw [show ah (zX σ 25) c i = true from decide_eq_true (Or.inr ⟨h32, by omega⟩)] at e; exact e) | (rw [show ah (zX σ 25) c i = false from decide_eq_false (fun h => h.elim h22 (fun h => h32 h.1))] at e; exact e) | (rw [show ah (zX σ 25) c i = false from decide_eq_false (fun h => h.elim h22 (fun h => by omega))] at e; exact e)
        · skip
          refine Z.iload B dX1_rank_35 (x := nI i) rfl ?_
          refine Z.iload_n B dX1_rank_37 (x := nI c) rfl ?_
          refine Z.icmp_geN B dX1_rank_38 (tgt := 45) rfl (by omega) (by omega) (fun h38 => ?_) (fun h38 => ?_)
          · skip
            refine Z.iconst B dX1_rank_45 (v := nI 0) rfl ?_
            refine Z.iaddN B dX1_rank_46 (a := cN (ah (zX σ 25) c) i) (b := 0) ?_
            refine Z.istore_n B dX1_rank_47 (by decide) (L' := [(0, .ref 20), (1, .ref 25), (2, .int (nI c)), (3, .int (nI ((cN (ah (zX σ 25) c) i) + 0))), (4, .int (nI i))]) rfl ?_
            refine Z.iincN B dX1_rank_48 (by decide) (a := i) rfl (L' := [(0, .ref 20), (1, .ref 25), (2, .int (nI c)), (3, .int (nI ((cN (ah (zX σ 25) c) i) + 0))), (4, .int (nI (i + 1)))]) rfl ?_
            refine Z.goto B dX1_rank_51 (tgt := 5) rfl ?_
            have e := ih (i + 1) (by omega) (by omega)
            simp only [cN] at e
            first | (rw [show ah (zX σ 25) c i = true from decide_eq_true (Or.inl h22)] at e; exact e) | (rw [show ah (zX σ 25) c i = true from decide_eq_true (Or.inr ⟨h32, by omega⟩)] at e; exact e) | (rw [show ah (zX σ 25) c i = false from decide_eq_false (fun h => h.elim h22 (fun h => h32 h.1))] at e; exact e) | (rw [show ah (zX σ 25) c i = false from decide_eq_false (fun h => h.elim h22 (fun h => by omega))] at e; exact e)
          · skip
            refine Z.iconst B dX1_rank_41 (v := nI 1) rfl ?_
            refine Z.goto B dX1_rank_42 (tgt := 46) rfl ?_
            refine Z.iaddN B dX1_rank_46 (a := cN (ah (zX σ 25) c) i) (b := 1) ?_
            refine Z.istore_n B dX1_rank_47 (by decide) (L' := [(0, .ref 20), (1, .ref 25), (2, .int (nI c)), (3, .int (nI ((cN (ah (zX σ 25) c) i) + 1))), (4, .int (nI i))]) rfl ?_
            refine Z.iincN B dX1_rank_48 (by decide) (a := i) rfl (L' := [(0, .ref 20), (1, .ref 25), (2, .int (nI c)), (3, .int (nI ((cN (ah (zX σ 25) c) i) + 1))), (4, .int (nI (i + 1)))]) rfl ?_
            refine Z.goto B dX1_rank_51 (tgt := 5) rfl ?_
            have e := ih (i + 1) (by omega) (by omega)
            simp only [cN] at e
            first | (rw [show ah (zX σ 25) c i = true from decide_eq_true (Or.inl h22)] at e; exact e) | (rw [show ah (zX σ 25) c i = true from decide_eq_true (Or.inr ⟨h32, by omega⟩)] at e; exact e) | (rw [show ah (zX σ 25) c i = false from decide_eq_false (fun h => h.elim h22 (fun h => h32 h.1))] at e; exact e) | (rw [show ah (zX σ 25) c i = false from decide_eq_false (fun h => h.elim h22 (fun h => by omega))] at e; exact e)
  exact hloop5 0 (Nat.zero_le _)

theorem t_X1_rank_26 {σ : zSt} {n a y : Nat} (H : zHd σ n a y) {c : Nat} (hc : c < n) : Dt mX1_rank [.ref 20, .ref 26, .int (nI c)] σ (some (.int (nI (rkN (zX σ 26) n c)))) σ := by
  obtain ⟨hl, hn, hn8, ha, ha4, hy, hy8⟩ := id H
  refine Dt.of (by decide) (Nat.le_of_ble_eq_true rfl) fun κ B Rt => ?_
  show Z κ 0 0 σ 0 [(0, .ref 20), (1, .ref 26), (2, .int (nI c))] []
  refine Z.iconst B dX1_rank_0 (v := nI 0) rfl ?_
  refine Z.istore_n B dX1_rank_1 (by decide) (L' := [(0, .ref 20), (1, .ref 26), (2, .int (nI c)), (3, .int (nI 0))]) rfl ?_
  refine Z.iconst B dX1_rank_2 (v := nI 0) rfl ?_
  refine Z.istore B dX1_rank_3 (by decide) (L' := [(0, .ref 20), (1, .ref 26), (2, .int (nI c)), (3, .int (nI 0)), (4, .int (nI 0))]) rfl ?_
  have hloop5 : ∀ i : Nat, i ≤ n → Z κ 0 0 σ 5 [(0, .ref 20), (1, .ref 26), (2, .int (nI c)), (3, .int (nI (cN (ah (zX σ 26) c) i))), (4, .int (nI i))] [] := by
    refine z_loop (fun i => n - i) (fun i ih hi => ?_)
    refine Z.iload B dX1_rank_5 (x := nI i) rfl ?_
    refine Z.aload_n B dX1_rank_7 (v := .ref 20) rfl rfl ?_
    refine Z.getI (σ := σ) B fX1_37_1 dX1_rank_8 (hl.n (k := 20) (by decide)) (hl.k (k := 20) (by decide)) (by decide) (v := nI n) hn ?_
    refine Z.icmp_geN B dX1_rank_11 (tgt := 54) rfl (by omega) (by omega) (fun h11 => ?_) (fun h11 => ?_)
    · skip
      obtain rfl : n = i := by omega
      refine Z.iload_n B dX1_rank_54 (x := nI (cN (ah (zX σ 26) c) n)) rfl ?_
      refine Z.iret B Rt dX1_rank_55 (ty := .int) rfl rfl (by decide) (by decide) ?_
      exact ⟨rfl, rfl⟩
    · skip
      refine Z.iload_n B dX1_rank_14 (x := nI (cN (ah (zX σ 26) c) i)) rfl ?_
      refine Z.aload_n B dX1_rank_15 (v := .ref 26) rfl rfl ?_
      refine Z.iload B dX1_rank_16 (x := nI i) rfl ?_
      refine Z.iald (σ := σ) B dX1_rank_18 (n := 8) (hl.n (k := 26) (by decide)) (hl.k (k := 26) (by decide)) (hl.l (k := 26) (by decide)) (by decide) (j := i) rfl (by omega) (v := (zX σ 26 i)) rfl ?_
      refine Z.aload_n B dX1_rank_19 (v := .ref 26) rfl rfl ?_
      refine Z.iload_n B dX1_rank_20 (x := nI c) rfl ?_
      refine Z.iald (σ := σ) B dX1_rank_21 (n := 8) (hl.n (k := 26) (by decide)) (hl.k (k := 26) (by decide)) (hl.l (k := 26) (by decide)) (by decide) (j := c) rfl (by omega) (v := (zX σ 26 c)) rfl ?_
      refine Z.icmp_gt B dX1_rank_22 (tgt := 41) rfl (fun h22 => ?_) (fun h22 => ?_)
      · skip
        refine Z.iconst B dX1_rank_41 (v := nI 1) rfl ?_
        refine Z.goto B dX1_rank_42 (tgt := 46) rfl ?_
        refine Z.iaddN B dX1_rank_46 (a := cN (ah (zX σ 26) c) i) (b := 1) ?_
        refine Z.istore_n B dX1_rank_47 (by decide) (L' := [(0, .ref 20), (1, .ref 26), (2, .int (nI c)), (3, .int (nI ((cN (ah (zX σ 26) c) i) + 1))), (4, .int (nI i))]) rfl ?_
        refine Z.iincN B dX1_rank_48 (by decide) (a := i) rfl (L' := [(0, .ref 20), (1, .ref 26), (2, .int (nI c)), (3, .int (nI ((cN (ah (zX σ 26) c) i) + 1))), (4, .int (nI (i + 1)))]) rfl ?_
        refine Z.goto B dX1_rank_51 (tgt := 5) rfl ?_
        have e := ih (i + 1) (by omega) (by omega)
        simp only [cN] at e
        first | (rw [show ah (zX σ 26) c i = true from decide_eq_true (Or.inl h22)] at e; exact e) | (rw [show ah (zX σ 26) c i = true from decide_eq_true (Or.inr ⟨h32, by omega⟩)] at e; exact e) | (rw [show ah (zX σ 26) c i = false from decide_eq_false (fun h => h.elim h22 (fun h => h32 h.1))] at e; exact e) | (rw [show ah (zX σ 26) c i = false from decide_eq_false (fun h => h.elim h22 (fun h => by omega))] at e; exact e)
      · skip
        refine Z.aload_n B dX1_rank_25 (v := .ref 26) rfl rfl ?_
        refine Z.iload B dX1_rank_26 (x := nI i) rfl ?_
        refine Z.iald (σ := σ) B dX1_rank_28 (n := 8) (hl.n (k := 26) (by decide)) (hl.k (k := 26) (by decide)) (hl.l (k := 26) (by decide)) (by decide) (j := i) rfl (by omega) (v := (zX σ 26 i)) rfl ?_
        refine Z.aload_n B dX1_rank_29 (v := .ref 26) rfl rfl ?_
        refine Z.iload_n B dX1_rank_30 (x := nI c) rfl ?_
        refine Z.iald (σ := σ) B dX1_rank_31 (n := 8) (hl.n (k := 26) (by decide)) (hl.k (k := 26) (by decide)) (hl.l (k := 26) (by decide)) (by decide) (j := c) rfl (by omega) (v := (zX σ 26 c)) rfl ?_
        refine Z.icmp_ne B dX1_rank_32 (tgt := 45) rfl (fun h32 => ?_) (fun h32 => ?_)
        · skip
          refine Z.iconst B dX1_rank_45 (v := nI 0) rfl ?_
          refine Z.iaddN B dX1_rank_46 (a := cN (ah (zX σ 26) c) i) (b := 0) ?_
          refine Z.istore_n B dX1_rank_47 (by decide) (L' := [(0, .ref 20), (1, .ref 26), (2, .int (nI c)), (3, .int (nI ((cN (ah (zX σ 26) c) i) + 0))), (4, .int (nI i))]) rfl ?_
          refine Z.iincN B dX1_rank_48 (by decide) (a := i) rfl (L' := [(0, .ref 20), (1, .ref 26), (2, .int (nI c)), (3, .int (nI ((cN (ah (zX σ 26) c) i) + 0))), (4, .int (nI (i + 1)))]) rfl ?_
          refine Z.goto B dX1_rank_51 (tgt := 5) rfl ?_
          have e := ih (i + 1) (by omega) (by omega)
          simp only [cN] at e
          first | (rw [show ah (zX σ 26) c i = true from decide_eq_true (Or.inl h22)] at e; exact e) | (rw [show ah (zX σ 26) c i = true from decide_eq_true (Or.inr ⟨h32, by omega⟩)] at e; exact e) | (rw [show ah (zX σ 26) c i = false from decide_eq_false (fun h => h.elim h22 (fun h => h32 h.1))] at e; exact e) | (rw [show ah (zX σ 26) c i = false from decide_eq_false (fun h => h.elim h22 (fun h => by omega))] at e; exact e)
        · skip
          refine Z.iload B dX1_rank_35 (x := nI i) rfl ?_
          refine Z.iload_n B dX1_rank_37 (x := nI c) rfl ?_
          refine Z.icmp_geN B dX1_rank_38 (tgt := 45) rfl (by omega) (by omega) (fun h38 => ?_) (fun h38 => ?_)
          · skip
            refine Z.iconst B dX1_rank_45 (v := nI 0) rfl ?_
            refine Z.iaddN B dX1_rank_46 (a := cN (ah (zX σ 26) c) i) (b := 0) ?_
            refine Z.istore_n B dX1_rank_47 (by decide) (L' := [(0, .ref 20), (1, .ref 26), (2, .int (nI c)), (3, .int (nI ((cN (ah (zX σ 26) c) i) + 0))), (4, .int (nI i))]) rfl ?_
            refine Z.iincN B dX1_rank_48 (by decide) (a := i) rfl (L' := [(0, .ref 20), (1, .ref 26), (2, .int (nI c)), (3, .int (nI ((cN (ah (zX σ 26) c) i) + 0))), (4, .int (nI (i + 1)))]) rfl ?_
            refine Z.goto B dX1_rank_51 (tgt := 5) rfl ?_
            have e := ih (i + 1) (by omega) (by omega)
            simp only [cN] at e
            first | (rw [show ah (zX σ 26) c i = true from decide_eq_true (Or.inl h22)] at e; exact e) | (rw [show ah (zX σ 26) c i = true from decide_eq_true (Or.inr ⟨h32, by omega⟩)] at e; exact e) | (rw [show ah (zX σ 26) c i = false from decide_eq_false (fun h => h.elim h22 (fun h => h32 h.1))] at e; exact e) | (rw [show ah (zX σ 26) c i = false from decide_eq_false (fun h => h.elim h22 (fun h => by omega))] at e; exact e)
          · skip
            refine Z.iconst B dX1_rank_41 (v := nI 1) rfl ?_
            refine Z.goto B dX1_rank_42 (tgt := 46) rfl ?_
            refine Z.iaddN B dX1_rank_46 (a := cN (ah (zX σ 26) c) i) (b := 1) ?_
            refine Z.istore_n B dX1_rank_47 (by decide) (L' := [(0, .ref 20), (1, .ref 26), (2, .int (nI c)), (3, .int (nI ((cN (ah (zX σ 26) c) i) + 1))), (4, .int (nI i))]) rfl ?_
            refine Z.iincN B dX1_rank_48 (by decide) (a := i) rfl (L' := [(0, .ref 20), (1, .ref 26), (2, .int (nI c)), (3, .int (nI ((cN (ah (zX σ 26) c) i) + 1))), (4, .int (nI (i + 1)))]) rfl ?_
            refine Z.goto B dX1_rank_51 (tgt := 5) rfl ?_
            have e := ih (i + 1) (by omega) (by omega)
            simp only [cN] at e
            first | (rw [show ah (zX σ 26) c i = true from decide_eq_true (Or.inl h22)] at e; exact e) | (rw [show ah (zX σ 26) c i = true from decide_eq_true (Or.inr ⟨h32, by omega⟩)] at e; exact e) | (rw [show ah (zX σ 26) c i = false from decide_eq_false (fun h => h.elim h22 (fun h => h32 h.1))] at e; exact e) | (rw [show ah (zX σ 26) c i = false from decide_eq_false (fun h => h.elim h22 (fun h => by omega))] at e; exact e)
  exact hloop5 0 (Nat.zero_le _)
