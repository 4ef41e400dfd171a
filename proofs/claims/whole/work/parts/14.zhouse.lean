/-! the class's house: numbers, places, what ways show, what askers say -/
theorem zip {P : Prop} [Decidable P] (h : P) {a b : Int32} : some (Value.int a) = some (Value.int (if P then a else b)) := by rw [if_pos h]
theorem zin {P : Prop} [Decidable P] (h : ¬ P) {a b : Int32} : some (Value.int b) = some (Value.int (if P then a else b)) := by rw [if_neg h]
/-- a comer's number; 6: the sum -/
def cn (X : Nat → Int32) (c w : Nat) : Int32 := if w = 6 then X (c * 6) + X (c * 6 + 1) + X (c * 6 + 2) else X (c * 6 + w)
/-- the counts of the class's house: n comers, a askers, y ways -/
def zHd (σ : zSt) (n a y : Nat) : Prop := Lay σ ∧ zX σ 20 2 = nI n ∧ n ≤ 8 ∧ zX σ 20 5 = nI a ∧ a ≤ 4 ∧ zX σ 20 7 = nI y ∧ y ≤ 8
def zOd (σ : zSt) (a : Nat) (od : Nat → Nat) : Prop := ∀ i, i < a → zX σ 23 i = nI (od i) ∧ od i < a
def zWk (kd : Nat) : Nat := [9, 7, 4, 10, 3, 5, 0].getD kd 9
/-- a way at place q, of kind kd, with number num and part pa -/
def zWo (σ : zSt) (q kd pa num : Nat) : Prop := q < zN σ ∧ zK σ q = zWk kd ∧ zR σ q 3 = some 18 ∧ zX σ q 0 = nI kd ∧ zX σ q 1 = nI num ∧ zX σ q 2 = nI pa ∧ kd ≤ 6 ∧ pa ≤ 99 ∧ num < 8 ∧ 66 ≤ q
theorem zWo.uX {σ : zSt} {q kd pa num k : Nat} {f : Nat → Int32} (h : zWo σ q kd pa num) (hk : k < 66) : zWo (zuX σ k f) q kd pa num := by
  obtain ⟨h1, h2, h3, h4, h5, h6, h7, h8, h9, h10⟩ := h
  have e : zX (zuX σ k f) q = zX σ q := zfu_ne (by omega)
  exact ⟨h1, h2, h3, by rw [e]; exact h4, by rw [e]; exact h5, by rw [e]; exact h6, h7, h8, h9, h10⟩
def zSc (σ : zSt) : Nat → Int32 := fun a => zX σ 22 (a * 3)
def zLk (σ : zSt) : Nat → Int32 := fun a => zX σ 22 (a * 3 + 1)
def zDr (σ : zSt) : Nat → Int32 := fun a => zX σ 22 (a * 3 + 2)
def bo (F S K : Nat → Int32) (a c : Nat) : Int32 := if S a = F (c * 6 + 4) then nI 10 * K a else nI 0
def fe (F S K : Nat → Int32) (a c : Nat) : Int32 := nI 30 * cn F c 3 + bo F S K a c
/-- what a way of kind kd and part pa shows asker a of comer c -/
def shW (F S K : Nat → Int32) (kd pa a c : Nat) : Int32 :=
  if kd = 0 then fe F S K a c
  else if kd = 1 then (nI (pa % 11) * fe F S K a c + (nI 10 - nI (pa % 11)) * nI 10 * cn F c 6) / nI 10
  else if kd = 2 then (nI (pa % 11 / 2) * fe F S K a c + (nI 10 - nI (pa % 11 / 2)) * nI 10 * cn F c 6) / nI 10
  else if kd = 3 then nI 30 * cn F c (pa % 3)
  else if kd = 4 then (if cn F c 6 < nI pa then nI 260 else nI 270)
  else if kd = 5 then nI 30 * cn F c 5 + bo F S K a c
  else nI 30 * cn F c 5
/-- summing, counting, the first greatest -/
def sm (f : Nat → Int32) : Nat → Int32
  | 0 => nI 0
  | i + 1 => sm f i + f i
def ct (p : Nat → Bool) : Nat → Int32
  | 0 => nI 0
  | i + 1 => ct p i + nI (bif p i then 1 else 0)
def ga (f : Nat → Int32) : Nat → Nat
  | 0 => 0
  | i + 1 => if f (ga f i) < f (i + 1) then i + 1 else ga f i
def gI (f : Nat → Int32) : Nat → Int32
  | 0 => (-1)
  | i + 1 => nI (ga f i)
def gm (f : Nat → Int32) : Nat → Int32
  | 0 => nI 0
  | i + 1 => f (ga f i)
theorem ga_le (f : Nat → Int32) : ∀ i, ga f i ≤ i
  | 0 => Nat.le_refl _
  | i + 1 => by
    simp only [ga]
    split
    · exact Nat.le_refl _
    · exact Nat.le_succ_of_le (ga_le f i)
theorem gI_take {f : Nat → Int32} {i : Nat} (h : gI f i = (-1) ∨ gm f i < f i) (hi : i < 2 ^ 31) : gI f (i + 1) = nI i ∧ gm f (i + 1) = f i := by
  cases i with
  | zero => exact ⟨rfl, rfl⟩
  | succ i =>
    rcases h with h | h
    · exact absurd h (zm1 (Nat.lt_of_le_of_lt (ga_le f i) (by omega)))
    · have e : ga f (i + 1) = i + 1 := if_pos h
      exact ⟨congrArg nI e, congrArg f e⟩
theorem gI_keep {f : Nat → Int32} {i : Nat} (h1 : ¬ gI f i = (-1)) (h2 : f i ≤ gm f i) : gI f (i + 1) = gI f i ∧ gm f (i + 1) = gm f i := by
  cases i with
  | zero => exact absurd rfl h1
  | succ i =>
    have e : ga f (i + 1) = ga f i := if_neg (by rw [zlt_iff]; have := zle_iff.mp h2; intro h3; exact absurd h3 (Int.not_lt.mpr this))
    exact ⟨congrArg nI e, congrArg f e⟩
/-- what is said by the first p in order, and what they said together; d: drawn, s: shown, by places -/
def sd (sl : Bool) (d s : Nat → Int32) : Nat → Int32
  | 0 => nI 0
  | p + 1 => ((nI 10 - (if sl = true ∨ p = 0 then nI 0 else d p)) * s p + (if sl = true ∨ p = 0 then nI 0 else d p) * sd sl d s p) / nI 10
def st_ (sl : Bool) (d s : Nat → Int32) : Nat → Int32
  | 0 => nI 0
  | p + 1 => st_ sl d s p + sd sl d s (p + 1)
/-- a row of numbers, its first i set by f -/
def fi (i : Nat) (f g : Nat → Int32) : Nat → Int32 := fun j => if j < i then f j else g j
theorem fi_0 {f g : Nat → Int32} : fi 0 f g = g := by funext j; simp [fi]
theorem fi_s {i : Nat} {f g : Nat → Int32} {v : Int32} (hv : v = f i) : upd (fi i f g) i v = fi (i + 1) f g := by
  subst hv
  funext j
  simp only [upd, fi]
  by_cases h : j = i
  · subst h; simp
  · rw [if_neg h]
    by_cases h2 : j < i
    · rw [if_pos h2, if_pos (by omega)]
    · rw [if_neg h2, if_neg (by omega)]
theorem fi_at {i j : Nat} {f g : Nat → Int32} (h : j < i) : fi i f g j = f j := if_pos h

theorem t_X1_comerNumber {σ : zSt} {n a y : Nat} (H : zHd σ n a y) {c w : Nat} (hc : c < n) (hw : w ≤ 6) : Dt mX1_comerNumber [.ref 20, .int (nI c), .int (nI w)] σ (some (.int (cn (zX σ 21) c w))) σ := by
  obtain ⟨hl, hn, hn8, ha, ha4, hy, hy8⟩ := id H
  refine Dt.of (by decide) (Nat.le_of_ble_eq_true rfl) fun κ B Rt => ?_
  show Z κ 0 0 σ 0 [(0, .ref 20), (1, .int (nI c)), (2, .int (nI w))] []
  refine Z.iload_n B dX1_comerNumber_0 (x := nI c) rfl ?_
  refine Z.if_ltN B dX1_comerNumber_1 (tgt := 22) rfl (by omega) ?_
  refine Z.iload_n B dX1_comerNumber_4 (x := nI c) rfl ?_
  refine Z.aload_n B dX1_comerNumber_5 (v := .ref 20) rfl rfl ?_
  refine Z.getI (σ := σ) B fX1_37_1 dX1_comerNumber_6 (hl.n (k := 20) (by decide)) (hl.k (k := 20) (by decide)) (by decide) (v := nI n) hn ?_
  refine Z.icmp_geN B dX1_comerNumber_9 (tgt := 22) rfl (by omega) (by omega) (fun h9 => by exfalso; first | omega | contradiction | simp_all) (fun h9 => ?_)
  refine Z.iload_n B dX1_comerNumber_12 (x := nI w) rfl ?_
  refine Z.if_ltN B dX1_comerNumber_13 (tgt := 22) rfl (by omega) ?_
  refine Z.iload_n B dX1_comerNumber_16 (x := nI w) rfl ?_
  refine Z.bipush B dX1_comerNumber_17 (v := nI 6) rfl ?_
  refine Z.icmp_leN B dX1_comerNumber_19 (tgt := 24) rfl (by omega) (by omega) (fun h19 => ?_) (fun h19 => by exfalso; first | omega | contradiction | simp_all)
  refine Z.iload_n B dX1_comerNumber_24 (x := nI c) rfl ?_
  refine Z.bipush B dX1_comerNumber_25 (v := nI 6) rfl ?_
  refine Z.imulN B dX1_comerNumber_27 (a := c) (b := 6) ?_
  refine Z.istore_n B dX1_comerNumber_28 (by decide) (L' := [(0, .ref 20), (1, .int (nI c)), (2, .int (nI w)), (3, .int (nI (c * 6)))]) rfl ?_
  refine Z.iload_n B dX1_comerNumber_29 (x := nI w) rfl ?_
  refine Z.bipush B dX1_comerNumber_30 (v := nI 6) rfl ?_
  refine Z.icmp_neN B dX1_comerNumber_32 (tgt := 62) rfl (by omega) (by omega) (fun h32 => ?_) (fun h32 => ?_)
  · skip
    refine Z.aload_n B dX1_comerNumber_62 (v := .ref 20) rfl rfl ?_
    refine Z.getR (σ := σ) B fX1_15_1 dX1_comerNumber_63 (hl.n (k := 20) (by decide)) (hl.k (k := 20) (by decide)) (by decide) (j := 21) (hl.r (k := 20) (f := 1) (by decide) (by decide)) ?_
    refine Z.iload_n B dX1_comerNumber_66 (x := nI (c * 6)) rfl ?_
    refine Z.iload_n B dX1_comerNumber_67 (x := nI w) rfl ?_
    refine Z.iaddN B dX1_comerNumber_68 (a := c * 6) (b := w) ?_
    refine Z.iald (σ := σ) B dX1_comerNumber_69 (n := 48) (hl.n (k := 21) (by decide)) (hl.k (k := 21) (by decide)) (hl.l (k := 21) (by decide)) (by decide) (j := (c * 6) + w) rfl (by omega) (v := (zX σ 21 ((c * 6) + w))) rfl ?_
    refine Z.iret B Rt dX1_comerNumber_70 (ty := .int) rfl rfl (by decide) (by decide) ?_
    exact ⟨by unfold cn; first | rw [if_pos (by omega)] | rw [if_neg (by omega)], rfl⟩
  · skip
    refine Z.aload_n B dX1_comerNumber_35 (v := .ref 20) rfl rfl ?_
    refine Z.getR (σ := σ) B fX1_15_1 dX1_comerNumber_36 (hl.n (k := 20) (by decide)) (hl.k (k := 20) (by decide)) (by decide) (j := 21) (hl.r (k := 20) (f := 1) (by decide) (by decide)) ?_
    refine Z.iload_n B dX1_comerNumber_39 (x := nI (c * 6)) rfl ?_
    refine Z.iald (σ := σ) B dX1_comerNumber_40 (n := 48) (hl.n (k := 21) (by decide)) (hl.k (k := 21) (by decide)) (hl.l (k := 21) (by decide)) (by decide) (j := c * 6) rfl (by omega) (v := (zX σ 21 (c * 6))) rfl ?_
    refine Z.aload_n B dX1_comerNumber_41 (v := .ref 20) rfl rfl ?_
    refine Z.getR (σ := σ) B fX1_15_1 dX1_comerNumber_42 (hl.n (k := 20) (by decide)) (hl.k (k := 20) (by decide)) (by decide) (j := 21) (hl.r (k := 20) (f := 1) (by decide) (by decide)) ?_
    refine Z.iload_n B dX1_comerNumber_45 (x := nI (c * 6)) rfl ?_
    refine Z.iconst B dX1_comerNumber_46 (v := nI 1) rfl ?_
    refine Z.iaddN B dX1_comerNumber_47 (a := c * 6) (b := 1) ?_
    refine Z.iald (σ := σ) B dX1_comerNumber_48 (n := 48) (hl.n (k := 21) (by decide)) (hl.k (k := 21) (by decide)) (hl.l (k := 21) (by decide)) (by decide) (j := (c * 6) + 1) rfl (by omega) (v := (zX σ 21 ((c * 6) + 1))) rfl ?_
    refine Z.iadd B dX1_comerNumber_49 ?_
    refine Z.aload_n B dX1_comerNumber_50 (v := .ref 20) rfl rfl ?_
    refine Z.getR (σ := σ) B fX1_15_1 dX1_comerNumber_51 (hl.n (k := 20) (by decide)) (hl.k (k := 20) (by decide)) (by decide) (j := 21) (hl.r (k := 20) (f := 1) (by decide) (by decide)) ?_
    refine Z.iload_n B dX1_comerNumber_54 (x := nI (c * 6)) rfl ?_
    refine Z.iconst B dX1_comerNumber_55 (v := nI 2) rfl ?_
    refine Z.iaddN B dX1_comerNumber_56 (a := c * 6) (b := 2) ?_
    refine Z.iald (σ := σ) B dX1_comerNumber_57 (n := 48) (hl.n (k := 21) (by decide)) (hl.k (k := 21) (by decide)) (hl.l (k := 21) (by decide)) (by decide) (j := (c * 6) + 2) rfl (by omega) (v := (zX σ 21 ((c * 6) + 2))) rfl ?_
    refine Z.iadd B dX1_comerNumber_58 ?_
    refine Z.goto B dX1_comerNumber_59 (tgt := 70) rfl ?_
    refine Z.iret B Rt dX1_comerNumber_70 (ty := .int) rfl rfl (by decide) (by decide) ?_
    exact ⟨by unfold cn; first | rw [if_pos (by omega)] | rw [if_neg (by omega)], rfl⟩

theorem t_X1_hasComer_in {σ : zSt} {n a y : Nat} (H : zHd σ n a y) {c : Nat} (hc : c < n) : Dt mX1_hasComer [.ref 20, .int (nI c)] σ (some (.int (nI 1))) σ := by
  obtain ⟨hl, hn, hn8, ha, ha4, hy, hy8⟩ := id H
  refine Dt.of (by decide) (Nat.le_of_ble_eq_true rfl) fun κ B Rt => ?_
  show Z κ 0 0 σ 0 [(0, .ref 20), (1, .int (nI c))] []
  refine Z.iload_n B dX1_hasComer_0 (x := nI c) rfl ?_
  refine Z.if_ltN B dX1_hasComer_1 (tgt := 16) rfl (by omega) ?_
  refine Z.iload_n B dX1_hasComer_4 (x := nI c) rfl ?_
  refine Z.aload_n B dX1_hasComer_5 (v := .ref 20) rfl rfl ?_
  refine Z.getI (σ := σ) B fX1_37_1 dX1_hasComer_6 (hl.n (k := 20) (by decide)) (hl.k (k := 20) (by decide)) (by decide) (v := nI n) hn ?_
  refine Z.icmp_geN B dX1_hasComer_9 (tgt := 16) rfl (by omega) (by omega) (fun h9 => by exfalso; first | omega | contradiction | simp_all) (fun h9 => ?_)
  refine Z.iconst B dX1_hasComer_12 (v := nI 1) rfl ?_
  refine Z.goto B dX1_hasComer_13 (tgt := 17) rfl ?_
  refine Z.iret B Rt dX1_hasComer_17 (ty := .boolean) rfl rfl (by decide) (by decide) ?_
  exact ⟨rfl, rfl⟩

theorem t_X1_hasComer_neg {σ : zSt} {n a y : Nat} (H : zHd σ n a y) {c : Int32} (hc : c < 0) : Dt mX1_hasComer [.ref 20, .int c] σ (some (.int (nI 0))) σ := by
  obtain ⟨hl, hn, hn8, ha, ha4, hy, hy8⟩ := id H
  refine Dt.of (by decide) (Nat.le_of_ble_eq_true rfl) fun κ B Rt => ?_
  show Z κ 0 0 σ 0 [(0, .ref 20), (1, .int c)] []
  refine Z.iload_n B dX1_hasComer_0 (x := c) rfl ?_
  refine Z.if_lt B dX1_hasComer_1 (tgt := 16) rfl (fun h1 => ?_) (fun h1 => by exfalso; first | omega | contradiction | simp_all)
  refine Z.iconst B dX1_hasComer_16 (v := nI 0) rfl ?_
  refine Z.iret B Rt dX1_hasComer_17 (ty := .boolean) rfl rfl (by decide) (by decide) ?_
  exact ⟨rfl, rfl⟩

theorem t_X1_hasComer_far {σ : zSt} {n a y : Nat} (H : zHd σ n a y) {c : Int32} (hc0 : ¬ c < 0) (hc : nI n ≤ c) : Dt mX1_hasComer [.ref 20, .int c] σ (some (.int (nI 0))) σ := by
  obtain ⟨hl, hn, hn8, ha, ha4, hy, hy8⟩ := id H
  refine Dt.of (by decide) (Nat.le_of_ble_eq_true rfl) fun κ B Rt => ?_
  show Z κ 0 0 σ 0 [(0, .ref 20), (1, .int c)] []
  refine Z.iload_n B dX1_hasComer_0 (x := c) rfl ?_
  refine Z.if_lt B dX1_hasComer_1 (tgt := 16) rfl (fun h1 => by exfalso; first | omega | contradiction | simp_all) (fun h1 => ?_)
  refine Z.iload_n B dX1_hasComer_4 (x := c) rfl ?_
  refine Z.aload_n B dX1_hasComer_5 (v := .ref 20) rfl rfl ?_
  refine Z.getI (σ := σ) B fX1_37_1 dX1_hasComer_6 (hl.n (k := 20) (by decide)) (hl.k (k := 20) (by decide)) (by decide) (v := nI n) hn ?_
  refine Z.icmp_ge B dX1_hasComer_9 (tgt := 16) rfl (fun h9 => ?_) (fun h9 => by exfalso; first | omega | contradiction | simp_all)
  refine Z.iconst B dX1_hasComer_16 (v := nI 0) rfl ?_
  refine Z.iret B Rt dX1_hasComer_17 (ty := .boolean) rfl rfl (by decide) (by decide) ?_
  exact ⟨rfl, rfl⟩

theorem t_X1_hasAsker_in {σ : zSt} {n a y : Nat} (H : zHd σ n a y) {c : Nat} (hc : c < a) : Dt mX1_hasAsker [.ref 20, .int (nI c)] σ (some (.int (nI 1))) σ := by
  obtain ⟨hl, hn, hn8, ha, ha4, hy, hy8⟩ := id H
  refine Dt.of (by decide) (Nat.le_of_ble_eq_true rfl) fun κ B Rt => ?_
  show Z κ 0 0 σ 0 [(0, .ref 20), (1, .int (nI c))] []
  refine Z.iload_n B dX1_hasAsker_0 (x := nI c) rfl ?_
  refine Z.if_ltN B dX1_hasAsker_1 (tgt := 16) rfl (by omega) ?_
  refine Z.iload_n B dX1_hasAsker_4 (x := nI c) rfl ?_
  refine Z.aload_n B dX1_hasAsker_5 (v := .ref 20) rfl rfl ?_
  refine Z.getI (σ := σ) B fX1_41_1 dX1_hasAsker_6 (hl.n (k := 20) (by decide)) (hl.k (k := 20) (by decide)) (by decide) (v := nI a) ha ?_
  refine Z.icmp_geN B dX1_hasAsker_9 (tgt := 16) rfl (by omega) (by omega) (fun h9 => by exfalso; first | omega | contradiction | simp_all) (fun h9 => ?_)
  refine Z.iconst B dX1_hasAsker_12 (v := nI 1) rfl ?_
  refine Z.goto B dX1_hasAsker_13 (tgt := 17) rfl ?_
  refine Z.iret B Rt dX1_hasAsker_17 (ty := .boolean) rfl rfl (by decide) (by decide) ?_
  exact ⟨rfl, rfl⟩

theorem t_X1_hasAsker_neg {σ : zSt} {n a y : Nat} (H : zHd σ n a y) {c : Int32} (hc : c < 0) : Dt mX1_hasAsker [.ref 20, .int c] σ (some (.int (nI 0))) σ := by
  obtain ⟨hl, hn, hn8, ha, ha4, hy, hy8⟩ := id H
  refine Dt.of (by decide) (Nat.le_of_ble_eq_true rfl) fun κ B Rt => ?_
  show Z κ 0 0 σ 0 [(0, .ref 20), (1, .int c)] []
  refine Z.iload_n B dX1_hasAsker_0 (x := c) rfl ?_
  refine Z.if_lt B dX1_hasAsker_1 (tgt := 16) rfl (fun h1 => ?_) (fun h1 => by exfalso; first | omega | contradiction | simp_all)
  refine Z.iconst B dX1_hasAsker_16 (v := nI 0) rfl ?_
  refine Z.iret B Rt dX1_hasAsker_17 (ty := .boolean) rfl rfl (by decide) (by decide) ?_
  exact ⟨rfl, rfl⟩

theorem t_X1_hasAsker_far {σ : zSt} {n a y : Nat} (H : zHd σ n a y) {c : Int32} (hc0 : ¬ c < 0) (hc : nI a ≤ c) : Dt mX1_hasAsker [.ref 20, .int c] σ (some (.int (nI 0))) σ := by
  obtain ⟨hl, hn, hn8, ha, ha4, hy, hy8⟩ := id H
  refine Dt.of (by decide) (Nat.le_of_ble_eq_true rfl) fun κ B Rt => ?_
  show Z κ 0 0 σ 0 [(0, .ref 20), (1, .int c)] []
  refine Z.iload_n B dX1_hasAsker_0 (x := c) rfl ?_
  refine Z.if_lt B dX1_hasAsker_1 (tgt := 16) rfl (fun h1 => by exfalso; first | omega | contradiction | simp_all) (fun h1 => ?_)
  refine Z.iload_n B dX1_hasAsker_4 (x := c) rfl ?_
  refine Z.aload_n B dX1_hasAsker_5 (v := .ref 20) rfl rfl ?_
  refine Z.getI (σ := σ) B fX1_41_1 dX1_hasAsker_6 (hl.n (k := 20) (by decide)) (hl.k (k := 20) (by decide)) (by decide) (v := nI a) ha ?_
  refine Z.icmp_ge B dX1_hasAsker_9 (tgt := 16) rfl (fun h9 => ?_) (fun h9 => by exfalso; first | omega | contradiction | simp_all)
  refine Z.iconst B dX1_hasAsker_16 (v := nI 0) rfl ?_
  refine Z.iret B Rt dX1_hasAsker_17 (ty := .boolean) rfl rfl (by decide) (by decide) ?_
  exact ⟨rfl, rfl⟩

theorem t_X1_wayAt_in {σ : zSt} {n a y : Nat} (H : zHd σ n a y) {i q : Nat} (hi : i < y) (hq : zR σ 24 i = some q) : Dt mX1_wayAt [.ref 20, .int (nI i)] σ (some (.ref q)) σ := by
  obtain ⟨hl, hn, hn8, ha, ha4, hy, hy8⟩ := id H
  refine Dt.of (by decide) (Nat.le_of_ble_eq_true rfl) fun κ B Rt => ?_
  show Z κ 0 0 σ 0 [(0, .ref 20), (1, .int (nI i))] []
  refine Z.iload_n B dX1_wayAt_0 (x := nI i) rfl ?_
  refine Z.if_ltN B dX1_wayAt_1 (tgt := 21) rfl (by omega) ?_
  refine Z.iload_n B dX1_wayAt_4 (x := nI i) rfl ?_
  refine Z.aload_n B dX1_wayAt_5 (v := .ref 20) rfl rfl ?_
  refine Z.getI (σ := σ) B fX1_44_1 dX1_wayAt_6 (hl.n (k := 20) (by decide)) (hl.k (k := 20) (by decide)) (by decide) (v := nI y) hy ?_
  refine Z.icmp_geN B dX1_wayAt_9 (tgt := 21) rfl (by omega) (by omega) (fun h9 => by exfalso; first | omega | contradiction | simp_all) (fun h9 => ?_)
  refine Z.iload_n B dX1_wayAt_12 (x := nI i) rfl ?_
  refine Z.aload_n B dX1_wayAt_13 (v := .ref 20) rfl rfl ?_
  refine Z.getR (σ := σ) B fX1_27_1 dX1_wayAt_14 (hl.n (k := 20) (by decide)) (hl.k (k := 20) (by decide)) (by decide) (j := 24) (hl.r (k := 20) (f := 6) (by decide) (by decide)) ?_
  refine Z.alen (σ := σ) B dX1_wayAt_17 (hl.n (k := 24) (by decide)) (t := 3) (hl.k (k := 24) (by decide)) (by decide) (n := 8) (hl.l (k := 24) (by decide)) (v := nI 8) rfl ?_
  refine Z.icmp_ltN B dX1_wayAt_18 (tgt := 25) rfl (by omega) (by omega) (fun h18 => ?_) (fun h18 => by exfalso; first | omega | contradiction | simp_all)
  refine Z.aload_n B dX1_wayAt_25 (v := .ref 20) rfl rfl ?_
  refine Z.getR (σ := σ) B fX1_27_1 dX1_wayAt_26 (hl.n (k := 20) (by decide)) (hl.k (k := 20) (by decide)) (by decide) (j := 24) (hl.r (k := 20) (f := 6) (by decide) (by decide)) ?_
  refine Z.iload_n B dX1_wayAt_29 (x := nI i) rfl ?_
  refine Z.aldY (σ := σ) B dX1_wayAt_30 (n := 8) (hl.n (k := 24) (by decide)) (hl.k (k := 24) (by decide)) (hl.l (k := 24) (by decide)) (by decide) (j := i) rfl (by omega) (q := q) hq ?_
  refine Z.aret B Rt dX1_wayAt_31 (rt := (.object "FourAskOne$Way")) rfl (Or.inl ⟨_, rfl⟩) rfl (by decide) (by decide) ?_
  exact ⟨rfl, rfl⟩

theorem t_X1_wayAt_neg {σ : zSt} {n a y : Nat} (H : zHd σ n a y) {c : Int32} (hc : c < 0) : Dt mX1_wayAt [.ref 20, .int c] σ (some (.null)) σ := by
  obtain ⟨hl, hn, hn8, ha, ha4, hy, hy8⟩ := id H
  refine Dt.of (by decide) (Nat.le_of_ble_eq_true rfl) fun κ B Rt => ?_
  show Z κ 0 0 σ 0 [(0, .ref 20), (1, .int c)] []
  refine Z.iload_n B dX1_wayAt_0 (x := c) rfl ?_
  refine Z.if_lt B dX1_wayAt_1 (tgt := 21) rfl (fun h1 => ?_) (fun h1 => by exfalso; first | omega | contradiction | simp_all)
  refine Z.aconst_null B dX1_wayAt_21 ?_
  refine Z.goto B dX1_wayAt_22 (tgt := 31) rfl ?_
  refine Z.aret B Rt dX1_wayAt_31 (rt := (.object "FourAskOne$Way")) rfl (Or.inl ⟨_, rfl⟩) rfl (by decide) (by decide) ?_
  exact ⟨rfl, rfl⟩

theorem t_X1_wayAt_far {σ : zSt} {n a y : Nat} (H : zHd σ n a y) {c : Int32} (hc0 : ¬ c < 0) (hc : nI y ≤ c) : Dt mX1_wayAt [.ref 20, .int c] σ (some (.null)) σ := by
  obtain ⟨hl, hn, hn8, ha, ha4, hy, hy8⟩ := id H
  refine Dt.of (by decide) (Nat.le_of_ble_eq_true rfl) fun κ B Rt => ?_
  show Z κ 0 0 σ 0 [(0, .ref 20), (1, .int c)] []
  refine Z.iload_n B dX1_wayAt_0 (x := c) rfl ?_
  refine Z.if_lt B dX1_wayAt_1 (tgt := 21) rfl (fun h1 => by exfalso; first | omega | contradiction | simp_all) (fun h1 => ?_)
  refine Z.iload_n B dX1_wayAt_4 (x := c) rfl ?_
  refine Z.aload_n B dX1_wayAt_5 (v := .ref 20) rfl rfl ?_
  refine Z.getI (σ := σ) B fX1_44_1 dX1_wayAt_6 (hl.n (k := 20) (by decide)) (hl.k (k := 20) (by decide)) (by decide) (v := nI y) hy ?_
  refine Z.icmp_ge B dX1_wayAt_9 (tgt := 21) rfl (fun h9 => ?_) (fun h9 => by exfalso; first | omega | contradiction | simp_all)
  refine Z.aconst_null B dX1_wayAt_21 ?_
  refine Z.goto B dX1_wayAt_22 (tgt := 31) rfl ?_
  refine Z.aret B Rt dX1_wayAt_31 (rt := (.object "FourAskOne$Way")) rfl (Or.inl ⟨_, rfl⟩) rfl (by decide) (by decide) ?_
  exact ⟨rfl, rfl⟩

theorem t_X1_putComerNumber {σ : zSt} {n a y : Nat} (H : zHd σ n a y) {c w : Nat} {v : Int32} (hc : c < n) (hw : w < 6) : Dt mX1_putComerNumber [.ref 20, .int (nI c), .int (nI w), .int v] σ (none) (zuX σ 21 (upd (zX σ 21) (c * 6 + w) v)) := by
  obtain ⟨hl, hn, hn8, ha, ha4, hy, hy8⟩ := id H
  refine Dt.of (by decide) (Nat.le_of_ble_eq_true rfl) fun κ B Rt => ?_
  show Z κ 0 0 σ 0 [(0, .ref 20), (1, .int (nI c)), (2, .int (nI w)), (3, .int v)] []
  refine Z.aload_n B dX1_putComerNumber_0 (v := .ref 20) rfl rfl ?_
  refine Z.iload_n B dX1_putComerNumber_1 (x := nI c) rfl ?_
  refine Z.callVI (σ := σ) B (M' := mX1_hasComer) (as := [.int (nI c)]) (st := []) (v := .int (nI 1)) dX1_putComerNumber_2 wX1_hasComer iX1_hasComer sX1_hasComer kX1_56 (hl.n (k := 20) (by decide)) (hl.k (k := 20) (by decide)) (by decide) rfl rfl (t_X1_hasComer_in (σ := σ) H hc) rfl rfl (by decide) (by decide) (Nat.le_of_ble_eq_true rfl) (by decide) (by decide) ?_
  refine Z.if_eqN B dX1_putComerNumber_5 (tgt := 30) rfl (by omega) (fun h5 => by exfalso; first | omega | contradiction | simp_all) (fun h5 => ?_)
  refine Z.iload_n B dX1_putComerNumber_8 (x := nI w) rfl ?_
  refine Z.if_ltN B dX1_putComerNumber_9 (tgt := 30) rfl (by omega) ?_
  refine Z.iload_n B dX1_putComerNumber_12 (x := nI w) rfl ?_
  refine Z.bipush B dX1_putComerNumber_13 (v := nI 6) rfl ?_
  refine Z.icmp_geN B dX1_putComerNumber_15 (tgt := 30) rfl (by omega) (by omega) (fun h15 => by exfalso; first | omega | contradiction | simp_all) (fun h15 => ?_)
  refine Z.aload_n B dX1_putComerNumber_18 (v := .ref 20) rfl rfl ?_
  refine Z.getR (σ := σ) B fX1_15_1 dX1_putComerNumber_19 (hl.n (k := 20) (by decide)) (hl.k (k := 20) (by decide)) (by decide) (j := 21) (hl.r (k := 20) (f := 1) (by decide) (by decide)) ?_
  refine Z.iload_n B dX1_putComerNumber_22 (x := nI c) rfl ?_
  refine Z.bipush B dX1_putComerNumber_23 (v := nI 6) rfl ?_
  refine Z.imulN B dX1_putComerNumber_25 (a := c) (b := 6) ?_
  refine Z.iload_n B dX1_putComerNumber_26 (x := nI w) rfl ?_
  refine Z.iaddN B dX1_putComerNumber_27 (a := c * 6) (b := w) ?_
  refine Z.iload_n B dX1_putComerNumber_28 (x := v) rfl ?_
  refine Z.iast (σ := σ) B dX1_putComerNumber_29 (n := 48) (hl.n (k := 21) (by decide)) (hl.k (k := 21) (by decide)) (hl.l (k := 21) (by decide)) (by decide) (j := (c * 6) + w) rfl (by omega) (τ := (zuX σ 21 (upd (zX σ 21) ((c * 6) + w) v))) rfl ?_
  refine Z.vret B Rt dX1_putComerNumber_30 rfl (by decide) (by decide) ?_
  exact ⟨rfl, rfl⟩

theorem t_X1_askerNumber {σ : zSt} {n a y : Nat} (H : zHd σ n a y) {c w : Nat} (hc : c < a) (hw : w < 3) : Dt mX1_askerNumber [.ref 20, .int (nI c), .int (nI w)] σ (some (.int (zX σ 22 (c * 3 + w)))) σ := by
  obtain ⟨hl, hn, hn8, ha, ha4, hy, hy8⟩ := id H
  refine Dt.of (by decide) (Nat.le_of_ble_eq_true rfl) fun κ B Rt => ?_
  show Z κ 0 0 σ 0 [(0, .ref 20), (1, .int (nI c)), (2, .int (nI w))] []
  refine Z.iload_n B dX1_askerNumber_0 (x := nI c) rfl ?_
  refine Z.if_ltN B dX1_askerNumber_1 (tgt := 21) rfl (by omega) ?_
  refine Z.iload_n B dX1_askerNumber_4 (x := nI c) rfl ?_
  refine Z.aload_n B dX1_askerNumber_5 (v := .ref 20) rfl rfl ?_
  refine Z.getI (σ := σ) B fX1_41_1 dX1_askerNumber_6 (hl.n (k := 20) (by decide)) (hl.k (k := 20) (by decide)) (by decide) (v := nI a) ha ?_
  refine Z.icmp_geN B dX1_askerNumber_9 (tgt := 21) rfl (by omega) (by omega) (fun h9 => by exfalso; first | omega | contradiction | simp_all) (fun h9 => ?_)
  refine Z.iload_n B dX1_askerNumber_12 (x := nI w) rfl ?_
  refine Z.if_ltN B dX1_askerNumber_13 (tgt := 21) rfl (by omega) ?_
  refine Z.iload_n B dX1_askerNumber_16 (x := nI w) rfl ?_
  refine Z.iconst B dX1_askerNumber_17 (v := nI 3) rfl ?_
  refine Z.icmp_ltN B dX1_askerNumber_18 (tgt := 23) rfl (by omega) (by omega) (fun h18 => ?_) (fun h18 => by exfalso; first | omega | contradiction | simp_all)
  refine Z.aload_n B dX1_askerNumber_23 (v := .ref 20) rfl rfl ?_
  refine Z.getR (σ := σ) B fX1_19_1 dX1_askerNumber_24 (hl.n (k := 20) (by decide)) (hl.k (k := 20) (by decide)) (by decide) (j := 22) (hl.r (k := 20) (f := 3) (by decide) (by decide)) ?_
  refine Z.iload_n B dX1_askerNumber_27 (x := nI c) rfl ?_
  refine Z.iconst B dX1_askerNumber_28 (v := nI 3) rfl ?_
  refine Z.imulN B dX1_askerNumber_29 (a := c) (b := 3) ?_
  refine Z.iload_n B dX1_askerNumber_30 (x := nI w) rfl ?_
  refine Z.iaddN B dX1_askerNumber_31 (a := c * 3) (b := w) ?_
  refine Z.iald (σ := σ) B dX1_askerNumber_32 (n := 12) (hl.n (k := 22) (by decide)) (hl.k (k := 22) (by decide)) (hl.l (k := 22) (by decide)) (by decide) (j := (c * 3) + w) rfl (by omega) (v := (zX σ 22 ((c * 3) + w))) rfl ?_
  refine Z.iret B Rt dX1_askerNumber_33 (ty := .int) rfl rfl (by decide) (by decide) ?_
  exact ⟨rfl, rfl⟩

theorem t_X1_putDrawn {σ : zSt} {n a y : Nat} (H : zHd σ n a y) {c : Nat} {v : Int32} (hc : c < a) : Dt mX1_putDrawn [.ref 20, .int (nI c), .int v] σ (none) (zuX σ 22 (upd (zX σ 22) (c * 3 + 2) v)) := by
  obtain ⟨hl, hn, hn8, ha, ha4, hy, hy8⟩ := id H
  refine Dt.of (by decide) (Nat.le_of_ble_eq_true rfl) fun κ B Rt => ?_
  show Z κ 0 0 σ 0 [(0, .ref 20), (1, .int (nI c)), (2, .int v)] []
  refine Z.aload_n B dX1_putDrawn_0 (v := .ref 20) rfl rfl ?_
  refine Z.iload_n B dX1_putDrawn_1 (x := nI c) rfl ?_
  refine Z.callVI (σ := σ) B (M' := mX1_hasAsker) (as := [.int (nI c)]) (st := []) (v := .int (nI 1)) dX1_putDrawn_2 wX1_hasAsker iX1_hasAsker sX1_hasAsker kX1_60 (hl.n (k := 20) (by decide)) (hl.k (k := 20) (by decide)) (by decide) rfl rfl (t_X1_hasAsker_in (σ := σ) H hc) rfl rfl (by decide) (by decide) (Nat.le_of_ble_eq_true rfl) (by decide) (by decide) ?_
  refine Z.if_eqN B dX1_putDrawn_5 (tgt := 19) rfl (by omega) (fun h5 => by exfalso; first | omega | contradiction | simp_all) (fun h5 => ?_)
  refine Z.aload_n B dX1_putDrawn_8 (v := .ref 20) rfl rfl ?_
  refine Z.getR (σ := σ) B fX1_19_1 dX1_putDrawn_9 (hl.n (k := 20) (by decide)) (hl.k (k := 20) (by decide)) (by decide) (j := 22) (hl.r (k := 20) (f := 3) (by decide) (by decide)) ?_
  refine Z.iload_n B dX1_putDrawn_12 (x := nI c) rfl ?_
  refine Z.iconst B dX1_putDrawn_13 (v := nI 3) rfl ?_
  refine Z.imulN B dX1_putDrawn_14 (a := c) (b := 3) ?_
  refine Z.iconst B dX1_putDrawn_15 (v := nI 2) rfl ?_
  refine Z.iaddN B dX1_putDrawn_16 (a := c * 3) (b := 2) ?_
  refine Z.iload_n B dX1_putDrawn_17 (x := v) rfl ?_
  refine Z.iast (σ := σ) B dX1_putDrawn_18 (n := 12) (hl.n (k := 22) (by decide)) (hl.k (k := 22) (by decide)) (hl.l (k := 22) (by decide)) (by decide) (j := (c * 3) + 2) rfl (by omega) (τ := (zuX σ 22 (upd (zX σ 22) ((c * 3) + 2) v))) rfl ?_
  refine Z.vret B Rt dX1_putDrawn_19 rfl (by decide) (by decide) ?_
  exact ⟨rfl, rfl⟩

theorem t_X1_letComersGo {σ : zSt} {n a y : Nat} (H : zHd σ n a y)  : Dt mX1_letComersGo [.ref 20] σ (some (.int (nI n))) (zuX σ 20 (upd (zX σ 20) 2 (nI 0))) := by
  obtain ⟨hl, hn, hn8, ha, ha4, hy, hy8⟩ := id H
  refine Dt.of (by decide) (Nat.le_of_ble_eq_true rfl) fun κ B Rt => ?_
  show Z κ 0 0 σ 0 [(0, .ref 20)] []
  refine Z.aload_n B dX1_letComersGo_0 (v := .ref 20) rfl rfl ?_
  refine Z.getI (σ := σ) B fX1_37_1 dX1_letComersGo_1 (hl.n (k := 20) (by decide)) (hl.k (k := 20) (by decide)) (by decide) (v := nI n) hn ?_
  refine Z.istore_n B dX1_letComersGo_4 (by decide) (L' := [(0, .ref 20), (1, .int (nI n))]) rfl ?_
  refine Z.aload_n B dX1_letComersGo_5 (v := .ref 20) rfl rfl ?_
  refine Z.iconst B dX1_letComersGo_6 (v := nI 0) rfl ?_
  refine Z.putI (σ := σ) B fX1_37_1 (ty := .int) ⟨_, _, _, rfl, rfl, by decide +kernel⟩ dX1_letComersGo_7 (hl.n (k := 20) (by decide)) (hl.k (k := 20) (by decide)) (by decide) rfl rfl (τ := (zuX σ 20 (upd (zX σ 20) 2 (nI 0)))) rfl ?_
  refine Z.iload_n B dX1_letComersGo_10 (x := nI n) rfl ?_
  refine Z.iret B Rt dX1_letComersGo_11 (ty := .int) rfl rfl (by decide) (by decide) ?_
  exact ⟨rfl, rfl⟩

theorem t_X1_first_in {σ : zSt} {n a y : Nat} (H : zHd σ n a y) (h0 : 0 < a) : Dt mX1_first [.ref 20] σ (some (.int (zX σ 23 0))) σ := by
  obtain ⟨hl, hn, hn8, ha, ha4, hy, hy8⟩ := id H
  refine Dt.of (by decide) (Nat.le_of_ble_eq_true rfl) fun κ B Rt => ?_
  show Z κ 0 0 σ 0 [(0, .ref 20)] []
  refine Z.aload_n B dX1_first_0 (v := .ref 20) rfl rfl ?_
  refine Z.getI (σ := σ) B fX1_41_1 dX1_first_1 (hl.n (k := 20) (by decide)) (hl.k (k := 20) (by decide)) (by decide) (v := nI a) ha ?_
  refine Z.if_leN B dX1_first_4 (tgt := 16) rfl (by omega) (fun h4 => by exfalso; first | omega | contradiction | simp_all) (fun h4 => ?_)
  refine Z.aload_n B dX1_first_7 (v := .ref 20) rfl rfl ?_
  refine Z.getR (σ := σ) B fX1_22_1 dX1_first_8 (hl.n (k := 20) (by decide)) (hl.k (k := 20) (by decide)) (by decide) (j := 23) (hl.r (k := 20) (f := 4) (by decide) (by decide)) ?_
  refine Z.iconst B dX1_first_11 (v := nI 0) rfl ?_
  refine Z.iald (σ := σ) B dX1_first_12 (n := 4) (hl.n (k := 23) (by decide)) (hl.k (k := 23) (by decide)) (hl.l (k := 23) (by decide)) (by decide) (j := 0) rfl (by omega) (v := (zX σ 23 0)) rfl ?_
  refine Z.goto B dX1_first_13 (tgt := 17) rfl ?_
  refine Z.iret B Rt dX1_first_17 (ty := .int) rfl rfl (by decide) (by decide) ?_
  exact ⟨rfl, rfl⟩

theorem t_X1_first_no {σ : zSt} {n a y : Nat} (H : zHd σ n a y) (h0 : a = 0) : Dt mX1_first [.ref 20] σ (some (.int (-1))) σ := by
  obtain ⟨hl, hn, hn8, ha, ha4, hy, hy8⟩ := id H
  refine Dt.of (by decide) (Nat.le_of_ble_eq_true rfl) fun κ B Rt => ?_
  show Z κ 0 0 σ 0 [(0, .ref 20)] []
  refine Z.aload_n B dX1_first_0 (v := .ref 20) rfl rfl ?_
  refine Z.getI (σ := σ) B fX1_41_1 dX1_first_1 (hl.n (k := 20) (by decide)) (hl.k (k := 20) (by decide)) (by decide) (v := nI a) ha ?_
  refine Z.if_leN B dX1_first_4 (tgt := 16) rfl (by omega) (fun h4 => ?_) (fun h4 => by exfalso; first | omega | contradiction | simp_all)
  refine Z.iconst B dX1_first_16 (v := (-1)) rfl ?_
  refine Z.iret B Rt dX1_first_17 (ty := .int) rfl rfl (by decide) (by decide) ?_
  exact ⟨rfl, rfl⟩

theorem t_X1_comerCount {σ : zSt} {n a y : Nat} (H : zHd σ n a y)  : Dt mX1_comerCount [.ref 20] σ (some (.int (nI n))) σ := by
  obtain ⟨hl, hn, hn8, ha, ha4, hy, hy8⟩ := id H
  refine Dt.of (by decide) (Nat.le_of_ble_eq_true rfl) fun κ B Rt => ?_
  show Z κ 0 0 σ 0 [(0, .ref 20)] []
  refine Z.aload_n B dX1_comerCount_0 (v := .ref 20) rfl rfl ?_
  refine Z.getI (σ := σ) B fX1_37_1 dX1_comerCount_1 (hl.n (k := 20) (by decide)) (hl.k (k := 20) (by decide)) (by decide) (v := nI n) hn ?_
  refine Z.iret B Rt dX1_comerCount_4 (ty := .int) rfl rfl (by decide) (by decide) ?_
  exact ⟨rfl, rfl⟩

theorem t_X1_askerCount {σ : zSt} {n a y : Nat} (H : zHd σ n a y)  : Dt mX1_askerCount [.ref 20] σ (some (.int (nI a))) σ := by
  obtain ⟨hl, hn, hn8, ha, ha4, hy, hy8⟩ := id H
  refine Dt.of (by decide) (Nat.le_of_ble_eq_true rfl) fun κ B Rt => ?_
  show Z κ 0 0 σ 0 [(0, .ref 20)] []
  refine Z.aload_n B dX1_askerCount_0 (v := .ref 20) rfl rfl ?_
  refine Z.getI (σ := σ) B fX1_41_1 dX1_askerCount_1 (hl.n (k := 20) (by decide)) (hl.k (k := 20) (by decide)) (by decide) (v := nI a) ha ?_
  refine Z.iret B Rt dX1_askerCount_4 (ty := .int) rfl rfl (by decide) (by decide) ?_
  exact ⟨rfl, rfl⟩

theorem t_X1_wayCount {σ : zSt} {n a y : Nat} (H : zHd σ n a y)  : Dt mX1_wayCount [.ref 20] σ (some (.int (nI y))) σ := by
  obtain ⟨hl, hn, hn8, ha, ha4, hy, hy8⟩ := id H
  refine Dt.of (by decide) (Nat.le_of_ble_eq_true rfl) fun κ B Rt => ?_
  show Z κ 0 0 σ 0 [(0, .ref 20)] []
  refine Z.aload_n B dX1_wayCount_0 (v := .ref 20) rfl rfl ?_
  refine Z.getI (σ := σ) B fX1_44_1 dX1_wayCount_1 (hl.n (k := 20) (by decide)) (hl.k (k := 20) (by decide)) (by decide) (v := nI y) hy ?_
  refine Z.iret B Rt dX1_wayCount_4 (ty := .int) rfl rfl (by decide) (by decide) ?_
  exact ⟨rfl, rfl⟩

theorem t_X1_seedNow {σ : zSt} (hl : Lay σ) : Dt mX1_seedNow [.ref 20] σ (some (.int (zX σ 20 8))) σ := by
  refine Dt.of (by decide) (Nat.le_of_ble_eq_true rfl) fun κ B Rt => ?_
  show Z κ 0 0 σ 0 [(0, .ref 20)] []
  refine Z.aload_n B dX1_seedNow_0 (v := .ref 20) rfl rfl ?_
  refine Z.getI (σ := σ) B fX1_47_1 dX1_seedNow_1 (hl.n (k := 20) (by decide)) (hl.k (k := 20) (by decide)) (by decide) (v := (zX σ 20 8)) rfl ?_
  refine Z.iret B Rt dX1_seedNow_4 (ty := .int) rfl rfl (by decide) (by decide) ?_
  exact ⟨rfl, rfl⟩

theorem t_X1_putSeed {σ : zSt} (hl : Lay σ) {v : Int32} : Dt mX1_putSeed [.ref 20, .int v] σ (none) (zuX σ 20 (upd (zX σ 20) 8 v)) := by
  refine Dt.of (by decide) (Nat.le_of_ble_eq_true rfl) fun κ B Rt => ?_
  show Z κ 0 0 σ 0 [(0, .ref 20), (1, .int v)] []
  refine Z.aload_n B dX1_putSeed_0 (v := .ref 20) rfl rfl ?_
  refine Z.iload_n B dX1_putSeed_1 (x := v) rfl ?_
  refine Z.putI (σ := σ) B fX1_47_1 (ty := .int) ⟨_, _, _, rfl, rfl, by decide +kernel⟩ dX1_putSeed_2 (hl.n (k := 20) (by decide)) (hl.k (k := 20) (by decide)) (by decide) rfl rfl (τ := (zuX σ 20 (upd (zX σ 20) 8 v))) rfl ?_
  refine Z.vret B Rt dX1_putSeed_5 rfl (by decide) (by decide) ?_
  exact ⟨rfl, rfl⟩

theorem t_X1_placeOf {σ : zSt} {n a y : Nat} (H : zHd σ n a y) {od : Nat → Nat} (ho : zOd σ a od) {p x : Nat} (hp : p < a) (hx : od p = x) (hmin : ∀ j, j < p → od j ≠ x) : Dt mX1_placeOf [.ref 20, .int (nI x)] σ (some (.int (nI p))) σ := by
  obtain ⟨hl, hn, hn8, ha, ha4, hy, hy8⟩ := id H
  refine Dt.of (by decide) (Nat.le_of_ble_eq_true rfl) fun κ B Rt => ?_
  show Z κ 0 0 σ 0 [(0, .ref 20), (1, .int (nI x))] []
  have hx4 : x < a := hx ▸ (ho p hp).2
  refine Z.iconst B dX1_placeOf_0 (v := nI 0) rfl ?_
  refine Z.istore_n B dX1_placeOf_1 (by decide) (L' := [(0, .ref 20), (1, .int (nI x)), (2, .int (nI 0))]) rfl ?_
  have hloop2 : ∀ i : Nat, i ≤ p → Z κ 0 0 σ 2 [(0, .ref 20), (1, .int (nI x)), (2, .int (nI i))] [] := by
    refine z_loop (fun i => p - i) (fun i ih hi => ?_)
    refine Z.iload_n B dX1_placeOf_2 (x := nI i) rfl ?_
    refine Z.aload_n B dX1_placeOf_3 (v := .ref 20) rfl rfl ?_
    refine Z.getI (σ := σ) B fX1_41_1 dX1_placeOf_4 (hl.n (k := 20) (by decide)) (hl.k (k := 20) (by decide)) (by decide) (v := nI a) ha ?_
    refine Z.icmp_geN B dX1_placeOf_7 (tgt := 28) rfl (by omega) (by omega) (fun h7 => by exfalso; first | omega | contradiction | simp_all) (fun h7 => ?_)
    refine Z.aload_n B dX1_placeOf_10 (v := .ref 20) rfl rfl ?_
    refine Z.getR (σ := σ) B fX1_22_1 dX1_placeOf_11 (hl.n (k := 20) (by decide)) (hl.k (k := 20) (by decide)) (by decide) (j := 23) (hl.r (k := 20) (f := 4) (by decide) (by decide)) ?_
    refine Z.iload_n B dX1_placeOf_14 (x := nI i) rfl ?_
    refine Z.iald (σ := σ) B dX1_placeOf_15 (n := 4) (hl.n (k := 23) (by decide)) (hl.k (k := 23) (by decide)) (hl.l (k := 23) (by decide)) (by decide) (j := i) rfl (by omega) (v := nI (od i)) (ho i (by omega)).1 ?_
    refine Z.iload_n B dX1_placeOf_16 (x := nI x) rfl ?_
    have ho2 := (ho i (by omega)).2
    refine Z.icmp_neN B dX1_placeOf_17 (tgt := 22) rfl (by omega) (by omega) (fun h17 => ?_) (fun h17 => ?_)
    · skip
      have hne : i ≠ p := fun e => h17 (by rw [e]; exact hx)
      refine Z.iincN B dX1_placeOf_22 (by decide) (a := i) rfl (L' := [(0, .ref 20), (1, .int (nI x)), (2, .int (nI (i + 1)))]) rfl ?_
      refine Z.goto B dX1_placeOf_25 (tgt := 2) rfl ?_
      exact ih (i + 1) (by omega) (by have := hmin i; omega)
    · skip
      obtain rfl : i = p := Nat.le_antisymm hi (Nat.le_of_not_lt fun h => hmin i h h17)
      refine Z.iload_n B dX1_placeOf_20 (x := nI i) rfl ?_
      refine Z.iret B Rt dX1_placeOf_21 (ty := .int) rfl rfl (by decide) (by decide) ?_
      exact ⟨rfl, rfl⟩
  exact hloop2 0 (Nat.zero_le _)

theorem t_X1_sumOfSums {σ : zSt} {n a y : Nat} (H : zHd σ n a y)  : Dt mX1_sumOfSums [.ref 20] σ (some (.int (sm (fun c => cn (zX σ 21) c 6) n))) σ := by
  obtain ⟨hl, hn, hn8, ha, ha4, hy, hy8⟩ := id H
  refine Dt.of (by decide) (Nat.le_of_ble_eq_true rfl) fun κ B Rt => ?_
  show Z κ 0 0 σ 0 [(0, .ref 20)] []
  refine Z.iconst B dX1_sumOfSums_0 (v := nI 0) rfl ?_
  refine Z.istore_n B dX1_sumOfSums_1 (by decide) (L' := [(0, .ref 20), (1, .int (nI 0))]) rfl ?_
  refine Z.iconst B dX1_sumOfSums_2 (v := nI 0) rfl ?_
  refine Z.istore_n B dX1_sumOfSums_3 (by decide) (L' := [(0, .ref 20), (1, .int (nI 0)), (2, .int (nI 0))]) rfl ?_
  have hloop4 : ∀ i : Nat, i ≤ n → Z κ 0 0 σ 4 [(0, .ref 20), (1, .int (sm (fun c => cn (zX σ 21) c 6) i)), (2, .int (nI i))] [] := by
    refine z_loop (fun i => n - i) (fun i ih hi => ?_)
    refine Z.iload_n B dX1_sumOfSums_4 (x := nI i) rfl ?_
    refine Z.aload_n B dX1_sumOfSums_5 (v := .ref 20) rfl rfl ?_
    refine Z.getI (σ := σ) B fX1_37_1 dX1_sumOfSums_6 (hl.n (k := 20) (by decide)) (hl.k (k := 20) (by decide)) (by decide) (v := nI n) hn ?_
    refine Z.icmp_geN B dX1_sumOfSums_9 (tgt := 28) rfl (by omega) (by omega) (fun h9 => ?_) (fun h9 => ?_)
    · skip
      obtain rfl : i = n := by omega
      refine Z.iload_n B dX1_sumOfSums_28 (x := sm (fun c => cn (zX σ 21) c 6) i) rfl ?_
      refine Z.iret B Rt dX1_sumOfSums_29 (ty := .int) rfl rfl (by decide) (by decide) ?_
      exact ⟨rfl, rfl⟩
    · skip
      refine Z.iload_n B dX1_sumOfSums_12 (x := sm (fun c => cn (zX σ 21) c 6) i) rfl ?_
      refine Z.aload_n B dX1_sumOfSums_13 (v := .ref 20) rfl rfl ?_
      refine Z.iload_n B dX1_sumOfSums_14 (x := nI i) rfl ?_
      refine Z.bipush B dX1_sumOfSums_15 (v := nI 6) rfl ?_
      refine Z.callVI (σ := σ) B (M' := mX1_comerNumber) (as := [.int (nI i), .int (nI 6)]) (st := [.int (sm (fun c => cn (zX σ 21) c 6) i)]) (v := .int (cn (zX σ 21) i 6)) dX1_sumOfSums_17 wX1_comerNumber iX1_comerNumber sX1_comerNumber kX1_95 (hl.n (k := 20) (by decide)) (hl.k (k := 20) (by decide)) (by decide) rfl rfl (t_X1_comerNumber (σ := σ) H (c := i) (by omega) (by decide)) rfl rfl (by decide) (by decide) (Nat.le_of_ble_eq_true rfl) (by decide) (by decide) ?_
      refine Z.iadd B dX1_sumOfSums_20 ?_
      refine Z.istore_n B dX1_sumOfSums_21 (by decide) (L' := [(0, .ref 20), (1, .int ((sm (fun c => cn (zX σ 21) c 6) i) + (cn (zX σ 21) i 6))), (2, .int (nI i))]) rfl ?_
      refine Z.iincN B dX1_sumOfSums_22 (by decide) (a := i) rfl (L' := [(0, .ref 20), (1, .int ((sm (fun c => cn (zX σ 21) c 6) i) + (cn (zX σ 21) i 6))), (2, .int (nI (i + 1)))]) rfl ?_
      refine Z.goto B dX1_sumOfSums_25 (tgt := 4) rfl ?_
      exact ih (i + 1) (by omega) (by omega)
  exact hloop4 0 (Nat.zero_le _)

theorem t_X1_sumsBelow {σ : zSt} {n a y : Nat} (H : zHd σ n a y) {b : Int32} : Dt mX1_sumsBelow [.ref 20, .int b] σ (some (.int (ct (fun c => decide (cn (zX σ 21) c 6 < b)) n))) σ := by
  obtain ⟨hl, hn, hn8, ha, ha4, hy, hy8⟩ := id H
  refine Dt.of (by decide) (Nat.le_of_ble_eq_true rfl) fun κ B Rt => ?_
  show Z κ 0 0 σ 0 [(0, .ref 20), (1, .int b)] []
  refine Z.iconst B dX1_sumsBelow_0 (v := nI 0) rfl ?_
  refine Z.istore_n B dX1_sumsBelow_1 (by decide) (L' := [(0, .ref 20), (1, .int b), (2, .int (nI 0))]) rfl ?_
  refine Z.iconst B dX1_sumsBelow_2 (v := nI 0) rfl ?_
  refine Z.istore_n B dX1_sumsBelow_3 (by decide) (L' := [(0, .ref 20), (1, .int b), (2, .int (nI 0)), (3, .int (nI 0))]) rfl ?_
  have hloop4 : ∀ i : Nat, i ≤ n → Z κ 0 0 σ 4 [(0, .ref 20), (1, .int b), (2, .int (ct (fun c => decide (cn (zX σ 21) c 6 < b)) i)), (3, .int (nI i))] [] := by
    refine z_loop (fun i => n - i) (fun i ih hi => ?_)
    refine Z.iload_n B dX1_sumsBelow_4 (x := nI i) rfl ?_
    refine Z.aload_n B dX1_sumsBelow_5 (v := .ref 20) rfl rfl ?_
    refine Z.getI (σ := σ) B fX1_37_1 dX1_sumsBelow_6 (hl.n (k := 20) (by decide)) (hl.k (k := 20) (by decide)) (by decide) (v := nI n) hn ?_
    refine Z.icmp_geN B dX1_sumsBelow_9 (tgt := 37) rfl (by omega) (by omega) (fun h9 => ?_) (fun h9 => ?_)
    · skip
      obtain rfl : i = n := by omega
      refine Z.iload_n B dX1_sumsBelow_37 (x := ct (fun c => decide (cn (zX σ 21) c 6 < b)) i) rfl ?_
      refine Z.iret B Rt dX1_sumsBelow_38 (ty := .int) rfl rfl (by decide) (by decide) ?_
      exact ⟨rfl, rfl⟩
    · skip
      refine Z.iload_n B dX1_sumsBelow_12 (x := ct (fun c => decide (cn (zX σ 21) c 6 < b)) i) rfl ?_
      refine Z.aload_n B dX1_sumsBelow_13 (v := .ref 20) rfl rfl ?_
      refine Z.iload_n B dX1_sumsBelow_14 (x := nI i) rfl ?_
      refine Z.bipush B dX1_sumsBelow_15 (v := nI 6) rfl ?_
      refine Z.callVI (σ := σ) B (M' := mX1_comerNumber) (as := [.int (nI i), .int (nI 6)]) (st := [.int (ct (fun c => decide (cn (zX σ 21) c 6 < b)) i)]) (v := .int (cn (zX σ 21) i 6)) dX1_sumsBelow_17 wX1_comerNumber iX1_comerNumber sX1_comerNumber kX1_95 (hl.n (k := 20) (by decide)) (hl.k (k := 20) (by decide)) (by decide) rfl rfl (t_X1_comerNumber (σ := σ) H (c := i) (by omega) (by decide)) rfl rfl (by decide) (by decide) (Nat.le_of_ble_eq_true rfl) (by decide) (by decide) ?_
      refine Z.iload_n B dX1_sumsBelow_20 (x := b) rfl ?_
      refine Z.icmp_ge B dX1_sumsBelow_21 (tgt := 28) rfl (fun h21 => ?_) (fun h21 => ?_)
      · skip
        have h21 : ¬ cn (zX σ 21) i 6 < b := by rw [zlt_iff]; have := zle_iff.mp h21; omega
        refine Z.iconst B dX1_sumsBelow_28 (v := nI 0) rfl ?_
        refine Z.iadd B dX1_sumsBelow_29 ?_
        refine Z.istore_n B dX1_sumsBelow_30 (by decide) (L' := [(0, .ref 20), (1, .int b), (2, .int ((ct (fun c => decide (cn (zX σ 21) c 6 < b)) i) + (nI 0))), (3, .int (nI i))]) rfl ?_
        refine Z.iincN B dX1_sumsBelow_31 (by decide) (a := i) rfl (L' := [(0, .ref 20), (1, .int b), (2, .int ((ct (fun c => decide (cn (zX σ 21) c 6 < b)) i) + (nI 0))), (3, .int (nI (i + 1)))]) rfl ?_
        refine Z.goto B dX1_sumsBelow_34 (tgt := 4) rfl ?_
        have e := ih (i + 1) (by omega) (by omega)
        simp only [ct] at e
        first | (rw [decide_eq_true h21] at e; exact e) | (rw [decide_eq_false h21] at e; exact e)
      · skip
        have h21 : cn (zX σ 21) i 6 < b := by rw [zlt_iff]; rw [zle_iff] at h21; omega
        refine Z.iconst B dX1_sumsBelow_24 (v := nI 1) rfl ?_
        refine Z.goto B dX1_sumsBelow_25 (tgt := 29) rfl ?_
        refine Z.iadd B dX1_sumsBelow_29 ?_
        refine Z.istore_n B dX1_sumsBelow_30 (by decide) (L' := [(0, .ref 20), (1, .int b), (2, .int ((ct (fun c => decide (cn (zX σ 21) c 6 < b)) i) + (nI 1))), (3, .int (nI i))]) rfl ?_
        refine Z.iincN B dX1_sumsBelow_31 (by decide) (a := i) rfl (L' := [(0, .ref 20), (1, .int b), (2, .int ((ct (fun c => decide (cn (zX σ 21) c 6 < b)) i) + (nI 1))), (3, .int (nI (i + 1)))]) rfl ?_
        refine Z.goto B dX1_sumsBelow_34 (tgt := 4) rfl ?_
        have e := ih (i + 1) (by omega) (by omega)
        simp only [ct] at e
        first | (rw [decide_eq_true h21] at e; exact e) | (rw [decide_eq_false h21] at e; exact e)
  exact hloop4 0 (Nat.zero_le _)

theorem t_X1_bonus {σ : zSt} {n a y : Nat} (H : zHd σ n a y) {b c : Nat} (hb : b < a) (hc : c < n) : Dt mX1_bonus [.ref 20, .int (nI b), .int (nI c)] σ (some (.int (bo (zX σ 21) (zSc σ) (zLk σ) b c))) σ := by
  obtain ⟨hl, hn, hn8, ha, ha4, hy, hy8⟩ := id H
  refine Dt.of (by decide) (Nat.le_of_ble_eq_true rfl) fun κ B Rt => ?_
  show Z κ 0 0 σ 0 [(0, .ref 20), (1, .int (nI b)), (2, .int (nI c))] []
  refine Z.iload_n B dX1_bonus_0 (x := nI b) rfl ?_
  refine Z.if_ltN B dX1_bonus_1 (tgt := 24) rfl (by omega) ?_
  refine Z.iload_n B dX1_bonus_4 (x := nI b) rfl ?_
  refine Z.aload_n B dX1_bonus_5 (v := .ref 20) rfl rfl ?_
  refine Z.getI (σ := σ) B fX1_41_1 dX1_bonus_6 (hl.n (k := 20) (by decide)) (hl.k (k := 20) (by decide)) (by decide) (v := nI a) ha ?_
  refine Z.icmp_geN B dX1_bonus_9 (tgt := 24) rfl (by omega) (by omega) (fun h9 => by exfalso; first | omega | contradiction | simp_all) (fun h9 => ?_)
  refine Z.iload_n B dX1_bonus_12 (x := nI c) rfl ?_
  refine Z.if_ltN B dX1_bonus_13 (tgt := 24) rfl (by omega) ?_
  refine Z.iload_n B dX1_bonus_16 (x := nI c) rfl ?_
  refine Z.aload_n B dX1_bonus_17 (v := .ref 20) rfl rfl ?_
  refine Z.getI (σ := σ) B fX1_37_1 dX1_bonus_18 (hl.n (k := 20) (by decide)) (hl.k (k := 20) (by decide)) (by decide) (v := nI n) hn ?_
  refine Z.icmp_ltN B dX1_bonus_21 (tgt := 26) rfl (by omega) (by omega) (fun h21 => ?_) (fun h21 => by exfalso; first | omega | contradiction | simp_all)
  refine Z.iload_n B dX1_bonus_26 (x := nI b) rfl ?_
  refine Z.iconst B dX1_bonus_27 (v := nI 3) rfl ?_
  refine Z.imulN B dX1_bonus_28 (a := b) (b := 3) ?_
  refine Z.istore_n B dX1_bonus_29 (by decide) (L' := [(0, .ref 20), (1, .int (nI b)), (2, .int (nI c)), (3, .int (nI (b * 3)))]) rfl ?_
  refine Z.aload_n B dX1_bonus_30 (v := .ref 20) rfl rfl ?_
  refine Z.getR (σ := σ) B fX1_19_1 dX1_bonus_31 (hl.n (k := 20) (by decide)) (hl.k (k := 20) (by decide)) (by decide) (j := 22) (hl.r (k := 20) (f := 3) (by decide) (by decide)) ?_
  refine Z.iload_n B dX1_bonus_34 (x := nI (b * 3)) rfl ?_
  refine Z.iconst B dX1_bonus_35 (v := nI 0) rfl ?_
  refine Z.iaddN B dX1_bonus_36 (a := b * 3) (b := 0) ?_
  refine Z.iald (σ := σ) B dX1_bonus_37 (n := 12) (hl.n (k := 22) (by decide)) (hl.k (k := 22) (by decide)) (hl.l (k := 22) (by decide)) (by decide) (j := (b * 3) + 0) rfl (by omega) (v := (zX σ 22 ((b * 3) + 0))) rfl ?_
  refine Z.aload_n B dX1_bonus_38 (v := .ref 20) rfl rfl ?_
  refine Z.getR (σ := σ) B fX1_15_1 dX1_bonus_39 (hl.n (k := 20) (by decide)) (hl.k (k := 20) (by decide)) (by decide) (j := 21) (hl.r (k := 20) (f := 1) (by decide) (by decide)) ?_
  refine Z.iload_n B dX1_bonus_42 (x := nI c) rfl ?_
  refine Z.bipush B dX1_bonus_43 (v := nI 6) rfl ?_
  refine Z.imulN B dX1_bonus_45 (a := c) (b := 6) ?_
  refine Z.iconst B dX1_bonus_46 (v := nI 4) rfl ?_
  refine Z.iaddN B dX1_bonus_47 (a := c * 6) (b := 4) ?_
  refine Z.iald (σ := σ) B dX1_bonus_48 (n := 48) (hl.n (k := 21) (by decide)) (hl.k (k := 21) (by decide)) (hl.l (k := 21) (by decide)) (by decide) (j := (c * 6) + 4) rfl (by omega) (v := (zX σ 21 ((c * 6) + 4))) rfl ?_
  refine Z.icmp_ne B dX1_bonus_49 (tgt := 56) rfl (fun h49 => ?_) (fun h49 => ?_)
  · skip
    refine Z.iconst B dX1_bonus_56 (v := nI 0) rfl ?_
    refine Z.istore B dX1_bonus_57 (by decide) (L' := [(0, .ref 20), (1, .int (nI b)), (2, .int (nI c)), (3, .int (nI (b * 3))), (4, .int (nI 0))]) rfl ?_
    refine Z.iload B dX1_bonus_59 (x := nI 0) rfl ?_
    refine Z.if_eqN B dX1_bonus_61 (tgt := 78) rfl (by omega) (fun h61 => ?_) (fun h61 => by exfalso; first | omega | contradiction | simp_all)
    refine Z.iconst B dX1_bonus_78 (v := nI 0) rfl ?_
    refine Z.iret B Rt dX1_bonus_79 (ty := .int) rfl rfl (by decide) (by decide) ?_
    first | exact ⟨zip h49, rfl⟩ | exact ⟨zin h49, rfl⟩
  · skip
    refine Z.iconst B dX1_bonus_52 (v := nI 1) rfl ?_
    refine Z.goto B dX1_bonus_53 (tgt := 57) rfl ?_
    refine Z.istore B dX1_bonus_57 (by decide) (L' := [(0, .ref 20), (1, .int (nI b)), (2, .int (nI c)), (3, .int (nI (b * 3))), (4, .int (nI 1))]) rfl ?_
    refine Z.iload B dX1_bonus_59 (x := nI 1) rfl ?_
    refine Z.if_eqN B dX1_bonus_61 (tgt := 78) rfl (by omega) (fun h61 => by exfalso; first | omega | contradiction | simp_all) (fun h61 => ?_)
    refine Z.bipush B dX1_bonus_64 (v := nI 10) rfl ?_
    refine Z.aload_n B dX1_bonus_66 (v := .ref 20) rfl rfl ?_
    refine Z.getR (σ := σ) B fX1_19_1 dX1_bonus_67 (hl.n (k := 20) (by decide)) (hl.k (k := 20) (by decide)) (by decide) (j := 22) (hl.r (k := 20) (f := 3) (by decide) (by decide)) ?_
    refine Z.iload_n B dX1_bonus_70 (x := nI (b * 3)) rfl ?_
    refine Z.iconst B dX1_bonus_71 (v := nI 1) rfl ?_
    refine Z.iaddN B dX1_bonus_72 (a := b * 3) (b := 1) ?_
    refine Z.iald (σ := σ) B dX1_bonus_73 (n := 12) (hl.n (k := 22) (by decide)) (hl.k (k := 22) (by decide)) (hl.l (k := 22) (by decide)) (by decide) (j := (b * 3) + 1) rfl (by omega) (v := (zX σ 22 ((b * 3) + 1))) rfl ?_
    refine Z.imul B dX1_bonus_74 ?_
    refine Z.goto B dX1_bonus_75 (tgt := 79) rfl ?_
    refine Z.iret B Rt dX1_bonus_79 (ty := .int) rfl rfl (by decide) (by decide) ?_
    first | exact ⟨zip h49, rfl⟩ | exact ⟨zin h49, rfl⟩
