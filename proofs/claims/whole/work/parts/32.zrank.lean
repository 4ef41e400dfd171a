/-! rankings: the class and the model -/
theorem nI_and (a b : Nat) : nI a &&& nI b = nI (a &&& b) := by
  apply Int32.toBitVec_inj.mp
  show BitVec.ofNat 32 a &&& BitVec.ofNat 32 b = BitVec.ofNat 32 (a &&& b)
  apply BitVec.eq_of_toNat_eq
  simp [BitVec.toNat_and, BitVec.toNat_ofNat, Nat.and_mod_two_pow]
theorem nI_or (a b : Nat) : nI a ||| nI b = nI (a ||| b) := by
  apply Int32.toBitVec_inj.mp
  show BitVec.ofNat 32 a ||| BitVec.ofNat 32 b = BitVec.ofNat 32 (a ||| b)
  apply BitVec.eq_of_toNat_eq
  simp [BitVec.toNat_or, BitVec.toNat_ofNat, Nat.or_mod_two_pow]
theorem zshl {c : Nat} (hc : c < 8) : nI 1 <<< (nI c &&& 31) = nI (2 ^ c) := by
  have : c = 0 ∨ c = 1 ∨ c = 2 ∨ c = 3 ∨ c = 4 ∨ c = 5 ∨ c = 6 ∨ c = 7 := by omega
  rcases this with rfl | rfl | rfl | rfl | rfl | rfl | rfl | rfl <;> decide +kernel
/-- the mask of the first t of r -/
def mkr (r : Nat → Nat) : Nat → Nat
  | 0 => 0
  | i + 1 => mkr r i ||| 2 ^ (r i)
theorem mkr_lt {r : Nat → Nat} : ∀ t, (∀ j, j < t → r j < 8) → mkr r t < 256
  | 0, _ => Nat.lt_of_lt_of_le (Nat.zero_lt_one) (by decide)
  | t + 1, h => by
    have h1 := mkr_lt t (fun j hj => h j (by omega))
    have h2 : 2 ^ (r t) < 2 ^ 8 := Nat.pow_lt_pow_right (by decide) (h t (by omega))
    exact Nat.or_lt_two_pow (n := 8) h1 h2
theorem mkr_bit {r : Nat → Nat} {c : Nat} : ∀ t, (mkr r t).testBit c = true ↔ ∃ j, j < t ∧ r j = c
  | 0 => by simp [mkr]
  | t + 1 => by
    simp only [mkr, Nat.testBit_or, Bool.or_eq_true, mkr_bit t, Nat.testBit_two_pow]
    constructor
    · rintro (⟨j, h1, h2⟩ | h)
      · exact ⟨j, by omega, h2⟩
      · exact ⟨t, by omega, by simpa using h⟩
    · rintro ⟨j, h1, h2⟩
      rcases Nat.lt_or_ge j t with h | h
      · exact Or.inl ⟨j, h, h2⟩
      · have : j = t := by omega
        subst this
        exact Or.inr (by simpa using h2)
theorem and_pow {m c : Nat} : (m &&& 2 ^ c = 0) ↔ m.testBit c = false := by
  constructor
  · intro h
    have := congrArg (fun x => Nat.testBit x c) h
    simpa [Nat.testBit_and, Nat.testBit_two_pow] using this
  · intro h
    apply Nat.eq_of_testBit_eq
    intro i
    rw [Nat.testBit_and, Nat.testBit_two_pow, Nat.zero_testBit]
    by_cases hi : c = i
    · subst hi; rw [h]; rfl
    · simp [hi]
theorem div_bit {m c : Nat} : (m / 2 ^ c % 2 = 1) ↔ m.testBit c = true := by
  rw [Nat.testBit_eq_decide_div_mod_eq]; simp
/-- a good beginning of a ranking -/
def rkG (e : Nat → Int32) (r : Nat → Nat) (m n t : Nat) : Prop := ∀ j, j < t → j < m ∧ e j = nI (r j) ∧ r j < n ∧ ∀ k, k < j → r k ≠ r j
def rkB (e : Nat → Int32) (r : Nat → Nat) (m n t : Nat) : Prop := m ≤ t ∨ zOut (e t) n ∨ ∃ c j, e t = nI c ∧ c < n ∧ j < t ∧ r j = c
theorem rkG.lt {e : Nat → Int32} {r : Nat → Nat} {m n t : Nat} (h : rkG e r m n t) (hn : n ≤ 8) {i : Nat} (hi : i ≤ t) : mkr r i < 256 := mkr_lt i fun j hj => by have := (h j (by omega)).2.2.1; omega
theorem rkG.new {e : Nat → Int32} {r : Nat → Nat} {m n t : Nat} (h : rkG e r m n t) {i : Nat} (hi : i < t) : (mkr r i).testBit (r i) = false := by
  cases hb : (mkr r i).testBit (r i) with
  | false => rfl
  | true =>
    obtain ⟨j, h1, h2⟩ := (mkr_bit i).mp hb
    exact absurd h2 ((h i hi).2.2.2 j h1)
def trK (r : Nat → Nat) (n : Nat) (X : Nat → Int32) : Nat → Nat → Int32
  | 0 => X
  | i + 1 => upd (trK r n X i) (r i) (nI n - nI i)
def trM (r : Nat → Nat) (X : Nat → Int32) : Nat → Nat → Int32
  | 0 => X
  | i + 1 => upd (trM r X i) (r i) (-nI i)

theorem t_X1_fault_ok {σ : zSt} {n a y : Nat} (H : zHd σ n a y) {q : Nat} (hq : zSh σ q) {m t : Nat} {r : Nat → Nat} (hm : zX σ q 2 = nI m) (hm160 : m ≤ 160) (hg : rkG (fun i => (zY σ (q + 1) i).toInt32) r m n t) (ht : t = n) : Dt mX1_faultOfRanking [.ref 20, .ref q] σ (some (.int (if n < m then nI n else (-1)))) σ := by
  obtain ⟨hl, hn, hn8, ha, ha4, hy, hy8⟩ := id H
  refine Dt.of (by decide) (Nat.le_of_ble_eq_true rfl) fun κ B Rt => ?_
  show Z κ 0 0 σ 0 [(0, .ref 20), (1, .ref q)] []
  refine Z.iconst B dX1_faultOfRanking_0 (v := nI 0) rfl ?_
  refine Z.istore_n B dX1_faultOfRanking_1 (by decide) (L' := [(0, .ref 20), (1, .ref q), (2, .int (nI 0))]) rfl ?_
  refine Z.iconst B dX1_faultOfRanking_2 (v := nI 0) rfl ?_
  refine Z.istore_n B dX1_faultOfRanking_3 (by decide) (L' := [(0, .ref 20), (1, .ref q), (2, .int (nI 0)), (3, .int (nI 0))]) rfl ?_
  have hloop4 : ∀ i : Nat, i ≤ t → Z κ 0 0 σ 4 [(0, .ref 20), (1, .ref q), (2, .int (nI (mkr r i))), (3, .int (nI i))] [] := by
    refine z_loop (fun i => t - i) (fun i ih hi => ?_)
    refine Z.iload_n B dX1_faultOfRanking_4 (x := nI i) rfl ?_
    refine Z.aload_n B dX1_faultOfRanking_5 (v := .ref 20) rfl rfl ?_
    refine Z.getI (σ := σ) B fX1_37_1 dX1_faultOfRanking_6 (hl.n (k := 20) (by decide)) (hl.k (k := 20) (by decide)) (by decide) (v := nI n) hn ?_
    refine Z.icmp_geN B dX1_faultOfRanking_9 (tgt := 60) rfl (by omega) (by omega) (fun h9 => ?_) (fun h9 => ?_)
    · skip
      obtain rfl : t = i := by omega
      refine Z.aload_n B dX1_faultOfRanking_60 (v := .ref q) rfl rfl ?_
      refine Z.callVI (σ := σ) B (M' := mX6_size) (as := []) (st := []) (v := .int (zX σ q 2)) dX1_faultOfRanking_61 wX6_size iX6_size sX6_size kX1_149 (Nat.lt_of_succ_lt hq.1) hq.2.1 (by decide) rfl rfl (t_X6_size (σ := σ) hq) rfl rfl (by decide) (by decide) (Nat.le_of_ble_eq_true rfl) (by decide) (by decide) ?_
      refine Z.aload_n B dX1_faultOfRanking_64 (v := .ref 20) rfl rfl ?_
      refine Z.getI (σ := σ) B fX1_37_1 dX1_faultOfRanking_65 (hl.n (k := 20) (by decide)) (hl.k (k := 20) (by decide)) (by decide) (v := nI n) hn ?_
      rw [hm]
      refine Z.icmp_leN B dX1_faultOfRanking_68 (tgt := 78) rfl (by omega) (by omega) (fun h68 => ?_) (fun h68 => ?_)
      · skip
        refine Z.iconst B dX1_faultOfRanking_78 (v := (-1)) rfl ?_
        refine Z.iret B Rt dX1_faultOfRanking_79 (ty := .int) rfl rfl (by decide) (by decide) ?_
        first | exact ⟨by rw [if_pos (by omega)], rfl⟩ | exact ⟨by rw [if_neg (by omega)], rfl⟩
      · skip
        refine Z.aload_n B dX1_faultOfRanking_71 (v := .ref 20) rfl rfl ?_
        refine Z.getI (σ := σ) B fX1_37_1 dX1_faultOfRanking_72 (hl.n (k := 20) (by decide)) (hl.k (k := 20) (by decide)) (by decide) (v := nI n) hn ?_
        refine Z.goto B dX1_faultOfRanking_75 (tgt := 79) rfl ?_
        refine Z.iret B Rt dX1_faultOfRanking_79 (ty := .int) rfl rfl (by decide) (by decide) ?_
        first | exact ⟨by rw [if_pos (by omega)], rfl⟩ | exact ⟨by rw [if_neg (by omega)], rfl⟩
    · skip
      refine Z.aload_n B dX1_faultOfRanking_12 (v := .ref q) rfl rfl ?_
      refine Z.iload_n B dX1_faultOfRanking_13 (x := nI i) rfl ?_
      have hit : i < t := by omega
      have hgi := hg i hit
      refine Z.callVI (σ := σ) B (M' := mX6_intAt) (as := [.int (nI i)]) (st := []) (v := .int ((fun i => (zY σ (q + 1) i).toInt32) i)) dX1_faultOfRanking_14 wX6_intAt iX6_intAt sX6_intAt kX1_144 (Nat.lt_of_succ_lt hq.1) hq.2.1 (by decide) rfl rfl (t_X6_intAt_in (σ := σ) hq hm hm160 (i := i) hgi.1) rfl rfl (by decide) (by decide) (Nat.le_of_ble_eq_true rfl) (by decide) (by decide) ?_
      have hr8 : r i < 8 := by have := hgi.2.2.1; omega
      rw [hgi.2.1]
      refine Z.istore B dX1_faultOfRanking_17 (by decide) (L' := [(0, .ref 20), (1, .ref q), (2, .int (nI (mkr r i))), (3, .int (nI i)), (4, .int (nI (r i)))]) rfl ?_
      refine Z.iload_n B dX1_faultOfRanking_19 (x := nI i) rfl ?_
      refine Z.aload_n B dX1_faultOfRanking_20 (v := .ref q) rfl rfl ?_
      refine Z.callVI (σ := σ) B (M' := mX6_size) (as := []) (st := [.int (nI i)]) (v := .int (zX σ q 2)) dX1_faultOfRanking_21 wX6_size iX6_size sX6_size kX1_149 (Nat.lt_of_succ_lt hq.1) hq.2.1 (by decide) rfl rfl (t_X6_size (σ := σ) hq) rfl rfl (by decide) (by decide) (Nat.le_of_ble_eq_true rfl) (by decide) (by decide) ?_
      rw [hm]
      refine Z.icmp_geN B dX1_faultOfRanking_24 (tgt := 45) rfl (by omega) (by omega) (fun h24 => by exfalso; have := hgi.1; omega) (fun h24 => ?_)
      refine Z.aload_n B dX1_faultOfRanking_27 (v := .ref 20) rfl rfl ?_
      refine Z.iload B dX1_faultOfRanking_28 (x := nI (r i)) rfl ?_
      refine Z.callVI (σ := σ) B (M' := mX1_hasComer) (as := [.int (nI (r i))]) (st := []) (v := .int (nI 1)) dX1_faultOfRanking_30 wX1_hasComer iX1_hasComer sX1_hasComer kX1_56 (hl.n (k := 20) (by decide)) (hl.k (k := 20) (by decide)) (by decide) rfl rfl (t_X1_hasComer_in (σ := σ) H hgi.2.2.1) rfl rfl (by decide) (by decide) (Nat.le_of_ble_eq_true rfl) (by decide) (by decide) ?_
      refine Z.if_eqN B dX1_faultOfRanking_33 (tgt := 45) rfl (by omega) (fun h33 => by exfalso; first | omega | contradiction | simp_all) (fun h33 => ?_)
      refine Z.iload_n B dX1_faultOfRanking_36 (x := nI (mkr r i)) rfl ?_
      refine Z.iconst B dX1_faultOfRanking_37 (v := nI 1) rfl ?_
      refine Z.iload B dX1_faultOfRanking_38 (x := nI (r i)) rfl ?_
      refine Z.ishl B dX1_faultOfRanking_40 ?_
      refine Z.eqS (st' := [.int (nI (2 ^ (r i))), .int (nI (mkr r i))]) (by rw [zshl hr8]) ?_
      refine Z.iandv B dX1_faultOfRanking_41 (v := nI ((mkr r i) &&& 2 ^ (r i))) (nI_and _ _) ?_
      have hlt := hg.lt hn8 (i := i) (by omega)
      have hlt2 : mkr r i &&& 2 ^ (r i) ≤ mkr r i := Nat.and_le_left
      refine Z.if_eqN B dX1_faultOfRanking_42 (tgt := 47) rfl (by omega) (fun h42 => ?_) (fun h42 => by exfalso; exact h42 (and_pow.mpr (hg.new hit)))
      refine Z.iload_n B dX1_faultOfRanking_47 (x := nI (mkr r i)) rfl ?_
      refine Z.iconst B dX1_faultOfRanking_48 (v := nI 1) rfl ?_
      refine Z.iload B dX1_faultOfRanking_49 (x := nI (r i)) rfl ?_
      refine Z.ishl B dX1_faultOfRanking_51 ?_
      refine Z.eqS (st' := [.int (nI (2 ^ (r i))), .int (nI (mkr r i))]) (by rw [zshl hr8]) ?_
      refine Z.iorv B dX1_faultOfRanking_52 (v := nI (mkr r (i + 1))) (nI_or _ _) ?_
      refine Z.istore_n B dX1_faultOfRanking_53 (by decide) (L' := [(0, .ref 20), (1, .ref q), (2, .int (nI (mkr r (i + 1)))), (3, .int (nI i)), (4, .int (nI (r i)))]) rfl ?_
      refine Z.iincN B dX1_faultOfRanking_54 (by decide) (a := i) rfl (L' := [(0, .ref 20), (1, .ref q), (2, .int (nI (mkr r (i + 1)))), (3, .int (nI (i + 1))), (4, .int (nI (r i)))]) rfl ?_
      refine Z.goto B dX1_faultOfRanking_57 (tgt := 4) rfl ?_
      refine Z.drop 4 (L' := [(0, .ref 20), (1, .ref q), (2, .int (nI (mkr r (i + 1)))), (3, .int (nI (i + 1)))]) rfl ?_
      exact ih (i + 1) (by omega) (by omega)
  exact hloop4 0 (Nat.zero_le _)

theorem t_X1_fault_at {σ : zSt} {n a y : Nat} (H : zHd σ n a y) {q : Nat} (hq : zSh σ q) {m t : Nat} {r : Nat → Nat} (hm : zX σ q 2 = nI m) (hm160 : m ≤ 160) (hg : rkG (fun i => (zY σ (q + 1) i).toInt32) r m n t) (ht : t < n) (hb : rkB (fun i => (zY σ (q + 1) i).toInt32) r m n t) : Dt mX1_faultOfRanking [.ref 20, .ref q] σ (some (.int (nI t))) σ := by
  obtain ⟨hl, hn, hn8, ha, ha4, hy, hy8⟩ := id H
  refine Dt.of (by decide) (Nat.le_of_ble_eq_true rfl) fun κ B Rt => ?_
  show Z κ 0 0 σ 0 [(0, .ref 20), (1, .ref q)] []
  refine Z.iconst B dX1_faultOfRanking_0 (v := nI 0) rfl ?_
  refine Z.istore_n B dX1_faultOfRanking_1 (by decide) (L' := [(0, .ref 20), (1, .ref q), (2, .int (nI 0))]) rfl ?_
  refine Z.iconst B dX1_faultOfRanking_2 (v := nI 0) rfl ?_
  refine Z.istore_n B dX1_faultOfRanking_3 (by decide) (L' := [(0, .ref 20), (1, .ref q), (2, .int (nI 0)), (3, .int (nI 0))]) rfl ?_
  have hloop4 : ∀ i : Nat, i ≤ t → Z κ 0 0 σ 4 [(0, .ref 20), (1, .ref q), (2, .int (nI (mkr r i))), (3, .int (nI i))] [] := by
    refine z_loop (fun i => t - i) (fun i ih hi => ?_)
    refine Z.iload_n B dX1_faultOfRanking_4 (x := nI i) rfl ?_
    refine Z.aload_n B dX1_faultOfRanking_5 (v := .ref 20) rfl rfl ?_
    refine Z.getI (σ := σ) B fX1_37_1 dX1_faultOfRanking_6 (hl.n (k := 20) (by decide)) (hl.k (k := 20) (by decide)) (by decide) (v := nI n) hn ?_
    refine Z.icmp_geN B dX1_faultOfRanking_9 (tgt := 60) rfl (by omega) (by omega) (fun h9 => by exfalso; first | omega | contradiction | simp_all) (fun h9 => ?_)
    rcases (by omega : i < t ∨ (i = t ∧ m ≤ t) ∨ (i = t ∧ t < m)) with hit | ⟨rfl, hmt⟩ | ⟨rfl, hmt⟩
    · skip
      refine Z.aload_n B dX1_faultOfRanking_12 (v := .ref q) rfl rfl ?_
      refine Z.iload_n B dX1_faultOfRanking_13 (x := nI i) rfl ?_
      have hgi := hg i hit
      refine Z.callVI (σ := σ) B (M' := mX6_intAt) (as := [.int (nI i)]) (st := []) (v := .int ((fun i => (zY σ (q + 1) i).toInt32) i)) dX1_faultOfRanking_14 wX6_intAt iX6_intAt sX6_intAt kX1_144 (Nat.lt_of_succ_lt hq.1) hq.2.1 (by decide) rfl rfl (t_X6_intAt_in (σ := σ) hq hm hm160 (i := i) hgi.1) rfl rfl (by decide) (by decide) (Nat.le_of_ble_eq_true rfl) (by decide) (by decide) ?_
      have hr8 : r i < 8 := by have := hgi.2.2.1; omega
      rw [hgi.2.1]
      refine Z.istore B dX1_faultOfRanking_17 (by decide) (L' := [(0, .ref 20), (1, .ref q), (2, .int (nI (mkr r i))), (3, .int (nI i)), (4, .int (nI (r i)))]) rfl ?_
      refine Z.iload_n B dX1_faultOfRanking_19 (x := nI i) rfl ?_
      refine Z.aload_n B dX1_faultOfRanking_20 (v := .ref q) rfl rfl ?_
      refine Z.callVI (σ := σ) B (M' := mX6_size) (as := []) (st := [.int (nI i)]) (v := .int (zX σ q 2)) dX1_faultOfRanking_21 wX6_size iX6_size sX6_size kX1_149 (Nat.lt_of_succ_lt hq.1) hq.2.1 (by decide) rfl rfl (t_X6_size (σ := σ) hq) rfl rfl (by decide) (by decide) (Nat.le_of_ble_eq_true rfl) (by decide) (by decide) ?_
      rw [hm]
      refine Z.icmp_geN B dX1_faultOfRanking_24 (tgt := 45) rfl (by omega) (by omega) (fun h24 => by exfalso; have := hgi.1; omega) (fun h24 => ?_)
      refine Z.aload_n B dX1_faultOfRanking_27 (v := .ref 20) rfl rfl ?_
      refine Z.iload B dX1_faultOfRanking_28 (x := nI (r i)) rfl ?_
      refine Z.callVI (σ := σ) B (M' := mX1_hasComer) (as := [.int (nI (r i))]) (st := []) (v := .int (nI 1)) dX1_faultOfRanking_30 wX1_hasComer iX1_hasComer sX1_hasComer kX1_56 (hl.n (k := 20) (by decide)) (hl.k (k := 20) (by decide)) (by decide) rfl rfl (t_X1_hasComer_in (σ := σ) H hgi.2.2.1) rfl rfl (by decide) (by decide) (Nat.le_of_ble_eq_true rfl) (by decide) (by decide) ?_
      refine Z.if_eqN B dX1_faultOfRanking_33 (tgt := 45) rfl (by omega) (fun h33 => by exfalso; first | omega | contradiction | simp_all) (fun h33 => ?_)
      refine Z.iload_n B dX1_faultOfRanking_36 (x := nI (mkr r i)) rfl ?_
      refine Z.iconst B dX1_faultOfRanking_37 (v := nI 1) rfl ?_
      refine Z.iload B dX1_faultOfRanking_38 (x := nI (r i)) rfl ?_
      refine Z.ishl B dX1_faultOfRanking_40 ?_
      refine Z.eqS (st' := [.int (nI (2 ^ (r i))), .int (nI (mkr r i))]) (by rw [zshl hr8]) ?_
      refine Z.iandv B dX1_faultOfRanking_41 (v := nI ((mkr r i) &&& 2 ^ (r i))) (nI_and _ _) ?_
      have hlt := hg.lt hn8 (i := i) (by omega)
      have hlt2 : mkr r i &&& 2 ^ (r i) ≤ mkr r i := Nat.and_le_left
      refine Z.if_eqN B dX1_faultOfRanking_42 (tgt := 47) rfl (by omega) (fun h42 => ?_) (fun h42 => by exfalso; exact h42 (and_pow.mpr (hg.new hit)))
      refine Z.iload_n B dX1_faultOfRanking_47 (x := nI (mkr r i)) rfl ?_
      refine Z.iconst B dX1_faultOfRanking_48 (v := nI 1) rfl ?_
      refine Z.iload B dX1_faultOfRanking_49 (x := nI (r i)) rfl ?_
      refine Z.ishl B dX1_faultOfRanking_51 ?_
      refine Z.eqS (st' := [.int (nI (2 ^ (r i))), .int (nI (mkr r i))]) (by rw [zshl hr8]) ?_
      refine Z.iorv B dX1_faultOfRanking_52 (v := nI (mkr r (i + 1))) (nI_or _ _) ?_
      refine Z.istore_n B dX1_faultOfRanking_53 (by decide) (L' := [(0, .ref 20), (1, .ref q), (2, .int (nI (mkr r (i + 1)))), (3, .int (nI i)), (4, .int (nI (r i)))]) rfl ?_
      refine Z.iincN B dX1_faultOfRanking_54 (by decide) (a := i) rfl (L' := [(0, .ref 20), (1, .ref q), (2, .int (nI (mkr r (i + 1)))), (3, .int (nI (i + 1))), (4, .int (nI (r i)))]) rfl ?_
      refine Z.goto B dX1_faultOfRanking_57 (tgt := 4) rfl ?_
      refine Z.drop 4 (L' := [(0, .ref 20), (1, .ref q), (2, .int (nI (mkr r (i + 1)))), (3, .int (nI (i + 1)))]) rfl ?_
      exact ih (i + 1) (by omega) (by omega)
    · skip
      refine Z.aload_n B dX1_faultOfRanking_12 (v := .ref q) rfl rfl ?_
      refine Z.iload_n B dX1_faultOfRanking_13 (x := nI i) rfl ?_
      refine Z.callVI (σ := σ) B (M' := mX6_intAt) (as := [.int (nI i)]) (st := []) (v := .int (nI 0)) dX1_faultOfRanking_14 wX6_intAt iX6_intAt sX6_intAt kX1_144 (Nat.lt_of_succ_lt hq.1) hq.2.1 (by decide) rfl rfl (t_X6_intAt_far (σ := σ) hq hm hm160 (i := i) hmt (by omega)) rfl rfl (by decide) (by decide) (Nat.le_of_ble_eq_true rfl) (by decide) (by decide) ?_
      refine Z.istore B dX1_faultOfRanking_17 (by decide) (L' := [(0, .ref 20), (1, .ref q), (2, .int (nI (mkr r i))), (3, .int (nI i)), (4, .int (nI 0))]) rfl ?_
      refine Z.iload_n B dX1_faultOfRanking_19 (x := nI i) rfl ?_
      refine Z.aload_n B dX1_faultOfRanking_20 (v := .ref q) rfl rfl ?_
      refine Z.callVI (σ := σ) B (M' := mX6_size) (as := []) (st := [.int (nI i)]) (v := .int (zX σ q 2)) dX1_faultOfRanking_21 wX6_size iX6_size sX6_size kX1_149 (Nat.lt_of_succ_lt hq.1) hq.2.1 (by decide) rfl rfl (t_X6_size (σ := σ) hq) rfl rfl (by decide) (by decide) (Nat.le_of_ble_eq_true rfl) (by decide) (by decide) ?_
      rw [hm]
      refine Z.icmp_geN B dX1_faultOfRanking_24 (tgt := 45) rfl (by omega) (by omega) (fun h24 => ?_) (fun h24 => by exfalso; first | omega | contradiction | simp_all)
      refine Z.iload_n B dX1_faultOfRanking_45 (x := nI i) rfl ?_
      refine Z.iret B Rt dX1_faultOfRanking_46 (ty := .int) rfl rfl (by decide) (by decide) ?_
      exact ⟨rfl, rfl⟩
    · skip
      refine Z.aload_n B dX1_faultOfRanking_12 (v := .ref q) rfl rfl ?_
      refine Z.iload_n B dX1_faultOfRanking_13 (x := nI i) rfl ?_
      refine Z.callVI (σ := σ) B (M' := mX6_intAt) (as := [.int (nI i)]) (st := []) (v := .int ((fun i => (zY σ (q + 1) i).toInt32) i)) dX1_faultOfRanking_14 wX6_intAt iX6_intAt sX6_intAt kX1_144 (Nat.lt_of_succ_lt hq.1) hq.2.1 (by decide) rfl rfl (t_X6_intAt_in (σ := σ) hq hm hm160 (i := i) hmt) rfl rfl (by decide) (by decide) (Nat.le_of_ble_eq_true rfl) (by decide) (by decide) ?_
      refine Z.istore B dX1_faultOfRanking_17 (by decide) (L' := [(0, .ref 20), (1, .ref q), (2, .int (nI (mkr r i))), (3, .int (nI i)), (4, .int ((fun i => (zY σ (q + 1) i).toInt32) i))]) rfl ?_
      refine Z.iload_n B dX1_faultOfRanking_19 (x := nI i) rfl ?_
      refine Z.aload_n B dX1_faultOfRanking_20 (v := .ref q) rfl rfl ?_
      refine Z.callVI (σ := σ) B (M' := mX6_size) (as := []) (st := [.int (nI i)]) (v := .int (zX σ q 2)) dX1_faultOfRanking_21 wX6_size iX6_size sX6_size kX1_149 (Nat.lt_of_succ_lt hq.1) hq.2.1 (by decide) rfl rfl (t_X6_size (σ := σ) hq) rfl rfl (by decide) (by decide) (Nat.le_of_ble_eq_true rfl) (by decide) (by decide) ?_
      rw [hm]
      refine Z.icmp_geN B dX1_faultOfRanking_24 (tgt := 45) rfl (by omega) (by omega) (fun h24 => by exfalso; first | omega | contradiction | simp_all) (fun h24 => ?_)
      refine Z.aload_n B dX1_faultOfRanking_27 (v := .ref 20) rfl rfl ?_
      refine Z.iload B dX1_faultOfRanking_28 (x := ((fun i => (zY σ (q + 1) i).toInt32) i)) rfl ?_
      rcases hb with hb | hb | ⟨c, j, hc, hcn, hj, hrj⟩
      · skip
        exact absurd hb (by omega)
      · skip
        refine Z.callVI (σ := σ) B (M' := mX1_hasComer) (as := [.int ((fun i => (zY σ (q + 1) i).toInt32) i)]) (st := []) (v := .int (nI 0)) dX1_faultOfRanking_30 wX1_hasComer iX1_hasComer sX1_hasComer kX1_56 (hl.n (k := 20) (by decide)) (hl.k (k := 20) (by decide)) (by decide) rfl rfl (t_X1_hasComer_out (σ := σ) H hb) rfl rfl (by decide) (by decide) (Nat.le_of_ble_eq_true rfl) (by decide) (by decide) ?_
        refine Z.if_eqN B dX1_faultOfRanking_33 (tgt := 45) rfl (by omega) (fun h33 => ?_) (fun h33 => by exfalso; first | omega | contradiction | simp_all)
        refine Z.iload_n B dX1_faultOfRanking_45 (x := nI i) rfl ?_
        refine Z.iret B Rt dX1_faultOfRanking_46 (ty := .int) rfl rfl (by decide) (by decide) ?_
        exact ⟨rfl, rfl⟩
      · skip
        have hc8 : c < 8 := by omega
        rw [hc]
        refine Z.callVI (σ := σ) B (M' := mX1_hasComer) (as := [.int (nI c)]) (st := []) (v := .int (nI 1)) dX1_faultOfRanking_30 wX1_hasComer iX1_hasComer sX1_hasComer kX1_56 (hl.n (k := 20) (by decide)) (hl.k (k := 20) (by decide)) (by decide) rfl rfl (t_X1_hasComer_in (σ := σ) H hcn) rfl rfl (by decide) (by decide) (Nat.le_of_ble_eq_true rfl) (by decide) (by decide) ?_
        refine Z.if_eqN B dX1_faultOfRanking_33 (tgt := 45) rfl (by omega) (fun h33 => by exfalso; first | omega | contradiction | simp_all) (fun h33 => ?_)
        refine Z.iload_n B dX1_faultOfRanking_36 (x := nI (mkr r i)) rfl ?_
        refine Z.iconst B dX1_faultOfRanking_37 (v := nI 1) rfl ?_
        refine Z.iload B dX1_faultOfRanking_38 (x := nI c) rfl ?_
        refine Z.ishl B dX1_faultOfRanking_40 ?_
        refine Z.eqS (st' := [.int (nI (2 ^ c)), .int (nI (mkr r i))]) (by rw [zshl hc8]) ?_
        refine Z.iandv B dX1_faultOfRanking_41 (v := nI ((mkr r i) &&& 2 ^ c)) (nI_and _ _) ?_
        have hlt := hg.lt hn8 (i := i) (by omega)
        have hlt2 : mkr r i &&& 2 ^ c ≤ mkr r i := Nat.and_le_left
        refine Z.if_eqN B dX1_faultOfRanking_42 (tgt := 47) rfl (by omega) (fun h42 => by exfalso; have h1 := and_pow.mp h42; rw [(mkr_bit i).mpr ⟨j, hj, hrj⟩] at h1; cases h1) (fun h42 => ?_)
        refine Z.iload_n B dX1_faultOfRanking_45 (x := nI i) rfl ?_
        refine Z.iret B Rt dX1_faultOfRanking_46 (ty := .int) rfl rfl (by decide) (by decide) ?_
        exact ⟨rfl, rfl⟩
  exact hloop4 0 (Nat.zero_le _)

theorem t_X1_tellsOfRanking {σ : zSt} {n a y : Nat} (H : zHd σ n a y) {q : Nat} (hq : zSh σ q) (hq25 : q ≠ 25) {m : Nat} {r : Nat → Nat} (hm : zX σ q 2 = nI m) (hm160 : m ≤ 160) (hg : rkG (fun i => (zY σ (q + 1) i).toInt32) r m n n) : Dt mX1_tellsOfRanking [.ref 20, .ref q] σ (some (.int (tO (pt (zX σ 21) (trK r n (zX σ 25) n)) n))) (zuX σ 25 (trK r n (zX σ 25) n)) := by
  obtain ⟨hl, hn, hn8, ha, ha4, hy, hy8⟩ := id H
  refine Dt.of (by decide) (Nat.le_of_ble_eq_true rfl) fun κ B Rt => ?_
  show Z κ 0 0 σ 0 [(0, .ref 20), (1, .ref q)] []
  refine Z.iconst B dX1_tellsOfRanking_0 (v := nI 0) rfl ?_
  refine Z.istore_n B dX1_tellsOfRanking_1 (by decide) (L' := [(0, .ref 20), (1, .ref q), (2, .int (nI 0))]) rfl ?_
  have hloop2 : ∀ i : Nat, i ≤ n → Z κ 0 0 (zuX σ 25 (trK r n (zX σ 25) i)) 2 [(0, .ref 20), (1, .ref q), (2, .int (nI i))] [] := by
    refine z_loop (fun i => n - i) (fun i ih hi => ?_)
    refine Z.iload_n B dX1_tellsOfRanking_2 (x := nI i) rfl ?_
    refine Z.aload_n B dX1_tellsOfRanking_3 (v := .ref 20) rfl rfl ?_
    refine Z.getI (σ := (zuX σ 25 (trK r n (zX σ 25) i))) B fX1_37_1 dX1_tellsOfRanking_4 (hl.n (k := 20) (by decide)) (hl.k (k := 20) (by decide)) (by decide) (v := nI n) hn ?_
    refine Z.icmp_geN B dX1_tellsOfRanking_7 (tgt := 42) rfl (by omega) (by omega) (fun h7 => ?_) (fun h7 => ?_)
    · skip
      obtain rfl : n = i := by omega
      refine Z.aload_n B dX1_tellsOfRanking_42 (v := .ref 20) rfl rfl ?_
      refine Z.callVI (σ := (zuX σ 25 (trK r n (zX σ 25) n))) B (M' := mX1_tellsByNumbers) (as := []) (st := []) (v := .int (tO (pt (zX σ 21) (trK r n (zX σ 25) n)) n)) dX1_tellsOfRanking_43 wX1_tellsByNumbers iX1_tellsByNumbers sX1_tellsByNumbers kX1_134 (hl.n (k := 20) (by decide)) (hl.k (k := 20) (by decide)) (by decide) rfl rfl (t_X1_tellsByNumbers (σ := (zuX σ 25 (trK r n (zX σ 25) n))) H) rfl rfl (by decide) (by decide) (Nat.le_of_ble_eq_true rfl) (by decide) (by decide) ?_
      refine Z.iret B Rt dX1_tellsOfRanking_46 (ty := .int) rfl rfl (by decide) (by decide) ?_
      exact ⟨rfl, rfl⟩
    · skip
      refine Z.aload_n B dX1_tellsOfRanking_10 (v := .ref q) rfl rfl ?_
      refine Z.iload_n B dX1_tellsOfRanking_11 (x := nI i) rfl ?_
      have hgi := hg i (by omega)
      have hm2 : zX (zuX σ 25 (trK r n (zX σ 25) i)) q 2 = nI m := by rw [show zX (zuX σ 25 (trK r n (zX σ 25) i)) q = zX σ q from zfu_ne hq25]; exact hm
      refine Z.callVI (σ := (zuX σ 25 (trK r n (zX σ 25) i))) B (M' := mX6_intAt) (as := [.int (nI i)]) (st := []) (v := .int ((fun i => (zY σ (q + 1) i).toInt32) i)) dX1_tellsOfRanking_12 wX6_intAt iX6_intAt sX6_intAt kX1_144 (Nat.lt_of_succ_lt hq.1) hq.2.1 (by decide) rfl rfl (t_X6_intAt_in (σ := (zuX σ 25 (trK r n (zX σ 25) i))) hq hm2 hm160 (i := i) hgi.1) rfl rfl (by decide) (by decide) (Nat.le_of_ble_eq_true rfl) (by decide) (by decide) ?_
      rw [hgi.2.1]
      refine Z.istore_n B dX1_tellsOfRanking_15 (by decide) (L' := [(0, .ref 20), (1, .ref q), (2, .int (nI i)), (3, .int (nI (r i)))]) rfl ?_
      refine Z.aload_n B dX1_tellsOfRanking_16 (v := .ref 20) rfl rfl ?_
      refine Z.iload_n B dX1_tellsOfRanking_17 (x := nI (r i)) rfl ?_
      refine Z.callVI (σ := (zuX σ 25 (trK r n (zX σ 25) i))) B (M' := mX1_hasComer) (as := [.int (nI (r i))]) (st := []) (v := .int (nI 1)) dX1_tellsOfRanking_18 wX1_hasComer iX1_hasComer sX1_hasComer kX1_56 (hl.n (k := 20) (by decide)) (hl.k (k := 20) (by decide)) (by decide) rfl rfl (t_X1_hasComer_in (σ := (zuX σ 25 (trK r n (zX σ 25) i))) H hgi.2.2.1) rfl rfl (by decide) (by decide) (Nat.le_of_ble_eq_true rfl) (by decide) (by decide) ?_
      refine Z.if_eqN B dX1_tellsOfRanking_21 (tgt := 36) rfl (by omega) (fun h21 => by exfalso; first | omega | contradiction | simp_all) (fun h21 => ?_)
      refine Z.aload_n B dX1_tellsOfRanking_24 (v := .ref 20) rfl rfl ?_
      refine Z.getR (σ := (zuX σ 25 (trK r n (zX σ 25) i))) B fX1_31_1 dX1_tellsOfRanking_25 (hl.n (k := 20) (by decide)) (hl.k (k := 20) (by decide)) (by decide) (j := 25) (hl.r (k := 20) (f := 9) (by decide) (by decide)) ?_
      refine Z.iload_n B dX1_tellsOfRanking_28 (x := nI (r i)) rfl ?_
      refine Z.aload_n B dX1_tellsOfRanking_29 (v := .ref 20) rfl rfl ?_
      refine Z.getI (σ := (zuX σ 25 (trK r n (zX σ 25) i))) B fX1_37_1 dX1_tellsOfRanking_30 (hl.n (k := 20) (by decide)) (hl.k (k := 20) (by decide)) (by decide) (v := nI n) hn ?_
      refine Z.iload_n B dX1_tellsOfRanking_33 (x := nI i) rfl ?_
      refine Z.isub B dX1_tellsOfRanking_34 ?_
      refine Z.iast (σ := (zuX σ 25 (trK r n (zX σ 25) i))) B dX1_tellsOfRanking_35 (n := 8) (hl.n (k := 25) (by decide)) (hl.k (k := 25) (by decide)) (hl.l (k := 25) (by decide)) (by decide) (j := r i) rfl (by have := hgi.2.2.1; omega) (τ := (zuX σ 25 (trK r n (zX σ 25) (i + 1)))) (by rw [zX_self, zuX_uX]; rfl) ?_
      refine Z.iincN B dX1_tellsOfRanking_36 (by decide) (a := i) rfl (L' := [(0, .ref 20), (1, .ref q), (2, .int (nI (i + 1))), (3, .int (nI (r i)))]) rfl ?_
      refine Z.goto B dX1_tellsOfRanking_39 (tgt := 2) rfl ?_
      refine Z.drop 3 (L' := [(0, .ref 20), (1, .ref q), (2, .int (nI (i + 1)))]) rfl ?_
      exact ih (i + 1) (by omega) (by omega)
  have h0 := hloop2 0 (Nat.zero_le _)
  have e0 : trK r n (zX σ 25) 0 = zX σ 25 := rfl
  rw [e0, zuX_id] at h0
  exact h0

theorem t_K_judge_at {σ : zSt} (hl : Lay σ) {n a y : Nat} (H : zHd σ n a y) {s : Nat} (hs : s < 8) {o m : Nat} (hh : zRw σ (2 + 2 * s) o m){t : Nat} {r : Nat → Nat} (hg : rkG (fun i => (zY σ (2 + 2 * s + 1) i).toInt32) r m n t) (ht : t < n) (hb : rkB (fun i => (zY σ (2 + 2 * s + 1) i).toInt32) r m n t) : Dt mX11_judge [.ref 0, .int (nI s)] σ (some (.int (nI t))) σ := by
  have hqs := (hl.shelf hs).2
  obtain ⟨-, hn, hn8, ha, ha4, hy, hy8⟩ := id H
  refine Dt.of (by decide) (Nat.le_of_ble_eq_true rfl) fun κ B Rt => ?_
  show Z κ 0 0 σ 0 [(0, .ref 0), (1, .int (nI s))] []
  refine Z.aload_n B dX11_judge_0 (v := .ref 0) rfl rfl ?_
  refine Z.iload_n B dX11_judge_1 (x := nI s) rfl ?_
  refine Z.callVI (σ := σ) B (M' := mX11_shelfAt) (as := [.int (nI s)]) (st := []) (v := .ref (2 + 2 * s)) dX11_judge_2 wX11_shelfAt iX11_shelfAt sX11_shelfAt kX11_59 (hl.n (k := 0) (by decide)) (hl.k (k := 0) (by decide)) (by decide) rfl rfl (t_X11_shelfAt_in (σ := σ) hl hs) rfl rfl (by decide) (by decide) (Nat.le_of_ble_eq_true rfl) (by decide) (by decide) ?_
  refine Z.astore_n B dX11_judge_5 (by decide) rfl (L' := [(0, .ref 0), (1, .int (nI s)), (2, .ref (2 + 2 * s))]) rfl ?_
  refine Z.aload_n B dX11_judge_6 (v := .ref (2 + 2 * s)) rfl rfl ?_
  refine Z.ifnull_r B dX11_judge_7 ?_
  refine Z.aload_n B dX11_judge_10 (v := .ref (2 + 2 * s)) rfl rfl ?_
  refine Z.callVI (σ := σ) B (M' := mX6_holdsRow) (as := []) (st := []) (v := .int (nI 1)) dX11_judge_11 wX6_holdsRow iX6_holdsRow sX6_holdsRow kX11_71 (Nat.lt_of_succ_lt hqs.1) hqs.2.1 (by decide) rfl rfl (t_X6_holdsRow_1 (σ := σ) hqs (Nat.lt_of_le_of_lt hh.2.1 (by decide)) hh.1) rfl rfl (by decide) (by decide) (Nat.le_of_ble_eq_true rfl) (by decide) (by decide) ?_
  refine Z.if_neN B dX11_judge_14 (tgt := 26) rfl (by omega) (fun h14 => ?_) (fun h14 => by exfalso; first | omega | contradiction | simp_all)
  refine Z.aload_n B dX11_judge_26 (v := .ref 0) rfl rfl ?_
  refine Z.getR (σ := σ) B fX11_28_11 dX11_judge_27 (hl.n (k := 0) (by decide)) (hl.k (k := 0) (by decide)) (by decide) (j := 20) (hl.r (k := 0) (f := 2) (by decide) (by decide)) ?_
  refine Z.aload_n B dX11_judge_30 (v := .ref (2 + 2 * s)) rfl rfl ?_
  refine Z.callVI (σ := σ) B (M' := mX1_faultOfRanking) (as := [.ref (2 + 2 * s)]) (st := []) (v := .int (nI t)) dX11_judge_31 wX1_faultOfRanking iX1_faultOfRanking sX1_faultOfRanking kX11_262 (hl.n (k := 20) (by decide)) (hl.k (k := 20) (by decide)) (by decide) rfl rfl (t_X1_fault_at (σ := σ) H hqs hh.2.2.1 hh.2.2.2.1 hg ht hb) rfl rfl (by decide) (by decide) (Nat.le_of_ble_eq_true rfl) (by decide) (by decide) ?_
  refine Z.iret B Rt dX11_judge_34 (ty := .int) rfl rfl (by decide) (by decide) ?_
  exact ⟨rfl, rfl⟩

theorem t_K_judge_ok {σ : zSt} (hl : Lay σ) {n a y : Nat} (H : zHd σ n a y) {s : Nat} (hs : s < 8) {o m : Nat} (hh : zRw σ (2 + 2 * s) o m){t : Nat} {r : Nat → Nat} (hg : rkG (fun i => (zY σ (2 + 2 * s + 1) i).toInt32) r m n t) (ht : t = n) : Dt mX11_judge [.ref 0, .int (nI s)] σ (some (.int (if n < m then nI n else (-1)))) σ := by
  have hqs := (hl.shelf hs).2
  obtain ⟨-, hn, hn8, ha, ha4, hy, hy8⟩ := id H
  refine Dt.of (by decide) (Nat.le_of_ble_eq_true rfl) fun κ B Rt => ?_
  show Z κ 0 0 σ 0 [(0, .ref 0), (1, .int (nI s))] []
  refine Z.aload_n B dX11_judge_0 (v := .ref 0) rfl rfl ?_
  refine Z.iload_n B dX11_judge_1 (x := nI s) rfl ?_
  refine Z.callVI (σ := σ) B (M' := mX11_shelfAt) (as := [.int (nI s)]) (st := []) (v := .ref (2 + 2 * s)) dX11_judge_2 wX11_shelfAt iX11_shelfAt sX11_shelfAt kX11_59 (hl.n (k := 0) (by decide)) (hl.k (k := 0) (by decide)) (by decide) rfl rfl (t_X11_shelfAt_in (σ := σ) hl hs) rfl rfl (by decide) (by decide) (Nat.le_of_ble_eq_true rfl) (by decide) (by decide) ?_
  refine Z.astore_n B dX11_judge_5 (by decide) rfl (L' := [(0, .ref 0), (1, .int (nI s)), (2, .ref (2 + 2 * s))]) rfl ?_
  refine Z.aload_n B dX11_judge_6 (v := .ref (2 + 2 * s)) rfl rfl ?_
  refine Z.ifnull_r B dX11_judge_7 ?_
  refine Z.aload_n B dX11_judge_10 (v := .ref (2 + 2 * s)) rfl rfl ?_
  refine Z.callVI (σ := σ) B (M' := mX6_holdsRow) (as := []) (st := []) (v := .int (nI 1)) dX11_judge_11 wX6_holdsRow iX6_holdsRow sX6_holdsRow kX11_71 (Nat.lt_of_succ_lt hqs.1) hqs.2.1 (by decide) rfl rfl (t_X6_holdsRow_1 (σ := σ) hqs (Nat.lt_of_le_of_lt hh.2.1 (by decide)) hh.1) rfl rfl (by decide) (by decide) (Nat.le_of_ble_eq_true rfl) (by decide) (by decide) ?_
  refine Z.if_neN B dX11_judge_14 (tgt := 26) rfl (by omega) (fun h14 => ?_) (fun h14 => by exfalso; first | omega | contradiction | simp_all)
  refine Z.aload_n B dX11_judge_26 (v := .ref 0) rfl rfl ?_
  refine Z.getR (σ := σ) B fX11_28_11 dX11_judge_27 (hl.n (k := 0) (by decide)) (hl.k (k := 0) (by decide)) (by decide) (j := 20) (hl.r (k := 0) (f := 2) (by decide) (by decide)) ?_
  refine Z.aload_n B dX11_judge_30 (v := .ref (2 + 2 * s)) rfl rfl ?_
  refine Z.callVI (σ := σ) B (M' := mX1_faultOfRanking) (as := [.ref (2 + 2 * s)]) (st := []) (v := .int (if n < m then nI n else (-1))) dX11_judge_31 wX1_faultOfRanking iX1_faultOfRanking sX1_faultOfRanking kX11_262 (hl.n (k := 20) (by decide)) (hl.k (k := 20) (by decide)) (by decide) rfl rfl (t_X1_fault_ok (σ := σ) H hqs hh.2.2.1 hh.2.2.2.1 hg ht) rfl rfl (by decide) (by decide) (Nat.le_of_ble_eq_true rfl) (by decide) (by decide) ?_
  refine Z.iret B Rt dX11_judge_34 (ty := .int) rfl rfl (by decide) (by decide) ?_
  exact ⟨rfl, rfl⟩

theorem t_K_told_6a {σ : zSt} (hl : Lay σ) {n a y : Nat} (H : zHd σ n a y) {s : Nat} (hs : s < 8) {o m : Nat} (hh : zRw σ (2 + 2 * s) o m){t : Nat} {r : Nat → Nat} (hg : rkG (fun i => (zY σ (2 + 2 * s + 1) i).toInt32) r m n t) (ht : t < n) (hb : rkB (fun i => (zY σ (2 + 2 * s + 1) i).toInt32) r m n t) : Dt mX11_told [.ref 0, .int (nI s)] σ (some (.int ((-nI 6) - nI 1000))) (zuX σ 43 (upd (zX σ 43) 6 (zX σ 43 6 + nI 1))) := by
  have hqs := (hl.shelf hs).2
  obtain ⟨-, hn, hn8, ha, ha4, hy, hy8⟩ := id H
  refine Dt.of (by decide) (Nat.le_of_ble_eq_true rfl) fun κ B Rt => ?_
  show Z κ 0 0 σ 0 [(0, .ref 0), (1, .int (nI s))] []
  refine Z.aload_n B dX11_told_0 (v := .ref 0) rfl rfl ?_
  refine Z.iload_n B dX11_told_1 (x := nI s) rfl ?_
  refine Z.callVI (σ := σ) B (M' := mX11_shelfAt) (as := [.int (nI s)]) (st := []) (v := .ref (2 + 2 * s)) dX11_told_2 wX11_shelfAt iX11_shelfAt sX11_shelfAt kX11_59 (hl.n (k := 0) (by decide)) (hl.k (k := 0) (by decide)) (by decide) rfl rfl (t_X11_shelfAt_in (σ := σ) hl hs) rfl rfl (by decide) (by decide) (Nat.le_of_ble_eq_true rfl) (by decide) (by decide) ?_
  refine Z.astore_n B dX11_told_5 (by decide) rfl (L' := [(0, .ref 0), (1, .int (nI s)), (2, .ref (2 + 2 * s))]) rfl ?_
  refine Z.aload_n B dX11_told_6 (v := .ref (2 + 2 * s)) rfl rfl ?_
  refine Z.ifnull_r B dX11_told_7 ?_
  refine Z.aload_n B dX11_told_10 (v := .ref (2 + 2 * s)) rfl rfl ?_
  refine Z.callVI (σ := σ) B (M' := mX6_holdsRow) (as := []) (st := []) (v := .int (nI 1)) dX11_told_11 wX6_holdsRow iX6_holdsRow sX6_holdsRow kX11_71 (Nat.lt_of_succ_lt hqs.1) hqs.2.1 (by decide) rfl rfl (t_X6_holdsRow_1 (σ := σ) hqs (Nat.lt_of_le_of_lt hh.2.1 (by decide)) hh.1) rfl rfl (by decide) (by decide) (Nat.le_of_ble_eq_true rfl) (by decide) (by decide) ?_
  refine Z.if_neN B dX11_told_14 (tgt := 26) rfl (by omega) (fun h14 => ?_) (fun h14 => by exfalso; first | omega | contradiction | simp_all)
  refine Z.aload_n B dX11_told_26 (v := .ref 0) rfl rfl ?_
  refine Z.getR (σ := σ) B fX11_28_11 dX11_told_27 (hl.n (k := 0) (by decide)) (hl.k (k := 0) (by decide)) (by decide) (j := 20) (hl.r (k := 0) (f := 2) (by decide) (by decide)) ?_
  refine Z.aload_n B dX11_told_30 (v := .ref (2 + 2 * s)) rfl rfl ?_
  refine Z.callVI (σ := σ) B (M' := mX1_faultOfRanking) (as := [.ref (2 + 2 * s)]) (st := []) (v := .int (nI t)) dX11_told_31 wX1_faultOfRanking iX1_faultOfRanking sX1_faultOfRanking kX11_262 (hl.n (k := 20) (by decide)) (hl.k (k := 20) (by decide)) (by decide) rfl rfl (t_X1_fault_at (σ := σ) H hqs hh.2.2.1 hh.2.2.2.1 hg ht hb) rfl rfl (by decide) (by decide) (Nat.le_of_ble_eq_true rfl) (by decide) (by decide) ?_
  refine Z.iconst B dX11_told_34 (v := (-1)) rfl ?_
  refine Z.icmp_ne B dX11_told_35 (tgt := 49) rfl (fun h35 => ?_) (fun h35 => absurd h35 (zm1 (by omega)))
  refine Z.aload_n B dX11_told_49 (v := .ref 0) rfl rfl ?_
  refine Z.bipush B dX11_told_50 (v := nI 6) rfl ?_
  refine Z.callVI (σ := σ) B (M' := mX11_refuseFar) (as := [.int (nI 6)]) (st := []) (v := .int ((-nI 6) - nI 1000)) dX11_told_52 wX11_refuseFar iX11_refuseFar sX11_refuseFar kX11_221 (hl.n (k := 0) (by decide)) (hl.k (k := 0) (by decide)) (by decide) rfl rfl (t_X11_refuseFar (σ := σ) hl (b := 6) (by decide)) rfl rfl (by decide) (by decide) (Nat.le_of_ble_eq_true rfl) (by decide) (by decide) ?_
  refine Z.eqσ (τ := (zuX σ 43 (upd (zX σ 43) 6 (zX σ 43 6 + nI 1)))) rfl ?_
  refine Z.iret B Rt dX11_told_55 (ty := .int) rfl rfl (by decide) (by decide) ?_
  exact ⟨rfl, rfl⟩

theorem t_K_told_6b {σ : zSt} (hl : Lay σ) {n a y : Nat} (H : zHd σ n a y) {s : Nat} (hs : s < 8) {o m : Nat} (hh : zRw σ (2 + 2 * s) o m){t : Nat} {r : Nat → Nat} (hg : rkG (fun i => (zY σ (2 + 2 * s + 1) i).toInt32) r m n t) (ht : t = n) (hmn : n < m) : Dt mX11_told [.ref 0, .int (nI s)] σ (some (.int ((-nI 6) - nI 1000))) (zuX σ 43 (upd (zX σ 43) 6 (zX σ 43 6 + nI 1))) := by
  have hqs := (hl.shelf hs).2
  obtain ⟨-, hn, hn8, ha, ha4, hy, hy8⟩ := id H
  refine Dt.of (by decide) (Nat.le_of_ble_eq_true rfl) fun κ B Rt => ?_
  show Z κ 0 0 σ 0 [(0, .ref 0), (1, .int (nI s))] []
  refine Z.aload_n B dX11_told_0 (v := .ref 0) rfl rfl ?_
  refine Z.iload_n B dX11_told_1 (x := nI s) rfl ?_
  refine Z.callVI (σ := σ) B (M' := mX11_shelfAt) (as := [.int (nI s)]) (st := []) (v := .ref (2 + 2 * s)) dX11_told_2 wX11_shelfAt iX11_shelfAt sX11_shelfAt kX11_59 (hl.n (k := 0) (by decide)) (hl.k (k := 0) (by decide)) (by decide) rfl rfl (t_X11_shelfAt_in (σ := σ) hl hs) rfl rfl (by decide) (by decide) (Nat.le_of_ble_eq_true rfl) (by decide) (by decide) ?_
  refine Z.astore_n B dX11_told_5 (by decide) rfl (L' := [(0, .ref 0), (1, .int (nI s)), (2, .ref (2 + 2 * s))]) rfl ?_
  refine Z.aload_n B dX11_told_6 (v := .ref (2 + 2 * s)) rfl rfl ?_
  refine Z.ifnull_r B dX11_told_7 ?_
  refine Z.aload_n B dX11_told_10 (v := .ref (2 + 2 * s)) rfl rfl ?_
  refine Z.callVI (σ := σ) B (M' := mX6_holdsRow) (as := []) (st := []) (v := .int (nI 1)) dX11_told_11 wX6_holdsRow iX6_holdsRow sX6_holdsRow kX11_71 (Nat.lt_of_succ_lt hqs.1) hqs.2.1 (by decide) rfl rfl (t_X6_holdsRow_1 (σ := σ) hqs (Nat.lt_of_le_of_lt hh.2.1 (by decide)) hh.1) rfl rfl (by decide) (by decide) (Nat.le_of_ble_eq_true rfl) (by decide) (by decide) ?_
  refine Z.if_neN B dX11_told_14 (tgt := 26) rfl (by omega) (fun h14 => ?_) (fun h14 => by exfalso; first | omega | contradiction | simp_all)
  refine Z.aload_n B dX11_told_26 (v := .ref 0) rfl rfl ?_
  refine Z.getR (σ := σ) B fX11_28_11 dX11_told_27 (hl.n (k := 0) (by decide)) (hl.k (k := 0) (by decide)) (by decide) (j := 20) (hl.r (k := 0) (f := 2) (by decide) (by decide)) ?_
  refine Z.aload_n B dX11_told_30 (v := .ref (2 + 2 * s)) rfl rfl ?_
  refine Z.callVI (σ := σ) B (M' := mX1_faultOfRanking) (as := [.ref (2 + 2 * s)]) (st := []) (v := .int (if n < m then nI n else (-1))) dX11_told_31 wX1_faultOfRanking iX1_faultOfRanking sX1_faultOfRanking kX11_262 (hl.n (k := 20) (by decide)) (hl.k (k := 20) (by decide)) (by decide) rfl rfl (t_X1_fault_ok (σ := σ) H hqs hh.2.2.1 hh.2.2.2.1 hg ht) rfl rfl (by decide) (by decide) (Nat.le_of_ble_eq_true rfl) (by decide) (by decide) ?_
  refine Z.iconst B dX11_told_34 (v := (-1)) rfl ?_
  rw [if_pos hmn]
  refine Z.icmp_ne B dX11_told_35 (tgt := 49) rfl (fun h35 => ?_) (fun h35 => absurd h35 (zm1 (by omega)))
  refine Z.aload_n B dX11_told_49 (v := .ref 0) rfl rfl ?_
  refine Z.bipush B dX11_told_50 (v := nI 6) rfl ?_
  refine Z.callVI (σ := σ) B (M' := mX11_refuseFar) (as := [.int (nI 6)]) (st := []) (v := .int ((-nI 6) - nI 1000)) dX11_told_52 wX11_refuseFar iX11_refuseFar sX11_refuseFar kX11_221 (hl.n (k := 0) (by decide)) (hl.k (k := 0) (by decide)) (by decide) rfl rfl (t_X11_refuseFar (σ := σ) hl (b := 6) (by decide)) rfl rfl (by decide) (by decide) (Nat.le_of_ble_eq_true rfl) (by decide) (by decide) ?_
  refine Z.eqσ (τ := (zuX σ 43 (upd (zX σ 43) 6 (zX σ 43 6 + nI 1)))) rfl ?_
  refine Z.iret B Rt dX11_told_55 (ty := .int) rfl rfl (by decide) (by decide) ?_
  exact ⟨rfl, rfl⟩

theorem t_K_told_0 {σ : zSt} (hl : Lay σ) {n a y : Nat} (H : zHd σ n a y) {s : Nat} (hs : s < 8) {o m : Nat} (hh : zRw σ (2 + 2 * s) o m){r : Nat → Nat} (hg : rkG (fun i => (zY σ (2 + 2 * s + 1) i).toInt32) r m n n) (hmn : ¬ n < m) : Dt mX11_told [.ref 0, .int (nI s)] σ (some (.int (tO (pt (zX σ 21) (trK r n (zX σ 25) n)) n))) (zuX σ 25 (trK r n (zX σ 25) n)) := by
  have hqs := (hl.shelf hs).2
  obtain ⟨-, hn, hn8, ha, ha4, hy, hy8⟩ := id H
  refine Dt.of (by decide) (Nat.le_of_ble_eq_true rfl) fun κ B Rt => ?_
  show Z κ 0 0 σ 0 [(0, .ref 0), (1, .int (nI s))] []
  refine Z.aload_n B dX11_told_0 (v := .ref 0) rfl rfl ?_
  refine Z.iload_n B dX11_told_1 (x := nI s) rfl ?_
  refine Z.callVI (σ := σ) B (M' := mX11_shelfAt) (as := [.int (nI s)]) (st := []) (v := .ref (2 + 2 * s)) dX11_told_2 wX11_shelfAt iX11_shelfAt sX11_shelfAt kX11_59 (hl.n (k := 0) (by decide)) (hl.k (k := 0) (by decide)) (by decide) rfl rfl (t_X11_shelfAt_in (σ := σ) hl hs) rfl rfl (by decide) (by decide) (Nat.le_of_ble_eq_true rfl) (by decide) (by decide) ?_
  refine Z.astore_n B dX11_told_5 (by decide) rfl (L' := [(0, .ref 0), (1, .int (nI s)), (2, .ref (2 + 2 * s))]) rfl ?_
  refine Z.aload_n B dX11_told_6 (v := .ref (2 + 2 * s)) rfl rfl ?_
  refine Z.ifnull_r B dX11_told_7 ?_
  refine Z.aload_n B dX11_told_10 (v := .ref (2 + 2 * s)) rfl rfl ?_
  refine Z.callVI (σ := σ) B (M' := mX6_holdsRow) (as := []) (st := []) (v := .int (nI 1)) dX11_told_11 wX6_holdsRow iX6_holdsRow sX6_holdsRow kX11_71 (Nat.lt_of_succ_lt hqs.1) hqs.2.1 (by decide) rfl rfl (t_X6_holdsRow_1 (σ := σ) hqs (Nat.lt_of_le_of_lt hh.2.1 (by decide)) hh.1) rfl rfl (by decide) (by decide) (Nat.le_of_ble_eq_true rfl) (by decide) (by decide) ?_
  refine Z.if_neN B dX11_told_14 (tgt := 26) rfl (by omega) (fun h14 => ?_) (fun h14 => by exfalso; first | omega | contradiction | simp_all)
  refine Z.aload_n B dX11_told_26 (v := .ref 0) rfl rfl ?_
  refine Z.getR (σ := σ) B fX11_28_11 dX11_told_27 (hl.n (k := 0) (by decide)) (hl.k (k := 0) (by decide)) (by decide) (j := 20) (hl.r (k := 0) (f := 2) (by decide) (by decide)) ?_
  refine Z.aload_n B dX11_told_30 (v := .ref (2 + 2 * s)) rfl rfl ?_
  refine Z.callVI (σ := σ) B (M' := mX1_faultOfRanking) (as := [.ref (2 + 2 * s)]) (st := []) (v := .int (if n < m then nI n else (-1))) dX11_told_31 wX1_faultOfRanking iX1_faultOfRanking sX1_faultOfRanking kX11_262 (hl.n (k := 20) (by decide)) (hl.k (k := 20) (by decide)) (by decide) rfl rfl (t_X1_fault_ok (σ := σ) H hqs hh.2.2.1 hh.2.2.2.1 hg rfl) rfl rfl (by decide) (by decide) (Nat.le_of_ble_eq_true rfl) (by decide) (by decide) ?_
  refine Z.iconst B dX11_told_34 (v := (-1)) rfl ?_
  rw [if_neg hmn]
  refine Z.icmp_ne B dX11_told_35 (tgt := 49) rfl (fun h35 => absurd rfl h35) (fun h35 => ?_)
  refine Z.aload_n B dX11_told_38 (v := .ref 0) rfl rfl ?_
  refine Z.getR (σ := σ) B fX11_28_11 dX11_told_39 (hl.n (k := 0) (by decide)) (hl.k (k := 0) (by decide)) (by decide) (j := 20) (hl.r (k := 0) (f := 2) (by decide) (by decide)) ?_
  refine Z.aload_n B dX11_told_42 (v := .ref (2 + 2 * s)) rfl rfl ?_
  refine Z.callVI (σ := σ) B (M' := mX1_tellsOfRanking) (as := [.ref (2 + 2 * s)]) (st := []) (v := .int (tO (pt (zX σ 21) (trK r n (zX σ 25) n)) n)) dX11_told_43 wX1_tellsOfRanking iX1_tellsOfRanking sX1_tellsOfRanking kX11_265 (hl.n (k := 20) (by decide)) (hl.k (k := 20) (by decide)) (by decide) rfl rfl (t_X1_tellsOfRanking (σ := σ) H hqs (by omega) hh.2.2.1 hh.2.2.2.1 hg) rfl rfl (by decide) (by decide) (Nat.le_of_ble_eq_true rfl) (by decide) (by decide) ?_
  refine Z.eqσ (τ := (zuX σ 25 (trK r n (zX σ 25) n))) rfl ?_
  refine Z.goto B dX11_told_46 (tgt := 55) rfl ?_
  refine Z.iret B Rt dX11_told_55 (ty := .int) rfl rfl (by decide) (by decide) ?_
  exact ⟨rfl, rfl⟩

theorem t_M_ranked_ok {σ : zSt} (hl : Lay σ) {n a y : Nat} (H : zMd σ n a y) {s : Nat} (hs : s < 8) {o m : Nat} (hh : zMr σ s o m) {t : Nat} {r : Nat → Nat} (hg : rkG (fun i => (zY σ 58 (s * 160 + i)).toInt32) r m n t) (ht : t = n) : Dt mX12_ranked [.ref 45, .int (nI s)] σ (some (.int (if n < m then nI n else (-1)))) (zuX σ 64 (trM r (zX σ 64) n)) := by
  obtain ⟨-, hn, hn8, ha, ha4, hy, hy8⟩ := id H
  have hm160 := hh.2.2.2.2
  refine Dt.of (by decide) (Nat.le_of_ble_eq_true rfl) fun κ B Rt => ?_
  show Z κ 0 0 σ 0 [(0, .ref 45), (1, .int (nI s))] []
  refine Z.iconst B dX12_ranked_0 (v := nI 0) rfl ?_
  refine Z.istore_n B dX12_ranked_1 (by decide) (L' := [(0, .ref 45), (1, .int (nI s)), (2, .int (nI 0))]) rfl ?_
  refine Z.iconst B dX12_ranked_2 (v := nI 0) rfl ?_
  refine Z.istore_n B dX12_ranked_3 (by decide) (L' := [(0, .ref 45), (1, .int (nI s)), (2, .int (nI 0)), (3, .int (nI 0))]) rfl ?_
  have hloop4 : ∀ i : Nat, i ≤ t → Z κ 0 0 (zuX σ 64 (trM r (zX σ 64) i)) 4 [(0, .ref 45), (1, .int (nI s)), (2, .int (nI (mkr r i))), (3, .int (nI i))] [] := by
    refine z_loop (fun i => t - i) (fun i ih hi => ?_)
    refine Z.iload_n B dX12_ranked_4 (x := nI i) rfl ?_
    refine Z.aload_n B dX12_ranked_5 (v := .ref 45) rfl rfl ?_
    refine Z.getI (σ := (zuX σ 64 (trM r (zX σ 64) i))) B fX12_81_12 dX12_ranked_6 (hl.n (k := 45) (by decide)) (hl.k (k := 45) (by decide)) (by decide) (v := nI n) hn ?_
    refine Z.icmp_geN B dX12_ranked_9 (tgt := 75) rfl (by omega) (by omega) (fun h9 => ?_) (fun h9 => ?_)
    · skip
      obtain rfl : t = i := by omega
      refine Z.aload_n B dX12_ranked_75 (v := .ref 45) rfl rfl ?_
      refine Z.getR (σ := (zuX σ 64 (trM r (zX σ 64) t))) B fX12_47_12 dX12_ranked_76 (hl.n (k := 45) (by decide)) (hl.k (k := 45) (by decide)) (by decide) (j := 56) (hl.r (k := 45) (f := 15) (by decide) (by decide)) ?_
      refine Z.iload_n B dX12_ranked_79 (x := nI s) rfl ?_
      refine Z.iald (σ := (zuX σ 64 (trM r (zX σ 64) t))) B dX12_ranked_80 (n := 8) (hl.n (k := 56) (by decide)) (hl.k (k := 56) (by decide)) (hl.l (k := 56) (by decide)) (by decide) (j := s) rfl (by omega) (v := nI m) hh.2.2.2.1 ?_
      refine Z.aload_n B dX12_ranked_81 (v := .ref 45) rfl rfl ?_
      refine Z.getI (σ := (zuX σ 64 (trM r (zX σ 64) t))) B fX12_81_12 dX12_ranked_82 (hl.n (k := 45) (by decide)) (hl.k (k := 45) (by decide)) (by decide) (v := nI n) hn ?_
      refine Z.icmp_leN B dX12_ranked_85 (tgt := 95) rfl (by omega) (by omega) (fun h85 => ?_) (fun h85 => ?_)
      · skip
        refine Z.iconst B dX12_ranked_95 (v := (-1)) rfl ?_
        refine Z.iret B Rt dX12_ranked_96 (ty := .int) rfl rfl (by decide) (by decide) ?_
        subst ht
        first | exact ⟨by rw [if_pos (by omega)], rfl⟩ | exact ⟨by rw [if_neg (by omega)], rfl⟩
      · skip
        refine Z.aload_n B dX12_ranked_88 (v := .ref 45) rfl rfl ?_
        refine Z.getI (σ := (zuX σ 64 (trM r (zX σ 64) t))) B fX12_81_12 dX12_ranked_89 (hl.n (k := 45) (by decide)) (hl.k (k := 45) (by decide)) (by decide) (v := nI n) hn ?_
        refine Z.goto B dX12_ranked_92 (tgt := 96) rfl ?_
        refine Z.iret B Rt dX12_ranked_96 (ty := .int) rfl rfl (by decide) (by decide) ?_
        subst ht
        first | exact ⟨by rw [if_pos (by omega)], rfl⟩ | exact ⟨by rw [if_neg (by omega)], rfl⟩
    · skip
      refine Z.iload_n B dX12_ranked_12 (x := nI i) rfl ?_
      refine Z.aload_n B dX12_ranked_13 (v := .ref 45) rfl rfl ?_
      have hit : i < t := by omega
      have hgi := hg i hit
      refine Z.getR (σ := (zuX σ 64 (trM r (zX σ 64) i))) B fX12_47_12 dX12_ranked_14 (hl.n (k := 45) (by decide)) (hl.k (k := 45) (by decide)) (by decide) (j := 56) (hl.r (k := 45) (f := 15) (by decide) (by decide)) ?_
      refine Z.iload_n B dX12_ranked_17 (x := nI s) rfl ?_
      refine Z.iald (σ := (zuX σ 64 (trM r (zX σ 64) i))) B dX12_ranked_18 (n := 8) (hl.n (k := 56) (by decide)) (hl.k (k := 56) (by decide)) (hl.l (k := 56) (by decide)) (by decide) (j := s) rfl (by omega) (v := nI m) hh.2.2.2.1 ?_
      refine Z.icmp_ltN B dX12_ranked_19 (tgt := 24) rfl (by omega) (by omega) (fun h19 => ?_) (fun h19 => by exfalso; have := hgi.1; omega)
      refine Z.aload_n B dX12_ranked_24 (v := .ref 45) rfl rfl ?_
      refine Z.iload_n B dX12_ranked_25 (x := nI s) rfl ?_
      refine Z.iload_n B dX12_ranked_26 (x := nI i) rfl ?_
      refine Z.callVI (σ := (zuX σ 64 (trM r (zX σ 64) i))) B (M' := mX12_intAt) (as := [.int (nI s), .int (nI i)]) (st := []) (v := .int ((fun i => (zY σ 58 (s * 160 + i)).toInt32) i)) dX12_ranked_27 wX12_intAt iX12_intAt sX12_intAt kX12_114 (hl.n (k := 45) (by decide)) (hl.k (k := 45) (by decide)) (by decide) rfl rfl (t_X12_intAt (σ := (zuX σ 64 (trM r (zX σ 64) i))) hl hs (i := i) (by have := hgi.1; omega)) rfl rfl (by decide) (by decide) (Nat.le_of_ble_eq_true rfl) (by decide) (by decide) ?_
      have hr8 : r i < 8 := by have := hgi.2.2.1; omega
      rw [show (fun i => (zY σ 58 (s * 160 + i)).toInt32) i = nI (r i) from hgi.2.1]
      refine Z.istore B dX12_ranked_30 (by decide) (L' := [(0, .ref 45), (1, .int (nI s)), (2, .int (nI (mkr r i))), (3, .int (nI i)), (4, .int (nI (r i)))]) rfl ?_
      refine Z.aload_n B dX12_ranked_32 (v := .ref 45) rfl rfl ?_
      refine Z.iload B dX12_ranked_33 (x := nI (r i)) rfl ?_
      refine Z.callVI (σ := (zuX σ 64 (trM r (zX σ 64) i))) B (M' := mX12_isComer) (as := [.int (nI (r i))]) (st := []) (v := .int (nI 1)) dX12_ranked_35 wX12_isComer iX12_isComer sX12_isComer kX12_126 (hl.n (k := 45) (by decide)) (hl.k (k := 45) (by decide)) (by decide) rfl rfl (t_X12_isComer_in (σ := (zuX σ 64 (trM r (zX σ 64) i))) H hgi.2.2.1) rfl rfl (by decide) (by decide) (Nat.le_of_ble_eq_true rfl) (by decide) (by decide) ?_
      refine Z.if_eqN B dX12_ranked_38 (tgt := 51) rfl (by omega) (fun h38 => by exfalso; first | omega | contradiction | simp_all) (fun h38 => ?_)
      refine Z.iload_n B dX12_ranked_41 (x := nI (mkr r i)) rfl ?_
      refine Z.iload B dX12_ranked_42 (x := nI (r i)) rfl ?_
      refine Z.ishr B dX12_ranked_44 ?_
      refine Z.iconst B dX12_ranked_45 (v := nI 1) rfl ?_
      have hlt := hg.lt hn8 (i := i) (by omega)
      have hdb : ¬ mkr r i / 2 ^ (r i) % 2 = 1 := fun h => by have h1 := hg.new hit; rw [div_bit.mp h] at h1; cases h1
      refine Z.iandv B dX12_ranked_46 (v := nI (mkr r i / 2 ^ (r i) % 2)) (zbit (by omega) hr8) ?_
      refine Z.iconst B dX12_ranked_47 (v := nI 1) rfl ?_
      refine Z.icmp_neN B dX12_ranked_48 (tgt := 53) rfl (by omega) (by omega) (fun h48 => ?_) (fun h48 => absurd h48 hdb)
      refine Z.iload_n B dX12_ranked_53 (x := nI (mkr r i)) rfl ?_
      refine Z.iconst B dX12_ranked_54 (v := nI 1) rfl ?_
      refine Z.iload B dX12_ranked_55 (x := nI (r i)) rfl ?_
      refine Z.ishl B dX12_ranked_57 ?_
      refine Z.eqS (st' := [.int (nI (2 ^ (r i))), .int (nI (mkr r i))]) (by rw [zshl hr8]) ?_
      refine Z.iorv B dX12_ranked_58 (v := nI (mkr r (i + 1))) (nI_or _ _) ?_
      refine Z.istore_n B dX12_ranked_59 (by decide) (L' := [(0, .ref 45), (1, .int (nI s)), (2, .int (nI (mkr r (i + 1)))), (3, .int (nI i)), (4, .int (nI (r i)))]) rfl ?_
      refine Z.aload_n B dX12_ranked_60 (v := .ref 45) rfl rfl ?_
      refine Z.getR (σ := (zuX σ 64 (trM r (zX σ 64) i))) B fX12_75_12 dX12_ranked_61 (hl.n (k := 45) (by decide)) (hl.k (k := 45) (by decide)) (by decide) (j := 64) (hl.r (k := 45) (f := 29) (by decide) (by decide)) ?_
      refine Z.iload B dX12_ranked_64 (x := nI (r i)) rfl ?_
      refine Z.iload_n B dX12_ranked_66 (x := nI i) rfl ?_
      refine Z.ineg B dX12_ranked_67 ?_
      refine Z.iast (σ := (zuX σ 64 (trM r (zX σ 64) i))) B dX12_ranked_68 (n := 8) (hl.n (k := 64) (by decide)) (hl.k (k := 64) (by decide)) (hl.l (k := 64) (by decide)) (by decide) (j := r i) rfl (by have := hgi.2.2.1; omega) (τ := (zuX σ 64 (trM r (zX σ 64) (i + 1)))) (by rw [zX_self, zuX_uX]; rfl) ?_
      refine Z.iincN B dX12_ranked_69 (by decide) (a := i) rfl (L' := [(0, .ref 45), (1, .int (nI s)), (2, .int (nI (mkr r (i + 1)))), (3, .int (nI (i + 1))), (4, .int (nI (r i)))]) rfl ?_
      refine Z.goto B dX12_ranked_72 (tgt := 4) rfl ?_
      refine Z.drop 4 (L' := [(0, .ref 45), (1, .int (nI s)), (2, .int (nI (mkr r (i + 1)))), (3, .int (nI (i + 1)))]) rfl ?_
      exact ih (i + 1) (by omega) (by omega)
  have h0 := hloop4 0 (Nat.zero_le _)
  have e0 : trM r (zX σ 64) 0 = zX σ 64 := rfl
  rw [e0, zuX_id] at h0
  exact h0

theorem t_M_ranked_at {σ : zSt} (hl : Lay σ) {n a y : Nat} (H : zMd σ n a y) {s : Nat} (hs : s < 8) {o m : Nat} (hh : zMr σ s o m) {t : Nat} {r : Nat → Nat} (hg : rkG (fun i => (zY σ 58 (s * 160 + i)).toInt32) r m n t) (ht : t < n) (hb : rkB (fun i => (zY σ 58 (s * 160 + i)).toInt32) r m n t) : Dt mX12_ranked [.ref 45, .int (nI s)] σ (some (.int (nI t))) (zuX σ 64 (trM r (zX σ 64) t)) := by
  obtain ⟨-, hn, hn8, ha, ha4, hy, hy8⟩ := id H
  have hm160 := hh.2.2.2.2
  refine Dt.of (by decide) (Nat.le_of_ble_eq_true rfl) fun κ B Rt => ?_
  show Z κ 0 0 σ 0 [(0, .ref 45), (1, .int (nI s))] []
  refine Z.iconst B dX12_ranked_0 (v := nI 0) rfl ?_
  refine Z.istore_n B dX12_ranked_1 (by decide) (L' := [(0, .ref 45), (1, .int (nI s)), (2, .int (nI 0))]) rfl ?_
  refine Z.iconst B dX12_ranked_2 (v := nI 0) rfl ?_
  refine Z.istore_n B dX12_ranked_3 (by decide) (L' := [(0, .ref 45), (1, .int (nI s)), (2, .int (nI 0)), (3, .int (nI 0))]) rfl ?_
  have hloop4 : ∀ i : Nat, i ≤ t → Z κ 0 0 (zuX σ 64 (trM r (zX σ 64) i)) 4 [(0, .ref 45), (1, .int (nI s)), (2, .int (nI (mkr r i))), (3, .int (nI i))] [] := by
    refine z_loop (fun i => t - i) (fun i ih hi => ?_)
    refine Z.iload_n B dX12_ranked_4 (x := nI i) rfl ?_
    refine Z.aload_n B dX12_ranked_5 (v := .ref 45) rfl rfl ?_
    refine Z.getI (σ := (zuX σ 64 (trM r (zX σ 64) i))) B fX12_81_12 dX12_ranked_6 (hl.n (k := 45) (by decide)) (hl.k (k := 45) (by decide)) (by decide) (v := nI n) hn ?_
    refine Z.icmp_geN B dX12_ranked_9 (tgt := 75) rfl (by omega) (by omega) (fun h9 => by exfalso; first | omega | contradiction | simp_all) (fun h9 => ?_)
    refine Z.iload_n B dX12_ranked_12 (x := nI i) rfl ?_
    refine Z.aload_n B dX12_ranked_13 (v := .ref 45) rfl rfl ?_
    rcases (by omega : i < t ∨ (i = t ∧ m ≤ t) ∨ (i = t ∧ t < m)) with hit | ⟨rfl, hmt⟩ | ⟨rfl, hmt⟩
    · skip
      have hgi := hg i hit
      refine Z.getR (σ := (zuX σ 64 (trM r (zX σ 64) i))) B fX12_47_12 dX12_ranked_14 (hl.n (k := 45) (by decide)) (hl.k (k := 45) (by decide)) (by decide) (j := 56) (hl.r (k := 45) (f := 15) (by decide) (by decide)) ?_
      refine Z.iload_n B dX12_ranked_17 (x := nI s) rfl ?_
      refine Z.iald (σ := (zuX σ 64 (trM r (zX σ 64) i))) B dX12_ranked_18 (n := 8) (hl.n (k := 56) (by decide)) (hl.k (k := 56) (by decide)) (hl.l (k := 56) (by decide)) (by decide) (j := s) rfl (by omega) (v := nI m) hh.2.2.2.1 ?_
      refine Z.icmp_ltN B dX12_ranked_19 (tgt := 24) rfl (by omega) (by omega) (fun h19 => ?_) (fun h19 => by exfalso; have := hgi.1; omega)
      refine Z.aload_n B dX12_ranked_24 (v := .ref 45) rfl rfl ?_
      refine Z.iload_n B dX12_ranked_25 (x := nI s) rfl ?_
      refine Z.iload_n B dX12_ranked_26 (x := nI i) rfl ?_
      refine Z.callVI (σ := (zuX σ 64 (trM r (zX σ 64) i))) B (M' := mX12_intAt) (as := [.int (nI s), .int (nI i)]) (st := []) (v := .int ((fun i => (zY σ 58 (s * 160 + i)).toInt32) i)) dX12_ranked_27 wX12_intAt iX12_intAt sX12_intAt kX12_114 (hl.n (k := 45) (by decide)) (hl.k (k := 45) (by decide)) (by decide) rfl rfl (t_X12_intAt (σ := (zuX σ 64 (trM r (zX σ 64) i))) hl hs (i := i) (by have := hgi.1; omega)) rfl rfl (by decide) (by decide) (Nat.le_of_ble_eq_true rfl) (by decide) (by decide) ?_
      have hr8 : r i < 8 := by have := hgi.2.2.1; omega
      rw [show (fun i => (zY σ 58 (s * 160 + i)).toInt32) i = nI (r i) from hgi.2.1]
      refine Z.istore B dX12_ranked_30 (by decide) (L' := [(0, .ref 45), (1, .int (nI s)), (2, .int (nI (mkr r i))), (3, .int (nI i)), (4, .int (nI (r i)))]) rfl ?_
      refine Z.aload_n B dX12_ranked_32 (v := .ref 45) rfl rfl ?_
      refine Z.iload B dX12_ranked_33 (x := nI (r i)) rfl ?_
      refine Z.callVI (σ := (zuX σ 64 (trM r (zX σ 64) i))) B (M' := mX12_isComer) (as := [.int (nI (r i))]) (st := []) (v := .int (nI 1)) dX12_ranked_35 wX12_isComer iX12_isComer sX12_isComer kX12_126 (hl.n (k := 45) (by decide)) (hl.k (k := 45) (by decide)) (by decide) rfl rfl (t_X12_isComer_in (σ := (zuX σ 64 (trM r (zX σ 64) i))) H hgi.2.2.1) rfl rfl (by decide) (by decide) (Nat.le_of_ble_eq_true rfl) (by decide) (by decide) ?_
      refine Z.if_eqN B dX12_ranked_38 (tgt := 51) rfl (by omega) (fun h38 => by exfalso; first | omega | contradiction | simp_all) (fun h38 => ?_)
      refine Z.iload_n B dX12_ranked_41 (x := nI (mkr r i)) rfl ?_
      refine Z.iload B dX12_ranked_42 (x := nI (r i)) rfl ?_
      refine Z.ishr B dX12_ranked_44 ?_
      refine Z.iconst B dX12_ranked_45 (v := nI 1) rfl ?_
      have hlt := hg.lt hn8 (i := i) (by omega)
      have hdb : ¬ mkr r i / 2 ^ (r i) % 2 = 1 := fun h => by have h1 := hg.new hit; rw [div_bit.mp h] at h1; cases h1
      refine Z.iandv B dX12_ranked_46 (v := nI (mkr r i / 2 ^ (r i) % 2)) (zbit (by omega) hr8) ?_
      refine Z.iconst B dX12_ranked_47 (v := nI 1) rfl ?_
      refine Z.icmp_neN B dX12_ranked_48 (tgt := 53) rfl (by omega) (by omega) (fun h48 => ?_) (fun h48 => absurd h48 hdb)
      refine Z.iload_n B dX12_ranked_53 (x := nI (mkr r i)) rfl ?_
      refine Z.iconst B dX12_ranked_54 (v := nI 1) rfl ?_
      refine Z.iload B dX12_ranked_55 (x := nI (r i)) rfl ?_
      refine Z.ishl B dX12_ranked_57 ?_
      refine Z.eqS (st' := [.int (nI (2 ^ (r i))), .int (nI (mkr r i))]) (by rw [zshl hr8]) ?_
      refine Z.iorv B dX12_ranked_58 (v := nI (mkr r (i + 1))) (nI_or _ _) ?_
      refine Z.istore_n B dX12_ranked_59 (by decide) (L' := [(0, .ref 45), (1, .int (nI s)), (2, .int (nI (mkr r (i + 1)))), (3, .int (nI i)), (4, .int (nI (r i)))]) rfl ?_
      refine Z.aload_n B dX12_ranked_60 (v := .ref 45) rfl rfl ?_
      refine Z.getR (σ := (zuX σ 64 (trM r (zX σ 64) i))) B fX12_75_12 dX12_ranked_61 (hl.n (k := 45) (by decide)) (hl.k (k := 45) (by decide)) (by decide) (j := 64) (hl.r (k := 45) (f := 29) (by decide) (by decide)) ?_
      refine Z.iload B dX12_ranked_64 (x := nI (r i)) rfl ?_
      refine Z.iload_n B dX12_ranked_66 (x := nI i) rfl ?_
      refine Z.ineg B dX12_ranked_67 ?_
      refine Z.iast (σ := (zuX σ 64 (trM r (zX σ 64) i))) B dX12_ranked_68 (n := 8) (hl.n (k := 64) (by decide)) (hl.k (k := 64) (by decide)) (hl.l (k := 64) (by decide)) (by decide) (j := r i) rfl (by have := hgi.2.2.1; omega) (τ := (zuX σ 64 (trM r (zX σ 64) (i + 1)))) (by rw [zX_self, zuX_uX]; rfl) ?_
      refine Z.iincN B dX12_ranked_69 (by decide) (a := i) rfl (L' := [(0, .ref 45), (1, .int (nI s)), (2, .int (nI (mkr r (i + 1)))), (3, .int (nI (i + 1))), (4, .int (nI (r i)))]) rfl ?_
      refine Z.goto B dX12_ranked_72 (tgt := 4) rfl ?_
      refine Z.drop 4 (L' := [(0, .ref 45), (1, .int (nI s)), (2, .int (nI (mkr r (i + 1)))), (3, .int (nI (i + 1)))]) rfl ?_
      exact ih (i + 1) (by omega) (by omega)
    · skip
      refine Z.getR (σ := (zuX σ 64 (trM r (zX σ 64) i))) B fX12_47_12 dX12_ranked_14 (hl.n (k := 45) (by decide)) (hl.k (k := 45) (by decide)) (by decide) (j := 56) (hl.r (k := 45) (f := 15) (by decide) (by decide)) ?_
      refine Z.iload_n B dX12_ranked_17 (x := nI s) rfl ?_
      refine Z.iald (σ := (zuX σ 64 (trM r (zX σ 64) i))) B dX12_ranked_18 (n := 8) (hl.n (k := 56) (by decide)) (hl.k (k := 56) (by decide)) (hl.l (k := 56) (by decide)) (by decide) (j := s) rfl (by omega) (v := nI m) hh.2.2.2.1 ?_
      refine Z.icmp_ltN B dX12_ranked_19 (tgt := 24) rfl (by omega) (by omega) (fun h19 => by exfalso; first | omega | contradiction | simp_all) (fun h19 => ?_)
      refine Z.iload_n B dX12_ranked_22 (x := nI i) rfl ?_
      refine Z.iret B Rt dX12_ranked_23 (ty := .int) rfl rfl (by decide) (by decide) ?_
      exact ⟨rfl, rfl⟩
    · skip
      refine Z.getR (σ := (zuX σ 64 (trM r (zX σ 64) i))) B fX12_47_12 dX12_ranked_14 (hl.n (k := 45) (by decide)) (hl.k (k := 45) (by decide)) (by decide) (j := 56) (hl.r (k := 45) (f := 15) (by decide) (by decide)) ?_
      refine Z.iload_n B dX12_ranked_17 (x := nI s) rfl ?_
      refine Z.iald (σ := (zuX σ 64 (trM r (zX σ 64) i))) B dX12_ranked_18 (n := 8) (hl.n (k := 56) (by decide)) (hl.k (k := 56) (by decide)) (hl.l (k := 56) (by decide)) (by decide) (j := s) rfl (by omega) (v := nI m) hh.2.2.2.1 ?_
      refine Z.icmp_ltN B dX12_ranked_19 (tgt := 24) rfl (by omega) (by omega) (fun h19 => ?_) (fun h19 => by exfalso; first | omega | contradiction | simp_all)
      refine Z.aload_n B dX12_ranked_24 (v := .ref 45) rfl rfl ?_
      refine Z.iload_n B dX12_ranked_25 (x := nI s) rfl ?_
      refine Z.iload_n B dX12_ranked_26 (x := nI i) rfl ?_
      refine Z.callVI (σ := (zuX σ 64 (trM r (zX σ 64) i))) B (M' := mX12_intAt) (as := [.int (nI s), .int (nI i)]) (st := []) (v := .int ((fun i => (zY σ 58 (s * 160 + i)).toInt32) i)) dX12_ranked_27 wX12_intAt iX12_intAt sX12_intAt kX12_114 (hl.n (k := 45) (by decide)) (hl.k (k := 45) (by decide)) (by decide) rfl rfl (t_X12_intAt (σ := (zuX σ 64 (trM r (zX σ 64) i))) hl hs (i := i) (by omega)) rfl rfl (by decide) (by decide) (Nat.le_of_ble_eq_true rfl) (by decide) (by decide) ?_
      refine Z.istore B dX12_ranked_30 (by decide) (L' := [(0, .ref 45), (1, .int (nI s)), (2, .int (nI (mkr r i))), (3, .int (nI i)), (4, .int ((fun i => (zY σ 58 (s * 160 + i)).toInt32) i))]) rfl ?_
      refine Z.aload_n B dX12_ranked_32 (v := .ref 45) rfl rfl ?_
      refine Z.iload B dX12_ranked_33 (x := ((fun i => (zY σ 58 (s * 160 + i)).toInt32) i)) rfl ?_
      rcases hb with hb | hb | ⟨c, j, hc, hcn, hj, hrj⟩
      · skip
        exact absurd hb (by omega)
      · skip
        refine Z.callVI (σ := (zuX σ 64 (trM r (zX σ 64) i))) B (M' := mX12_isComer) (as := [.int ((fun i => (zY σ 58 (s * 160 + i)).toInt32) i)]) (st := []) (v := .int (nI 0)) dX12_ranked_35 wX12_isComer iX12_isComer sX12_isComer kX12_126 (hl.n (k := 45) (by decide)) (hl.k (k := 45) (by decide)) (by decide) rfl rfl (t_X12_isComer_out (σ := (zuX σ 64 (trM r (zX σ 64) i))) H hb) rfl rfl (by decide) (by decide) (Nat.le_of_ble_eq_true rfl) (by decide) (by decide) ?_
        refine Z.if_eqN B dX12_ranked_38 (tgt := 51) rfl (by omega) (fun h38 => ?_) (fun h38 => by exfalso; first | omega | contradiction | simp_all)
        refine Z.iload_n B dX12_ranked_51 (x := nI i) rfl ?_
        refine Z.iret B Rt dX12_ranked_52 (ty := .int) rfl rfl (by decide) (by decide) ?_
        exact ⟨rfl, rfl⟩
      · skip
        have hc8 : c < 8 := by omega
        rw [show (fun i => (zY σ 58 (s * 160 + i)).toInt32) i = nI c from hc]
        refine Z.callVI (σ := (zuX σ 64 (trM r (zX σ 64) i))) B (M' := mX12_isComer) (as := [.int (nI c)]) (st := []) (v := .int (nI 1)) dX12_ranked_35 wX12_isComer iX12_isComer sX12_isComer kX12_126 (hl.n (k := 45) (by decide)) (hl.k (k := 45) (by decide)) (by decide) rfl rfl (t_X12_isComer_in (σ := (zuX σ 64 (trM r (zX σ 64) i))) H hcn) rfl rfl (by decide) (by decide) (Nat.le_of_ble_eq_true rfl) (by decide) (by decide) ?_
        refine Z.if_eqN B dX12_ranked_38 (tgt := 51) rfl (by omega) (fun h38 => by exfalso; first | omega | contradiction | simp_all) (fun h38 => ?_)
        refine Z.iload_n B dX12_ranked_41 (x := nI (mkr r i)) rfl ?_
        refine Z.iload B dX12_ranked_42 (x := nI c) rfl ?_
        refine Z.ishr B dX12_ranked_44 ?_
        refine Z.iconst B dX12_ranked_45 (v := nI 1) rfl ?_
        have hlt := hg.lt hn8 (i := i) (by omega)
        have hdb : mkr r i / 2 ^ c % 2 = 1 := div_bit.mpr ((mkr_bit i).mpr ⟨j, hj, hrj⟩)
        refine Z.iandv B dX12_ranked_46 (v := nI (mkr r i / 2 ^ c % 2)) (zbit (by omega) hc8) ?_
        refine Z.iconst B dX12_ranked_47 (v := nI 1) rfl ?_
        refine Z.icmp_neN B dX12_ranked_48 (tgt := 53) rfl (by omega) (by omega) (fun h48 => absurd hdb h48) (fun h48 => ?_)
        refine Z.iload_n B dX12_ranked_51 (x := nI i) rfl ?_
        refine Z.iret B Rt dX12_ranked_52 (ty := .int) rfl rfl (by decide) (by decide) ?_
        exact ⟨rfl, rfl⟩
  have h0 := hloop4 0 (Nat.zero_le _)
  have e0 : trM r (zX σ 64) 0 = zX σ 64 := rfl
  rw [e0, zuX_id] at h0
  exact h0

theorem t_M_judge_1 {σ : zSt} (hl : Lay σ) {s : Int32} (hs : zOut s 8)  : Dt mX12_judge [.ref 45, .int s] σ (some (.int (-1))) (zuX σ 46 (upd (zX σ 46) 1 (zX σ 46 1 + nI 1))) := by
  refine Dt.of (by decide) (Nat.le_of_ble_eq_true rfl) fun κ B Rt => ?_
  show Z κ 0 0 σ 0 [(0, .ref 45), (1, .int s)] []
  refine Z.aload_n B dX12_judge_0 (v := .ref 45) rfl rfl ?_
  refine Z.iload_n B dX12_judge_1 (x := s) rfl ?_
  refine Z.callVI (σ := σ) B (M' := mX12_wants) (as := [.int s]) (st := []) (v := .int (-1)) dX12_judge_2 wX12_wants iX12_wants sX12_wants kX12_111 (hl.n (k := 45) (by decide)) (hl.k (k := 45) (by decide)) (by decide) rfl rfl (t_X12_wants_out (σ := σ) hl hs) rfl rfl (by decide) (by decide) (Nat.le_of_ble_eq_true rfl) (by decide) (by decide) ?_
  refine Z.istore_n B dX12_judge_5 (by decide) (L' := [(0, .ref 45), (1, .int s), (2, .int (-1))]) rfl ?_
  refine Z.iload_n B dX12_judge_6 (x := (-1)) rfl ?_
  refine Z.if_eq B dX12_judge_7 (tgt := 18) rfl (fun h7 => by exfalso; revert h7; decide) (fun h7 => ?_)
  refine Z.aload_n B dX12_judge_10 (v := .ref 45) rfl rfl ?_
  refine Z.iload_n B dX12_judge_11 (x := (-1)) rfl ?_
  refine Z.callVI (σ := σ) B (M' := mX12_no) (as := [.int (-1)]) (st := []) (v := .int (-1)) dX12_judge_12 wX12_no iX12_no sX12_no kX12_94 (hl.n (k := 45) (by decide)) (hl.k (k := 45) (by decide)) (by decide) rfl rfl (t_X12_no_1 (σ := σ) hl) rfl rfl (by decide) (by decide) (Nat.le_of_ble_eq_true rfl) (by decide) (by decide) ?_
  refine Z.eqσ (τ := (zuX σ 46 (upd (zX σ 46) 1 (zX σ 46 1 + nI 1)))) rfl ?_
  refine Z.goto B dX12_judge_15 (tgt := 23) rfl ?_
  refine Z.iret B Rt dX12_judge_23 (ty := .int) rfl rfl (by decide) (by decide) ?_
  exact ⟨rfl, rfl⟩

theorem t_M_told_1 {σ : zSt} (hl : Lay σ) {s : Int32} (hs : zOut s 8)  : Dt mX12_told [.ref 45, .int s] σ (some (.int ((-1) - nI 1000))) (zuX σ 46 (upd (zX σ 46) 1 (zX σ 46 1 + nI 1))) := by
  refine Dt.of (by decide) (Nat.le_of_ble_eq_true rfl) fun κ B Rt => ?_
  show Z κ 0 0 σ 0 [(0, .ref 45), (1, .int s)] []
  refine Z.aload_n B dX12_told_0 (v := .ref 45) rfl rfl ?_
  refine Z.iload_n B dX12_told_1 (x := s) rfl ?_
  refine Z.callVI (σ := σ) B (M' := mX12_wants) (as := [.int s]) (st := []) (v := .int (-1)) dX12_told_2 wX12_wants iX12_wants sX12_wants kX12_111 (hl.n (k := 45) (by decide)) (hl.k (k := 45) (by decide)) (by decide) rfl rfl (t_X12_wants_out (σ := σ) hl hs) rfl rfl (by decide) (by decide) (Nat.le_of_ble_eq_true rfl) (by decide) (by decide) ?_
  refine Z.istore_n B dX12_told_5 (by decide) (L' := [(0, .ref 45), (1, .int s), (2, .int (-1))]) rfl ?_
  refine Z.iload_n B dX12_told_6 (x := (-1)) rfl ?_
  refine Z.if_eq B dX12_told_7 (tgt := 16) rfl (fun h7 => by exfalso; revert h7; decide) (fun h7 => ?_)
  refine Z.aload_n B dX12_told_10 (v := .ref 45) rfl rfl ?_
  refine Z.iload_n B dX12_told_11 (x := (-1)) rfl ?_
  refine Z.callVI (σ := σ) B (M' := mX12_noLow) (as := [.int (-1)]) (st := []) (v := .int ((-1) - nI 1000)) dX12_told_12 wX12_noLow iX12_noLow sX12_noLow kX12_203 (hl.n (k := 45) (by decide)) (hl.k (k := 45) (by decide)) (by decide) rfl rfl (t_X12_noLow_1 (σ := σ) hl) rfl rfl (by decide) (by decide) (Nat.le_of_ble_eq_true rfl) (by decide) (by decide) ?_
  refine Z.eqσ (τ := (zuX σ 46 (upd (zX σ 46) 1 (zX σ 46 1 + nI 1)))) rfl ?_
  refine Z.iret B Rt dX12_told_15 (ty := .int) rfl rfl (by decide) (by decide) ?_
  exact ⟨rfl, rfl⟩

theorem t_M_comer_1 {σ : zSt} (hl : Lay σ) {s : Int32} (hs : zOut s 8)  {i : Int32} : Dt mX12_comer [.ref 45, .int s, .int i] σ (some (.int (-1))) (zuX σ 46 (upd (zX σ 46) 1 (zX σ 46 1 + nI 1))) := by
  refine Dt.of (by decide) (Nat.le_of_ble_eq_true rfl) fun κ B Rt => ?_
  show Z κ 0 0 σ 0 [(0, .ref 45), (1, .int s), (2, .int i)] []
  refine Z.aload_n B dX12_comer_0 (v := .ref 45) rfl rfl ?_
  refine Z.iload_n B dX12_comer_1 (x := s) rfl ?_
  refine Z.callVI (σ := σ) B (M' := mX12_wants) (as := [.int s]) (st := []) (v := .int (-1)) dX12_comer_2 wX12_wants iX12_wants sX12_wants kX12_111 (hl.n (k := 45) (by decide)) (hl.k (k := 45) (by decide)) (by decide) rfl rfl (t_X12_wants_out (σ := σ) hl hs) rfl rfl (by decide) (by decide) (Nat.le_of_ble_eq_true rfl) (by decide) (by decide) ?_
  refine Z.istore_n B dX12_comer_5 (by decide) (L' := [(0, .ref 45), (1, .int s), (2, .int i), (3, .int (-1))]) rfl ?_
  refine Z.iload_n B dX12_comer_6 (x := (-1)) rfl ?_
  refine Z.if_eq B dX12_comer_7 (tgt := 16) rfl (fun h7 => by exfalso; revert h7; decide) (fun h7 => ?_)
  refine Z.aload_n B dX12_comer_10 (v := .ref 45) rfl rfl ?_
  refine Z.iload_n B dX12_comer_11 (x := (-1)) rfl ?_
  refine Z.callVI (σ := σ) B (M' := mX12_no) (as := [.int (-1)]) (st := []) (v := .int (-1)) dX12_comer_12 wX12_no iX12_no sX12_no kX12_94 (hl.n (k := 45) (by decide)) (hl.k (k := 45) (by decide)) (by decide) rfl rfl (t_X12_no_1 (σ := σ) hl) rfl rfl (by decide) (by decide) (Nat.le_of_ble_eq_true rfl) (by decide) (by decide) ?_
  refine Z.eqσ (τ := (zuX σ 46 (upd (zX σ 46) 1 (zX σ 46 1 + nI 1)))) rfl ?_
  refine Z.iret B Rt dX12_comer_15 (ty := .int) rfl rfl (by decide) (by decide) ?_
  exact ⟨rfl, rfl⟩

theorem t_M_house_1 {σ : zSt} (hl : Lay σ) {s : Int32} (hs : zOut s 8)  : Dt mX12_house [.ref 45, .int s] σ (some (.int (-1))) (zuX σ 46 (upd (zX σ 46) 1 (zX σ 46 1 + nI 1))) := by
  refine Dt.of (by decide) (Nat.le_of_ble_eq_true rfl) fun κ B Rt => ?_
  show Z κ 0 0 σ 0 [(0, .ref 45), (1, .int s)] []
  refine Z.aload_n B dX12_house_0 (v := .ref 45) rfl rfl ?_
  refine Z.iload_n B dX12_house_1 (x := s) rfl ?_
  refine Z.callVI (σ := σ) B (M' := mX12_wants) (as := [.int s]) (st := []) (v := .int (-1)) dX12_house_2 wX12_wants iX12_wants sX12_wants kX12_111 (hl.n (k := 45) (by decide)) (hl.k (k := 45) (by decide)) (by decide) rfl rfl (t_X12_wants_out (σ := σ) hl hs) rfl rfl (by decide) (by decide) (Nat.le_of_ble_eq_true rfl) (by decide) (by decide) ?_
  refine Z.istore_n B dX12_house_5 (by decide) (L' := [(0, .ref 45), (1, .int s), (2, .int (-1))]) rfl ?_
  refine Z.iload_n B dX12_house_6 (x := (-1)) rfl ?_
  refine Z.if_eq B dX12_house_7 (tgt := 16) rfl (fun h7 => by exfalso; revert h7; decide) (fun h7 => ?_)
  refine Z.aload_n B dX12_house_10 (v := .ref 45) rfl rfl ?_
  refine Z.iload_n B dX12_house_11 (x := (-1)) rfl ?_
  refine Z.callVI (σ := σ) B (M' := mX12_no) (as := [.int (-1)]) (st := []) (v := .int (-1)) dX12_house_12 wX12_no iX12_no sX12_no kX12_94 (hl.n (k := 45) (by decide)) (hl.k (k := 45) (by decide)) (by decide) rfl rfl (t_X12_no_1 (σ := σ) hl) rfl rfl (by decide) (by decide) (Nat.le_of_ble_eq_true rfl) (by decide) (by decide) ?_
  refine Z.eqσ (τ := (zuX σ 46 (upd (zX σ 46) 1 (zX σ 46 1 + nI 1)))) rfl ?_
  refine Z.iret B Rt dX12_house_15 (ty := .int) rfl rfl (by decide) (by decide) ?_
  exact ⟨rfl, rfl⟩

theorem t_M_judge_2 {σ : zSt} (hl : Lay σ) {s : Nat} (hs : s < 8) {i8 : Nat} (hh : zMa σ s i8)  : Dt mX12_judge [.ref 45, .int (nI s)] σ (some (.int (-2))) (zuX σ 46 (upd (zX σ 46) 2 (zX σ 46 2 + nI 1))) := by
  refine Dt.of (by decide) (Nat.le_of_ble_eq_true rfl) fun κ B Rt => ?_
  show Z κ 0 0 σ 0 [(0, .ref 45), (1, .int (nI s))] []
  refine Z.aload_n B dX12_judge_0 (v := .ref 45) rfl rfl ?_
  refine Z.iload_n B dX12_judge_1 (x := nI s) rfl ?_
  refine Z.callVI (σ := σ) B (M' := mX12_wants) (as := [.int (nI s)]) (st := []) (v := .int (-2)) dX12_judge_2 wX12_wants iX12_wants sX12_wants kX12_111 (hl.n (k := 45) (by decide)) (hl.k (k := 45) (by decide)) (by decide) rfl rfl (t_X12_wants_2 (σ := σ) hl hs hh.1) rfl rfl (by decide) (by decide) (Nat.le_of_ble_eq_true rfl) (by decide) (by decide) ?_
  refine Z.istore_n B dX12_judge_5 (by decide) (L' := [(0, .ref 45), (1, .int (nI s)), (2, .int (-2))]) rfl ?_
  refine Z.iload_n B dX12_judge_6 (x := (-2)) rfl ?_
  refine Z.if_eq B dX12_judge_7 (tgt := 18) rfl (fun h7 => by exfalso; revert h7; decide) (fun h7 => ?_)
  refine Z.aload_n B dX12_judge_10 (v := .ref 45) rfl rfl ?_
  refine Z.iload_n B dX12_judge_11 (x := (-2)) rfl ?_
  refine Z.callVI (σ := σ) B (M' := mX12_no) (as := [.int (-2)]) (st := []) (v := .int (-2)) dX12_judge_12 wX12_no iX12_no sX12_no kX12_94 (hl.n (k := 45) (by decide)) (hl.k (k := 45) (by decide)) (by decide) rfl rfl (t_X12_no_2 (σ := σ) hl) rfl rfl (by decide) (by decide) (Nat.le_of_ble_eq_true rfl) (by decide) (by decide) ?_
  refine Z.eqσ (τ := (zuX σ 46 (upd (zX σ 46) 2 (zX σ 46 2 + nI 1)))) rfl ?_
  refine Z.goto B dX12_judge_15 (tgt := 23) rfl ?_
  refine Z.iret B Rt dX12_judge_23 (ty := .int) rfl rfl (by decide) (by decide) ?_
  exact ⟨rfl, rfl⟩

theorem t_M_told_2 {σ : zSt} (hl : Lay σ) {s : Nat} (hs : s < 8) {i8 : Nat} (hh : zMa σ s i8)  : Dt mX12_told [.ref 45, .int (nI s)] σ (some (.int ((-2) - nI 1000))) (zuX σ 46 (upd (zX σ 46) 2 (zX σ 46 2 + nI 1))) := by
  refine Dt.of (by decide) (Nat.le_of_ble_eq_true rfl) fun κ B Rt => ?_
  show Z κ 0 0 σ 0 [(0, .ref 45), (1, .int (nI s))] []
  refine Z.aload_n B dX12_told_0 (v := .ref 45) rfl rfl ?_
  refine Z.iload_n B dX12_told_1 (x := nI s) rfl ?_
  refine Z.callVI (σ := σ) B (M' := mX12_wants) (as := [.int (nI s)]) (st := []) (v := .int (-2)) dX12_told_2 wX12_wants iX12_wants sX12_wants kX12_111 (hl.n (k := 45) (by decide)) (hl.k (k := 45) (by decide)) (by decide) rfl rfl (t_X12_wants_2 (σ := σ) hl hs hh.1) rfl rfl (by decide) (by decide) (Nat.le_of_ble_eq_true rfl) (by decide) (by decide) ?_
  refine Z.istore_n B dX12_told_5 (by decide) (L' := [(0, .ref 45), (1, .int (nI s)), (2, .int (-2))]) rfl ?_
  refine Z.iload_n B dX12_told_6 (x := (-2)) rfl ?_
  refine Z.if_eq B dX12_told_7 (tgt := 16) rfl (fun h7 => by exfalso; revert h7; decide) (fun h7 => ?_)
  refine Z.aload_n B dX12_told_10 (v := .ref 45) rfl rfl ?_
  refine Z.iload_n B dX12_told_11 (x := (-2)) rfl ?_
  refine Z.callVI (σ := σ) B (M' := mX12_noLow) (as := [.int (-2)]) (st := []) (v := .int ((-2) - nI 1000)) dX12_told_12 wX12_noLow iX12_noLow sX12_noLow kX12_203 (hl.n (k := 45) (by decide)) (hl.k (k := 45) (by decide)) (by decide) rfl rfl (t_X12_noLow_2 (σ := σ) hl) rfl rfl (by decide) (by decide) (Nat.le_of_ble_eq_true rfl) (by decide) (by decide) ?_
  refine Z.eqσ (τ := (zuX σ 46 (upd (zX σ 46) 2 (zX σ 46 2 + nI 1)))) rfl ?_
  refine Z.iret B Rt dX12_told_15 (ty := .int) rfl rfl (by decide) (by decide) ?_
  exact ⟨rfl, rfl⟩

theorem t_M_comer_2 {σ : zSt} (hl : Lay σ) {s : Nat} (hs : s < 8) {i8 : Nat} (hh : zMa σ s i8)  {i : Int32} : Dt mX12_comer [.ref 45, .int (nI s), .int i] σ (some (.int (-2))) (zuX σ 46 (upd (zX σ 46) 2 (zX σ 46 2 + nI 1))) := by
  refine Dt.of (by decide) (Nat.le_of_ble_eq_true rfl) fun κ B Rt => ?_
  show Z κ 0 0 σ 0 [(0, .ref 45), (1, .int (nI s)), (2, .int i)] []
  refine Z.aload_n B dX12_comer_0 (v := .ref 45) rfl rfl ?_
  refine Z.iload_n B dX12_comer_1 (x := nI s) rfl ?_
  refine Z.callVI (σ := σ) B (M' := mX12_wants) (as := [.int (nI s)]) (st := []) (v := .int (-2)) dX12_comer_2 wX12_wants iX12_wants sX12_wants kX12_111 (hl.n (k := 45) (by decide)) (hl.k (k := 45) (by decide)) (by decide) rfl rfl (t_X12_wants_2 (σ := σ) hl hs hh.1) rfl rfl (by decide) (by decide) (Nat.le_of_ble_eq_true rfl) (by decide) (by decide) ?_
  refine Z.istore_n B dX12_comer_5 (by decide) (L' := [(0, .ref 45), (1, .int (nI s)), (2, .int i), (3, .int (-2))]) rfl ?_
  refine Z.iload_n B dX12_comer_6 (x := (-2)) rfl ?_
  refine Z.if_eq B dX12_comer_7 (tgt := 16) rfl (fun h7 => by exfalso; revert h7; decide) (fun h7 => ?_)
  refine Z.aload_n B dX12_comer_10 (v := .ref 45) rfl rfl ?_
  refine Z.iload_n B dX12_comer_11 (x := (-2)) rfl ?_
  refine Z.callVI (σ := σ) B (M' := mX12_no) (as := [.int (-2)]) (st := []) (v := .int (-2)) dX12_comer_12 wX12_no iX12_no sX12_no kX12_94 (hl.n (k := 45) (by decide)) (hl.k (k := 45) (by decide)) (by decide) rfl rfl (t_X12_no_2 (σ := σ) hl) rfl rfl (by decide) (by decide) (Nat.le_of_ble_eq_true rfl) (by decide) (by decide) ?_
  refine Z.eqσ (τ := (zuX σ 46 (upd (zX σ 46) 2 (zX σ 46 2 + nI 1)))) rfl ?_
  refine Z.iret B Rt dX12_comer_15 (ty := .int) rfl rfl (by decide) (by decide) ?_
  exact ⟨rfl, rfl⟩

theorem t_M_house_2 {σ : zSt} (hl : Lay σ) {s : Nat} (hs : s < 8) {i8 : Nat} (hh : zMa σ s i8)  : Dt mX12_house [.ref 45, .int (nI s)] σ (some (.int (-2))) (zuX σ 46 (upd (zX σ 46) 2 (zX σ 46 2 + nI 1))) := by
  refine Dt.of (by decide) (Nat.le_of_ble_eq_true rfl) fun κ B Rt => ?_
  show Z κ 0 0 σ 0 [(0, .ref 45), (1, .int (nI s))] []
  refine Z.aload_n B dX12_house_0 (v := .ref 45) rfl rfl ?_
  refine Z.iload_n B dX12_house_1 (x := nI s) rfl ?_
  refine Z.callVI (σ := σ) B (M' := mX12_wants) (as := [.int (nI s)]) (st := []) (v := .int (-2)) dX12_house_2 wX12_wants iX12_wants sX12_wants kX12_111 (hl.n (k := 45) (by decide)) (hl.k (k := 45) (by decide)) (by decide) rfl rfl (t_X12_wants_2 (σ := σ) hl hs hh.1) rfl rfl (by decide) (by decide) (Nat.le_of_ble_eq_true rfl) (by decide) (by decide) ?_
  refine Z.istore_n B dX12_house_5 (by decide) (L' := [(0, .ref 45), (1, .int (nI s)), (2, .int (-2))]) rfl ?_
  refine Z.iload_n B dX12_house_6 (x := (-2)) rfl ?_
  refine Z.if_eq B dX12_house_7 (tgt := 16) rfl (fun h7 => by exfalso; revert h7; decide) (fun h7 => ?_)
  refine Z.aload_n B dX12_house_10 (v := .ref 45) rfl rfl ?_
  refine Z.iload_n B dX12_house_11 (x := (-2)) rfl ?_
  refine Z.callVI (σ := σ) B (M' := mX12_no) (as := [.int (-2)]) (st := []) (v := .int (-2)) dX12_house_12 wX12_no iX12_no sX12_no kX12_94 (hl.n (k := 45) (by decide)) (hl.k (k := 45) (by decide)) (by decide) rfl rfl (t_X12_no_2 (σ := σ) hl) rfl rfl (by decide) (by decide) (Nat.le_of_ble_eq_true rfl) (by decide) (by decide) ?_
  refine Z.eqσ (τ := (zuX σ 46 (upd (zX σ 46) 2 (zX σ 46 2 + nI 1)))) rfl ?_
  refine Z.iret B Rt dX12_house_15 (ty := .int) rfl rfl (by decide) (by decide) ?_
  exact ⟨rfl, rfl⟩

theorem t_M_judge_3 {σ : zSt} (hl : Lay σ) {s : Nat} (hs : s < 8) (hh : zMn σ s)  : Dt mX12_judge [.ref 45, .int (nI s)] σ (some (.int (-3))) (zuX σ 46 (upd (zX σ 46) 3 (zX σ 46 3 + nI 1))) := by
  refine Dt.of (by decide) (Nat.le_of_ble_eq_true rfl) fun κ B Rt => ?_
  show Z κ 0 0 σ 0 [(0, .ref 45), (1, .int (nI s))] []
  refine Z.aload_n B dX12_judge_0 (v := .ref 45) rfl rfl ?_
  refine Z.iload_n B dX12_judge_1 (x := nI s) rfl ?_
  refine Z.callVI (σ := σ) B (M' := mX12_wants) (as := [.int (nI s)]) (st := []) (v := .int (-3)) dX12_judge_2 wX12_wants iX12_wants sX12_wants kX12_111 (hl.n (k := 45) (by decide)) (hl.k (k := 45) (by decide)) (by decide) rfl rfl (t_X12_wants_0 (σ := σ) hl hs hh) rfl rfl (by decide) (by decide) (Nat.le_of_ble_eq_true rfl) (by decide) (by decide) ?_
  refine Z.istore_n B dX12_judge_5 (by decide) (L' := [(0, .ref 45), (1, .int (nI s)), (2, .int (-3))]) rfl ?_
  refine Z.iload_n B dX12_judge_6 (x := (-3)) rfl ?_
  refine Z.if_eq B dX12_judge_7 (tgt := 18) rfl (fun h7 => by exfalso; revert h7; decide) (fun h7 => ?_)
  refine Z.aload_n B dX12_judge_10 (v := .ref 45) rfl rfl ?_
  refine Z.iload_n B dX12_judge_11 (x := (-3)) rfl ?_
  refine Z.callVI (σ := σ) B (M' := mX12_no) (as := [.int (-3)]) (st := []) (v := .int (-3)) dX12_judge_12 wX12_no iX12_no sX12_no kX12_94 (hl.n (k := 45) (by decide)) (hl.k (k := 45) (by decide)) (by decide) rfl rfl (t_X12_no_3 (σ := σ) hl) rfl rfl (by decide) (by decide) (Nat.le_of_ble_eq_true rfl) (by decide) (by decide) ?_
  refine Z.eqσ (τ := (zuX σ 46 (upd (zX σ 46) 3 (zX σ 46 3 + nI 1)))) rfl ?_
  refine Z.goto B dX12_judge_15 (tgt := 23) rfl ?_
  refine Z.iret B Rt dX12_judge_23 (ty := .int) rfl rfl (by decide) (by decide) ?_
  exact ⟨rfl, rfl⟩

theorem t_M_told_3 {σ : zSt} (hl : Lay σ) {s : Nat} (hs : s < 8) (hh : zMn σ s)  : Dt mX12_told [.ref 45, .int (nI s)] σ (some (.int ((-3) - nI 1000))) (zuX σ 46 (upd (zX σ 46) 3 (zX σ 46 3 + nI 1))) := by
  refine Dt.of (by decide) (Nat.le_of_ble_eq_true rfl) fun κ B Rt => ?_
  show Z κ 0 0 σ 0 [(0, .ref 45), (1, .int (nI s))] []
  refine Z.aload_n B dX12_told_0 (v := .ref 45) rfl rfl ?_
  refine Z.iload_n B dX12_told_1 (x := nI s) rfl ?_
  refine Z.callVI (σ := σ) B (M' := mX12_wants) (as := [.int (nI s)]) (st := []) (v := .int (-3)) dX12_told_2 wX12_wants iX12_wants sX12_wants kX12_111 (hl.n (k := 45) (by decide)) (hl.k (k := 45) (by decide)) (by decide) rfl rfl (t_X12_wants_0 (σ := σ) hl hs hh) rfl rfl (by decide) (by decide) (Nat.le_of_ble_eq_true rfl) (by decide) (by decide) ?_
  refine Z.istore_n B dX12_told_5 (by decide) (L' := [(0, .ref 45), (1, .int (nI s)), (2, .int (-3))]) rfl ?_
  refine Z.iload_n B dX12_told_6 (x := (-3)) rfl ?_
  refine Z.if_eq B dX12_told_7 (tgt := 16) rfl (fun h7 => by exfalso; revert h7; decide) (fun h7 => ?_)
  refine Z.aload_n B dX12_told_10 (v := .ref 45) rfl rfl ?_
  refine Z.iload_n B dX12_told_11 (x := (-3)) rfl ?_
  refine Z.callVI (σ := σ) B (M' := mX12_noLow) (as := [.int (-3)]) (st := []) (v := .int ((-3) - nI 1000)) dX12_told_12 wX12_noLow iX12_noLow sX12_noLow kX12_203 (hl.n (k := 45) (by decide)) (hl.k (k := 45) (by decide)) (by decide) rfl rfl (t_X12_noLow_3 (σ := σ) hl) rfl rfl (by decide) (by decide) (Nat.le_of_ble_eq_true rfl) (by decide) (by decide) ?_
  refine Z.eqσ (τ := (zuX σ 46 (upd (zX σ 46) 3 (zX σ 46 3 + nI 1)))) rfl ?_
  refine Z.iret B Rt dX12_told_15 (ty := .int) rfl rfl (by decide) (by decide) ?_
  exact ⟨rfl, rfl⟩

theorem t_M_comer_3 {σ : zSt} (hl : Lay σ) {s : Nat} (hs : s < 8) (hh : zMn σ s)  {i : Int32} : Dt mX12_comer [.ref 45, .int (nI s), .int i] σ (some (.int (-3))) (zuX σ 46 (upd (zX σ 46) 3 (zX σ 46 3 + nI 1))) := by
  refine Dt.of (by decide) (Nat.le_of_ble_eq_true rfl) fun κ B Rt => ?_
  show Z κ 0 0 σ 0 [(0, .ref 45), (1, .int (nI s)), (2, .int i)] []
  refine Z.aload_n B dX12_comer_0 (v := .ref 45) rfl rfl ?_
  refine Z.iload_n B dX12_comer_1 (x := nI s) rfl ?_
  refine Z.callVI (σ := σ) B (M' := mX12_wants) (as := [.int (nI s)]) (st := []) (v := .int (-3)) dX12_comer_2 wX12_wants iX12_wants sX12_wants kX12_111 (hl.n (k := 45) (by decide)) (hl.k (k := 45) (by decide)) (by decide) rfl rfl (t_X12_wants_0 (σ := σ) hl hs hh) rfl rfl (by decide) (by decide) (Nat.le_of_ble_eq_true rfl) (by decide) (by decide) ?_
  refine Z.istore_n B dX12_comer_5 (by decide) (L' := [(0, .ref 45), (1, .int (nI s)), (2, .int i), (3, .int (-3))]) rfl ?_
  refine Z.iload_n B dX12_comer_6 (x := (-3)) rfl ?_
  refine Z.if_eq B dX12_comer_7 (tgt := 16) rfl (fun h7 => by exfalso; revert h7; decide) (fun h7 => ?_)
  refine Z.aload_n B dX12_comer_10 (v := .ref 45) rfl rfl ?_
  refine Z.iload_n B dX12_comer_11 (x := (-3)) rfl ?_
  refine Z.callVI (σ := σ) B (M' := mX12_no) (as := [.int (-3)]) (st := []) (v := .int (-3)) dX12_comer_12 wX12_no iX12_no sX12_no kX12_94 (hl.n (k := 45) (by decide)) (hl.k (k := 45) (by decide)) (by decide) rfl rfl (t_X12_no_3 (σ := σ) hl) rfl rfl (by decide) (by decide) (Nat.le_of_ble_eq_true rfl) (by decide) (by decide) ?_
  refine Z.eqσ (τ := (zuX σ 46 (upd (zX σ 46) 3 (zX σ 46 3 + nI 1)))) rfl ?_
  refine Z.iret B Rt dX12_comer_15 (ty := .int) rfl rfl (by decide) (by decide) ?_
  exact ⟨rfl, rfl⟩

theorem t_M_house_3 {σ : zSt} (hl : Lay σ) {s : Nat} (hs : s < 8) (hh : zMn σ s)  : Dt mX12_house [.ref 45, .int (nI s)] σ (some (.int (-3))) (zuX σ 46 (upd (zX σ 46) 3 (zX σ 46 3 + nI 1))) := by
  refine Dt.of (by decide) (Nat.le_of_ble_eq_true rfl) fun κ B Rt => ?_
  show Z κ 0 0 σ 0 [(0, .ref 45), (1, .int (nI s))] []
  refine Z.aload_n B dX12_house_0 (v := .ref 45) rfl rfl ?_
  refine Z.iload_n B dX12_house_1 (x := nI s) rfl ?_
  refine Z.callVI (σ := σ) B (M' := mX12_wants) (as := [.int (nI s)]) (st := []) (v := .int (-3)) dX12_house_2 wX12_wants iX12_wants sX12_wants kX12_111 (hl.n (k := 45) (by decide)) (hl.k (k := 45) (by decide)) (by decide) rfl rfl (t_X12_wants_0 (σ := σ) hl hs hh) rfl rfl (by decide) (by decide) (Nat.le_of_ble_eq_true rfl) (by decide) (by decide) ?_
  refine Z.istore_n B dX12_house_5 (by decide) (L' := [(0, .ref 45), (1, .int (nI s)), (2, .int (-3))]) rfl ?_
  refine Z.iload_n B dX12_house_6 (x := (-3)) rfl ?_
  refine Z.if_eq B dX12_house_7 (tgt := 16) rfl (fun h7 => by exfalso; revert h7; decide) (fun h7 => ?_)
  refine Z.aload_n B dX12_house_10 (v := .ref 45) rfl rfl ?_
  refine Z.iload_n B dX12_house_11 (x := (-3)) rfl ?_
  refine Z.callVI (σ := σ) B (M' := mX12_no) (as := [.int (-3)]) (st := []) (v := .int (-3)) dX12_house_12 wX12_no iX12_no sX12_no kX12_94 (hl.n (k := 45) (by decide)) (hl.k (k := 45) (by decide)) (by decide) rfl rfl (t_X12_no_3 (σ := σ) hl) rfl rfl (by decide) (by decide) (Nat.le_of_ble_eq_true rfl) (by decide) (by decide) ?_
  refine Z.eqσ (τ := (zuX σ 46 (upd (zX σ 46) 3 (zX σ 46 3 + nI 1)))) rfl ?_
  refine Z.iret B Rt dX12_house_15 (ty := .int) rfl rfl (by decide) (by decide) ?_
  exact ⟨rfl, rfl⟩

theorem t_M_judge_at {σ : zSt} (hl : Lay σ) {n a y : Nat} (H : zMd σ n a y) {s : Nat} (hs : s < 8) {o m : Nat} (hh : zMr σ s o m) {t : Nat} {r : Nat → Nat} (hg : rkG (fun i => (zY σ 58 (s * 160 + i)).toInt32) r m n t) (ht : t < n) (hb : rkB (fun i => (zY σ 58 (s * 160 + i)).toInt32) r m n t) : Dt mX12_judge [.ref 45, .int (nI s)] σ (some (.int (nI t))) (zuX σ 64 (trM r (zX σ 64) t)) := by
  obtain ⟨-, hn, hn8, ha, ha4, hy, hy8⟩ := id H
  refine Dt.of (by decide) (Nat.le_of_ble_eq_true rfl) fun κ B Rt => ?_
  show Z κ 0 0 σ 0 [(0, .ref 45), (1, .int (nI s))] []
  refine Z.aload_n B dX12_judge_0 (v := .ref 45) rfl rfl ?_
  refine Z.iload_n B dX12_judge_1 (x := nI s) rfl ?_
  refine Z.callVI (σ := σ) B (M' := mX12_wants) (as := [.int (nI s)]) (st := []) (v := .int (nI 0)) dX12_judge_2 wX12_wants iX12_wants sX12_wants kX12_111 (hl.n (k := 45) (by decide)) (hl.k (k := 45) (by decide)) (by decide) rfl rfl (t_X12_wants_1 (σ := σ) hl hs hh.1) rfl rfl (by decide) (by decide) (Nat.le_of_ble_eq_true rfl) (by decide) (by decide) ?_
  refine Z.istore_n B dX12_judge_5 (by decide) (L' := [(0, .ref 45), (1, .int (nI s)), (2, .int (nI 0))]) rfl ?_
  refine Z.iload_n B dX12_judge_6 (x := nI 0) rfl ?_
  refine Z.if_eqN B dX12_judge_7 (tgt := 18) rfl (by omega) (fun h7 => ?_) (fun h7 => by exfalso; first | omega | contradiction | simp_all)
  refine Z.aload_n B dX12_judge_18 (v := .ref 45) rfl rfl ?_
  refine Z.iload_n B dX12_judge_19 (x := nI s) rfl ?_
  refine Z.callVI (σ := σ) B (M' := mX12_ranked) (as := [.int (nI s)]) (st := []) (v := .int (nI t)) dX12_judge_20 wX12_ranked iX12_ranked sX12_ranked kX12_219 (hl.n (k := 45) (by decide)) (hl.k (k := 45) (by decide)) (by decide) rfl rfl (t_M_ranked_at (σ := σ) hl H hs hh hg ht hb) rfl rfl (by decide) (by decide) (Nat.le_of_ble_eq_true rfl) (by decide) (by decide) ?_
  refine Z.eqσ (τ := (zuX σ 64 (trM r (zX σ 64) t))) rfl ?_
  refine Z.iret B Rt dX12_judge_23 (ty := .int) rfl rfl (by decide) (by decide) ?_
  exact ⟨rfl, rfl⟩

theorem t_M_judge_ok {σ : zSt} (hl : Lay σ) {n a y : Nat} (H : zMd σ n a y) {s : Nat} (hs : s < 8) {o m : Nat} (hh : zMr σ s o m) {t : Nat} {r : Nat → Nat} (hg : rkG (fun i => (zY σ 58 (s * 160 + i)).toInt32) r m n t) (ht : t = n) : Dt mX12_judge [.ref 45, .int (nI s)] σ (some (.int (if n < m then nI n else (-1)))) (zuX σ 64 (trM r (zX σ 64) n)) := by
  obtain ⟨-, hn, hn8, ha, ha4, hy, hy8⟩ := id H
  refine Dt.of (by decide) (Nat.le_of_ble_eq_true rfl) fun κ B Rt => ?_
  show Z κ 0 0 σ 0 [(0, .ref 45), (1, .int (nI s))] []
  refine Z.aload_n B dX12_judge_0 (v := .ref 45) rfl rfl ?_
  refine Z.iload_n B dX12_judge_1 (x := nI s) rfl ?_
  refine Z.callVI (σ := σ) B (M' := mX12_wants) (as := [.int (nI s)]) (st := []) (v := .int (nI 0)) dX12_judge_2 wX12_wants iX12_wants sX12_wants kX12_111 (hl.n (k := 45) (by decide)) (hl.k (k := 45) (by decide)) (by decide) rfl rfl (t_X12_wants_1 (σ := σ) hl hs hh.1) rfl rfl (by decide) (by decide) (Nat.le_of_ble_eq_true rfl) (by decide) (by decide) ?_
  refine Z.istore_n B dX12_judge_5 (by decide) (L' := [(0, .ref 45), (1, .int (nI s)), (2, .int (nI 0))]) rfl ?_
  refine Z.iload_n B dX12_judge_6 (x := nI 0) rfl ?_
  refine Z.if_eqN B dX12_judge_7 (tgt := 18) rfl (by omega) (fun h7 => ?_) (fun h7 => by exfalso; first | omega | contradiction | simp_all)
  refine Z.aload_n B dX12_judge_18 (v := .ref 45) rfl rfl ?_
  refine Z.iload_n B dX12_judge_19 (x := nI s) rfl ?_
  refine Z.callVI (σ := σ) B (M' := mX12_ranked) (as := [.int (nI s)]) (st := []) (v := .int (if n < m then nI n else (-1))) dX12_judge_20 wX12_ranked iX12_ranked sX12_ranked kX12_219 (hl.n (k := 45) (by decide)) (hl.k (k := 45) (by decide)) (by decide) rfl rfl (t_M_ranked_ok (σ := σ) hl H hs hh hg ht) rfl rfl (by decide) (by decide) (Nat.le_of_ble_eq_true rfl) (by decide) (by decide) ?_
  refine Z.eqσ (τ := (zuX σ 64 (trM r (zX σ 64) n))) rfl ?_
  refine Z.iret B Rt dX12_judge_23 (ty := .int) rfl rfl (by decide) (by decide) ?_
  exact ⟨rfl, rfl⟩

theorem t_M_told_6a {σ : zSt} (hl : Lay σ) {n a y : Nat} (H : zMd σ n a y) {s : Nat} (hs : s < 8) {o m : Nat} (hh : zMr σ s o m) {t : Nat} {r : Nat → Nat} (hg : rkG (fun i => (zY σ 58 (s * 160 + i)).toInt32) r m n t) (ht : t < n) (hb : rkB (fun i => (zY σ 58 (s * 160 + i)).toInt32) r m n t) : Dt mX12_told [.ref 45, .int (nI s)] σ (some (.int ((-6) - nI 1000))) (zuX (zuX σ 64 (trM r (zX σ 64) t)) 46 (upd (zX σ 46) 6 (zX σ 46 6 + nI 1))) := by
  obtain ⟨-, hn, hn8, ha, ha4, hy, hy8⟩ := id H
  refine Dt.of (by decide) (Nat.le_of_ble_eq_true rfl) fun κ B Rt => ?_
  show Z κ 0 0 σ 0 [(0, .ref 45), (1, .int (nI s))] []
  refine Z.aload_n B dX12_told_0 (v := .ref 45) rfl rfl ?_
  refine Z.iload_n B dX12_told_1 (x := nI s) rfl ?_
  refine Z.callVI (σ := σ) B (M' := mX12_wants) (as := [.int (nI s)]) (st := []) (v := .int (nI 0)) dX12_told_2 wX12_wants iX12_wants sX12_wants kX12_111 (hl.n (k := 45) (by decide)) (hl.k (k := 45) (by decide)) (by decide) rfl rfl (t_X12_wants_1 (σ := σ) hl hs hh.1) rfl rfl (by decide) (by decide) (Nat.le_of_ble_eq_true rfl) (by decide) (by decide) ?_
  refine Z.istore_n B dX12_told_5 (by decide) (L' := [(0, .ref 45), (1, .int (nI s)), (2, .int (nI 0))]) rfl ?_
  refine Z.iload_n B dX12_told_6 (x := nI 0) rfl ?_
  refine Z.if_eqN B dX12_told_7 (tgt := 16) rfl (by omega) (fun h7 => ?_) (fun h7 => by exfalso; first | omega | contradiction | simp_all)
  refine Z.aload_n B dX12_told_16 (v := .ref 45) rfl rfl ?_
  refine Z.iload_n B dX12_told_17 (x := nI s) rfl ?_
  refine Z.callVI (σ := σ) B (M' := mX12_ranked) (as := [.int (nI s)]) (st := []) (v := .int (nI t)) dX12_told_18 wX12_ranked iX12_ranked sX12_ranked kX12_219 (hl.n (k := 45) (by decide)) (hl.k (k := 45) (by decide)) (by decide) rfl rfl (t_M_ranked_at (σ := σ) hl H hs hh hg ht hb) rfl rfl (by decide) (by decide) (Nat.le_of_ble_eq_true rfl) (by decide) (by decide) ?_
  refine Z.eqσ (τ := (zuX σ 64 (trM r (zX σ 64) t))) rfl ?_
  refine Z.iconst B dX12_told_21 (v := (-1)) rfl ?_
  refine Z.icmp_eq B dX12_told_22 (tgt := 34) rfl (fun h22 => absurd h22 (zm1 (by omega))) (fun h22 => ?_)
  refine Z.aload_n B dX12_told_25 (v := .ref 45) rfl rfl ?_
  refine Z.bipush B dX12_told_26 (v := (-6)) rfl ?_
  refine Z.callVI (σ := (zuX σ 64 (trM r (zX σ 64) t))) B (M' := mX12_noLow) (as := [.int (-6)]) (st := []) (v := .int ((-6) - nI 1000)) dX12_told_28 wX12_noLow iX12_noLow sX12_noLow kX12_203 (hl.n (k := 45) (by decide)) (hl.k (k := 45) (by decide)) (by decide) rfl rfl (t_X12_noLow_6 (σ := (zuX σ 64 (trM r (zX σ 64) t))) hl) rfl rfl (by decide) (by decide) (Nat.le_of_ble_eq_true rfl) (by decide) (by decide) ?_
  refine Z.eqσ (τ := (zuX (zuX σ 64 (trM r (zX σ 64) t)) 46 (upd (zX σ 46) 6 (zX σ 46 6 + nI 1)))) rfl ?_
  refine Z.goto B dX12_told_31 (tgt := 41) rfl ?_
  refine Z.iret B Rt dX12_told_41 (ty := .int) rfl rfl (by decide) (by decide) ?_
  exact ⟨rfl, rfl⟩

theorem t_M_told_6b {σ : zSt} (hl : Lay σ) {n a y : Nat} (H : zMd σ n a y) {s : Nat} (hs : s < 8) {o m : Nat} (hh : zMr σ s o m) {t : Nat} {r : Nat → Nat} (hg : rkG (fun i => (zY σ 58 (s * 160 + i)).toInt32) r m n t) (ht : t = n) (hmn : n < m) : Dt mX12_told [.ref 45, .int (nI s)] σ (some (.int ((-6) - nI 1000))) (zuX (zuX σ 64 (trM r (zX σ 64) n)) 46 (upd (zX σ 46) 6 (zX σ 46 6 + nI 1))) := by
  obtain ⟨-, hn, hn8, ha, ha4, hy, hy8⟩ := id H
  refine Dt.of (by decide) (Nat.le_of_ble_eq_true rfl) fun κ B Rt => ?_
  show Z κ 0 0 σ 0 [(0, .ref 45), (1, .int (nI s))] []
  refine Z.aload_n B dX12_told_0 (v := .ref 45) rfl rfl ?_
  refine Z.iload_n B dX12_told_1 (x := nI s) rfl ?_
  refine Z.callVI (σ := σ) B (M' := mX12_wants) (as := [.int (nI s)]) (st := []) (v := .int (nI 0)) dX12_told_2 wX12_wants iX12_wants sX12_wants kX12_111 (hl.n (k := 45) (by decide)) (hl.k (k := 45) (by decide)) (by decide) rfl rfl (t_X12_wants_1 (σ := σ) hl hs hh.1) rfl rfl (by decide) (by decide) (Nat.le_of_ble_eq_true rfl) (by decide) (by decide) ?_
  refine Z.istore_n B dX12_told_5 (by decide) (L' := [(0, .ref 45), (1, .int (nI s)), (2, .int (nI 0))]) rfl ?_
  refine Z.iload_n B dX12_told_6 (x := nI 0) rfl ?_
  refine Z.if_eqN B dX12_told_7 (tgt := 16) rfl (by omega) (fun h7 => ?_) (fun h7 => by exfalso; first | omega | contradiction | simp_all)
  refine Z.aload_n B dX12_told_16 (v := .ref 45) rfl rfl ?_
  refine Z.iload_n B dX12_told_17 (x := nI s) rfl ?_
  refine Z.callVI (σ := σ) B (M' := mX12_ranked) (as := [.int (nI s)]) (st := []) (v := .int (if n < m then nI n else (-1))) dX12_told_18 wX12_ranked iX12_ranked sX12_ranked kX12_219 (hl.n (k := 45) (by decide)) (hl.k (k := 45) (by decide)) (by decide) rfl rfl (t_M_ranked_ok (σ := σ) hl H hs hh hg ht) rfl rfl (by decide) (by decide) (Nat.le_of_ble_eq_true rfl) (by decide) (by decide) ?_
  refine Z.eqσ (τ := (zuX σ 64 (trM r (zX σ 64) n))) rfl ?_
  refine Z.iconst B dX12_told_21 (v := (-1)) rfl ?_
  rw [if_pos hmn]
  refine Z.icmp_eq B dX12_told_22 (tgt := 34) rfl (fun h22 => absurd h22 (zm1 (by omega))) (fun h22 => ?_)
  refine Z.aload_n B dX12_told_25 (v := .ref 45) rfl rfl ?_
  refine Z.bipush B dX12_told_26 (v := (-6)) rfl ?_
  refine Z.callVI (σ := (zuX σ 64 (trM r (zX σ 64) n))) B (M' := mX12_noLow) (as := [.int (-6)]) (st := []) (v := .int ((-6) - nI 1000)) dX12_told_28 wX12_noLow iX12_noLow sX12_noLow kX12_203 (hl.n (k := 45) (by decide)) (hl.k (k := 45) (by decide)) (by decide) rfl rfl (t_X12_noLow_6 (σ := (zuX σ 64 (trM r (zX σ 64) n))) hl) rfl rfl (by decide) (by decide) (Nat.le_of_ble_eq_true rfl) (by decide) (by decide) ?_
  refine Z.eqσ (τ := (zuX (zuX σ 64 (trM r (zX σ 64) n)) 46 (upd (zX σ 46) 6 (zX σ 46 6 + nI 1)))) rfl ?_
  refine Z.goto B dX12_told_31 (tgt := 41) rfl ?_
  refine Z.iret B Rt dX12_told_41 (ty := .int) rfl rfl (by decide) (by decide) ?_
  exact ⟨rfl, rfl⟩

theorem t_M_told_0 {σ : zSt} (hl : Lay σ) {n a y : Nat} (H : zMd σ n a y) {s : Nat} (hs : s < 8) {o m : Nat} (hh : zMr σ s o m) {r : Nat → Nat} (hg : rkG (fun i => (zY σ 58 (s * 160 + i)).toInt32) r m n n) (hmn : ¬ n < m) : Dt mX12_told [.ref 45, .int (nI s)] σ (some (.int (tO (mt (am_ 255) (zX σ 47) (trM r (zX σ 64) n)) n))) (zuX σ 64 (trM r (zX σ 64) n)) := by
  obtain ⟨-, hn, hn8, ha, ha4, hy, hy8⟩ := id H
  refine Dt.of (by decide) (Nat.le_of_ble_eq_true rfl) fun κ B Rt => ?_
  show Z κ 0 0 σ 0 [(0, .ref 45), (1, .int (nI s))] []
  refine Z.aload_n B dX12_told_0 (v := .ref 45) rfl rfl ?_
  refine Z.iload_n B dX12_told_1 (x := nI s) rfl ?_
  refine Z.callVI (σ := σ) B (M' := mX12_wants) (as := [.int (nI s)]) (st := []) (v := .int (nI 0)) dX12_told_2 wX12_wants iX12_wants sX12_wants kX12_111 (hl.n (k := 45) (by decide)) (hl.k (k := 45) (by decide)) (by decide) rfl rfl (t_X12_wants_1 (σ := σ) hl hs hh.1) rfl rfl (by decide) (by decide) (Nat.le_of_ble_eq_true rfl) (by decide) (by decide) ?_
  refine Z.istore_n B dX12_told_5 (by decide) (L' := [(0, .ref 45), (1, .int (nI s)), (2, .int (nI 0))]) rfl ?_
  refine Z.iload_n B dX12_told_6 (x := nI 0) rfl ?_
  refine Z.if_eqN B dX12_told_7 (tgt := 16) rfl (by omega) (fun h7 => ?_) (fun h7 => by exfalso; first | omega | contradiction | simp_all)
  refine Z.aload_n B dX12_told_16 (v := .ref 45) rfl rfl ?_
  refine Z.iload_n B dX12_told_17 (x := nI s) rfl ?_
  refine Z.callVI (σ := σ) B (M' := mX12_ranked) (as := [.int (nI s)]) (st := []) (v := .int (if n < m then nI n else (-1))) dX12_told_18 wX12_ranked iX12_ranked sX12_ranked kX12_219 (hl.n (k := 45) (by decide)) (hl.k (k := 45) (by decide)) (by decide) rfl rfl (t_M_ranked_ok (σ := σ) hl H hs hh hg rfl) rfl rfl (by decide) (by decide) (Nat.le_of_ble_eq_true rfl) (by decide) (by decide) ?_
  refine Z.eqσ (τ := (zuX σ 64 (trM r (zX σ 64) n))) rfl ?_
  refine Z.iconst B dX12_told_21 (v := (-1)) rfl ?_
  rw [if_neg hmn]
  refine Z.icmp_eq B dX12_told_22 (tgt := 34) rfl (fun h22 => ?_) (fun h22 => absurd rfl h22)
  refine Z.aload_n B dX12_told_34 (v := .ref 45) rfl rfl ?_
  refine Z.sipush B dX12_told_35 (v := nI 255) rfl ?_
  refine Z.callVI (σ := (zuX σ 64 (trM r (zX σ 64) n))) B (M' := mX12_tellsBy) (as := [.int (nI 255)]) (st := []) (v := .int (tO (mt (am_ 255) (zX σ 47) (trM r (zX σ 64) n)) n)) dX12_told_38 wX12_tellsBy iX12_tellsBy sX12_tellsBy kX12_210 (hl.n (k := 45) (by decide)) (hl.k (k := 45) (by decide)) (by decide) rfl rfl (t_X12_tellsBy (σ := (zuX σ 64 (trM r (zX σ 64) n))) H (mk := 255) (by omega)) rfl rfl (by decide) (by decide) (Nat.le_of_ble_eq_true rfl) (by decide) (by decide) ?_
  refine Z.iret B Rt dX12_told_41 (ty := .int) rfl rfl (by decide) (by decide) ?_
  exact ⟨rfl, rfl⟩
