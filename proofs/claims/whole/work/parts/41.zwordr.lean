/-! the words of a text: the class -/
def alF (p : Nat → Bool) : Nat → Nat → Nat
  | k, 0 => k
  | k, n + 1 => if p k = true then alF p (k + 1) n else k
theorem alF_s {p : Nat → Bool} : ∀ (n k : Nat), k ≤ alF p k n ∧ alF p k n ≤ k + n ∧ (∀ j, k ≤ j → j < alF p k n → p j = true) ∧ (alF p k n < k + n → p (alF p k n) = false)
  | 0, k => ⟨Nat.le_refl _, Nat.le_refl _, fun j h1 h2 => absurd (Nat.lt_of_le_of_lt h1 h2) (Nat.lt_irrefl _), fun h => absurd h (Nat.lt_irrefl _)⟩
  | n + 1, k => by
    cases h : p k with
    | true =>
      have e : alF p k (n + 1) = alF p (k + 1) n := by simp only [alF, h, if_pos]
      rw [e]
      obtain ⟨h1, h2, h3, h4⟩ := alF_s (p := p) n (k + 1)
      refine ⟨by omega, by omega, fun j j1 j2 => ?_, fun h5 => h4 (by omega)⟩
      rcases Nat.lt_or_ge k j with j3 | j3
      · exact h3 j j3 j2
      · have : j = k := by omega
        rw [this]; exact h
    | false =>
      have e : alF p k (n + 1) = k := by simp only [alF, h]; rfl
      rw [e]
      exact ⟨Nat.le_refl _, by omega, fun j j1 j2 => by omega, fun _ => h⟩
def ltr (w k : Nat) : Nat := ([[99, 111, 109, 101, 114], [97, 115, 107, 101, 114], [119, 97, 121], [99, 104, 105, 101, 102]].getD w []).getD k 0
def wl (w : Nat) : Nat := [5, 5, 3, 5].getD w 0
/-- how many letters of word w stand at a -/
def al (T : Nat → Int32) (a w : Nat) : Nat := alF (fun k => decide (T (a + k) = nI (ltr w k))) 0 (wl w)
theorem al_s {T : Nat → Int32} {a w : Nat} : al T a w ≤ wl w ∧ (∀ j, j < al T a w → T (a + j) = nI (ltr w j)) ∧ (al T a w < wl w → ¬ T (a + al T a w) = nI (ltr w (al T a w))) := by
  obtain ⟨h1, h2, h3, h4⟩ := alF_s (p := fun k => decide (T (a + k) = nI (ltr w k))) (wl w) 0
  refine ⟨by have := h2; unfold al; omega, fun j hj => of_decide_eq_true (h3 j (Nat.zero_le _) hj), fun h => of_decide_eq_false (h4 (by unfold al at h; omega))⟩
def wd (T : Nat → Int32) (a : Nat) : Nat := if al T a 0 = 5 then 0 else if al T a 1 = 5 then 1 else if al T a 2 = 3 then 2 else if al T a 3 = 5 then 3 else 4
def far (T : Nat → Int32) (a : Nat) : Nat := max (max (max (max 0 (al T a 0)) (al T a 1)) (al T a 2)) (al T a 3)
def wc (w : Nat) : Nat := [6, 3, 2, 1].getD w 0
theorem zmaxN {a b : Nat} (ha : a < 2 ^ 31) (hb : b < 2 ^ 31) : (if nI a < nI b then nI b else nI a) = nI (max a b) := by
  rcases Nat.lt_or_ge a b with h | h
  · rw [if_pos (nI_lt h hb), Nat.max_eq_right (Nat.le_of_lt h)]
  · rw [if_neg (fun h2 => absurd ((nI_ltI ha hb).mp h2) (by omega)), Nat.max_eq_left h]

theorem t_schar_0 {σ : zSt} {k : Nat} (hk : k < 5) : Dt mJ0_charAt_5068e [.float 3, .int (nI k)] σ (some (.int (nI (ltr 0 k)))) σ := by
  have : k = 0 ∨ k = 1 ∨ k = 2 ∨ k = 3 ∨ k = 4 := by omega
  rcases this with rfl | rfl | rfl | rfl | rfl
  · exact t_schar_0_0
  · exact t_schar_0_1
  · exact t_schar_0_2
  · exact t_schar_0_3
  · exact t_schar_0_4
theorem t_schar_1 {σ : zSt} {k : Nat} (hk : k < 5) : Dt mJ0_charAt_5068e [.float 4, .int (nI k)] σ (some (.int (nI (ltr 1 k)))) σ := by
  have : k = 0 ∨ k = 1 ∨ k = 2 ∨ k = 3 ∨ k = 4 := by omega
  rcases this with rfl | rfl | rfl | rfl | rfl
  · exact t_schar_1_0
  · exact t_schar_1_1
  · exact t_schar_1_2
  · exact t_schar_1_3
  · exact t_schar_1_4
theorem t_schar_2 {σ : zSt} {k : Nat} (hk : k < 3) : Dt mJ0_charAt_5068e [.float 5, .int (nI k)] σ (some (.int (nI (ltr 2 k)))) σ := by
  have : k = 0 ∨ k = 1 ∨ k = 2 := by omega
  rcases this with rfl | rfl | rfl
  · exact t_schar_2_0
  · exact t_schar_2_1
  · exact t_schar_2_2
theorem t_schar_3 {σ : zSt} {k : Nat} (hk : k < 5) : Dt mJ0_charAt_5068e [.float 6, .int (nI k)] σ (some (.int (nI (ltr 3 k)))) σ := by
  have : k = 0 ∨ k = 1 ∨ k = 2 ∨ k = 3 ∨ k = 4 := by omega
  rcases this with rfl | rfl | rfl | rfl | rfl
  · exact t_schar_3_0
  · exact t_schar_3_1
  · exact t_schar_3_2
  · exact t_schar_3_3
  · exact t_schar_3_4
theorem t_X2_lettersOf_0 {σ : zSt}  : Dt mX2_lettersOf [.int (nI 0)] σ (some (.float 3)) σ := by
  refine Dt.of (by decide) (Nat.le_of_ble_eq_true rfl) fun κ B Rt => ?_
  show Z κ 0 0 σ 0 [(0, .int (nI 0))] []
  refine Z.iload_n B dX2_lettersOf_0 (x := nI 0) rfl ?_
  refine Z.tabIn B dX2_lettersOf_1 (by decide) (by decide) (off := 27) (by decide) (tgt := 28) rfl ?_
  refine Z.ldcS0 B rfl dX2_lettersOf_28 ?_
  refine Z.aret B Rt dX2_lettersOf_30 (rt := (.object "java/lang/String")) rfl (Or.inl ⟨_, rfl⟩) rfl (by decide) (by decide) ?_
  exact ⟨rfl, rfl⟩

theorem t_X2_numbersBehind_0 {σ : zSt}  : Dt mX2_numbersBehind [.int (nI 0)] σ (some (.int (nI 6))) σ := by
  refine Dt.of (by decide) (Nat.le_of_ble_eq_true rfl) fun κ B Rt => ?_
  show Z κ 0 0 σ 0 [(0, .int (nI 0))] []
  refine Z.iload_n B dX2_numbersBehind_0 (x := nI 0) rfl ?_
  refine Z.tabIn B dX2_numbersBehind_1 (by decide) (by decide) (off := 27) (by decide) (tgt := 28) rfl ?_
  refine Z.bipush B dX2_numbersBehind_28 (v := nI 6) rfl ?_
  refine Z.iret B Rt dX2_numbersBehind_30 (ty := .int) rfl rfl (by decide) (by decide) ?_
  exact ⟨rfl, rfl⟩

theorem t_X2_alikeFrom_0 {σ : zSt} {f : Int32} {r : Nat → Int32} (hl : Lay σ) {q : Nat} {T : Nat → Int32} (ht : zTx σ q T) (hq : q < 34) {a : Nat} (ha : a < 2 ^ 30)  : Dt mX2_alikeFrom [.ref 34, .ref q, .float 3] (tS σ a f r) (some (.int (nI (al T a 0)))) (tS σ a f r) := by
  refine Dt.of (by decide) (Nat.le_of_ble_eq_true rfl) fun κ B Rt => ?_
  show Z κ 0 0 (tS σ a f r) 0 [(0, .ref 34), (1, .ref q), (2, .float 3)] []
  refine Z.iconst B dX2_alikeFrom_0 (v := nI 0) rfl ?_
  refine Z.istore_n B dX2_alikeFrom_1 (by decide) (L' := [(0, .ref 34), (1, .ref q), (2, .float 3), (3, .int (nI 0))]) rfl ?_
  have hloop2 : ∀ k : Nat, k ≤ al T a 0 → Z κ 0 0 (tS σ a f r) 2 [(0, .ref 34), (1, .ref q), (2, .float 3), (3, .int (nI k))] [] := by
    refine z_loop (fun k => 5 - k) (fun k ih hk => ?_)
    have hA1 : al T a 0 ≤ 5 := (al_s (T := T) (a := a) (w := 0)).1
    refine Z.iload_n B dX2_alikeFrom_2 (x := nI k) rfl ?_
    refine Z.aload_n B dX2_alikeFrom_3 (v := .float 3) rfl rfl ?_
    refine Z.callVC (σ := (tS σ a f r)) B (M' := mJ0_length_8abf5) (as := []) (st := [.int (nI k)]) (v := .int (nI 5)) (i := 0) rfl (by decide) dX2_alikeFrom_4 wJ0_length_8abf5 rfl iJ0_length_8abf5 sJ0_length_8abf5 kX2_78 t_slen_0 rfl rfl (by decide) (by decide) (Nat.le_of_ble_eq_true rfl) (by decide) (by decide) ?_
    refine Z.icmp_geN B dX2_alikeFrom_7 (tgt := 34) rfl (by omega) (by omega) (fun h7 => ?_) (fun h7 => ?_)
    · skip
      have hke : k = al T a 0 := by omega
      refine Z.iload_n B dX2_alikeFrom_34 (x := nI k) rfl ?_
      refine Z.iret B Rt dX2_alikeFrom_35 (ty := .int) rfl rfl (by decide) (by decide) ?_
      exact ⟨by rw [hke], rfl⟩
    · skip
      refine Z.aload_n B dX2_alikeFrom_10 (v := .ref q) rfl rfl ?_
      refine Z.aload_n B dX2_alikeFrom_11 (v := .ref 34) rfl rfl ?_
      refine Z.getI (σ := (tS σ a f r)) B fX2_19_2 dX2_alikeFrom_12 (hl.n (k := 34) (by decide)) (hl.k (k := 34) (by decide)) (by decide) (v := nI a) tS_a ?_
      refine Z.iload_n B dX2_alikeFrom_15 (x := nI k) rfl ?_
      refine Z.iaddN B dX2_alikeFrom_16 (a := a) (b := k) ?_
      refine Z.callVI (σ := (tS σ a f r)) B (M' := mX6_intAt) (as := [.int (nI (a + k))]) (st := []) (v := .int (T (a + k))) dX2_alikeFrom_17 wX6_intAt iX6_intAt sX6_intAt kX2_88 (Nat.lt_of_succ_lt ht.1.1) ht.1.2.1 (by decide) rfl rfl (t_int (σ := (tS σ a f r)) (ht.tS hq) (i := a + k) (by omega)) rfl rfl (by decide) (by decide) (Nat.le_of_ble_eq_true rfl) (by decide) (by decide) ?_
      refine Z.aload_n B dX2_alikeFrom_20 (v := .float 3) rfl rfl ?_
      refine Z.iload_n B dX2_alikeFrom_21 (x := nI k) rfl ?_
      refine Z.callVC (σ := (tS σ a f r)) B (M' := mJ0_charAt_5068e) (as := [.int (nI k)]) (st := [.int (T (a + k))]) (v := .int (nI (ltr 0 k))) (i := 0) rfl (by decide) dX2_alikeFrom_22 wJ0_charAt_5068e rfl iJ0_charAt_5068e sJ0_charAt_5068e kX2_91 (t_schar_0 (k := k) (Nat.lt_of_not_le h7)) rfl rfl (by decide) (by decide) (Nat.le_of_ble_eq_true rfl) (by decide) (by decide) ?_
      refine Z.icmp_ne B dX2_alikeFrom_25 (tgt := 34) rfl (fun h25 => ?_) (fun h25 => ?_)
      · skip
        have hke : k = al T a 0 := (by (rcases Nat.lt_or_ge k (al T a 0) with h1 | h1; exact absurd ((al_s (T := T) (a := a) (w := 0)).2.1 k h1) h25; omega))
        refine Z.iload_n B dX2_alikeFrom_34 (x := nI k) rfl ?_
        refine Z.iret B Rt dX2_alikeFrom_35 (ty := .int) rfl rfl (by decide) (by decide) ?_
        exact ⟨by rw [hke], rfl⟩
      · skip
        refine Z.iincN B dX2_alikeFrom_28 (by decide) (a := k) rfl (L' := [(0, .ref 34), (1, .ref q), (2, .float 3), (3, .int (nI (k + 1)))]) rfl ?_
        refine Z.goto B dX2_alikeFrom_31 (tgt := 2) rfl ?_
        have hk2 : k < al T a 0 := (by (rcases Nat.lt_or_ge k (al T a 0) with h1 | h1; exact h1; exfalso; have e : k = al T a 0 := (by omega); have hA := (al_s (T := T) (a := a) (w := 0)).2.2 (by rw [← e]; exact Nat.lt_of_not_le h7); rw [← e] at hA; exact hA h25))
        exact ih (k + 1) (by omega) (by omega)
  exact hloop2 0 (Nat.zero_le _)

theorem t_X2_lettersOf_1 {σ : zSt}  : Dt mX2_lettersOf [.int (nI 1)] σ (some (.float 4)) σ := by
  refine Dt.of (by decide) (Nat.le_of_ble_eq_true rfl) fun κ B Rt => ?_
  show Z κ 0 0 σ 0 [(0, .int (nI 1))] []
  refine Z.iload_n B dX2_lettersOf_0 (x := nI 1) rfl ?_
  refine Z.tabIn B dX2_lettersOf_1 (by decide) (by decide) (off := 30) (by decide) (tgt := 31) rfl ?_
  refine Z.ldcS1 B rfl dX2_lettersOf_31 ?_
  refine Z.aret B Rt dX2_lettersOf_33 (rt := (.object "java/lang/String")) rfl (Or.inl ⟨_, rfl⟩) rfl (by decide) (by decide) ?_
  exact ⟨rfl, rfl⟩

theorem t_X2_numbersBehind_1 {σ : zSt}  : Dt mX2_numbersBehind [.int (nI 1)] σ (some (.int (nI 3))) σ := by
  refine Dt.of (by decide) (Nat.le_of_ble_eq_true rfl) fun κ B Rt => ?_
  show Z κ 0 0 σ 0 [(0, .int (nI 1))] []
  refine Z.iload_n B dX2_numbersBehind_0 (x := nI 1) rfl ?_
  refine Z.tabIn B dX2_numbersBehind_1 (by decide) (by decide) (off := 30) (by decide) (tgt := 31) rfl ?_
  refine Z.iconst B dX2_numbersBehind_31 (v := nI 3) rfl ?_
  refine Z.iret B Rt dX2_numbersBehind_32 (ty := .int) rfl rfl (by decide) (by decide) ?_
  exact ⟨rfl, rfl⟩

theorem t_X2_alikeFrom_1 {σ : zSt} {f : Int32} {r : Nat → Int32} (hl : Lay σ) {q : Nat} {T : Nat → Int32} (ht : zTx σ q T) (hq : q < 34) {a : Nat} (ha : a < 2 ^ 30)  : Dt mX2_alikeFrom [.ref 34, .ref q, .float 4] (tS σ a f r) (some (.int (nI (al T a 1)))) (tS σ a f r) := by
  refine Dt.of (by decide) (Nat.le_of_ble_eq_true rfl) fun κ B Rt => ?_
  show Z κ 0 0 (tS σ a f r) 0 [(0, .ref 34), (1, .ref q), (2, .float 4)] []
  refine Z.iconst B dX2_alikeFrom_0 (v := nI 0) rfl ?_
  refine Z.istore_n B dX2_alikeFrom_1 (by decide) (L' := [(0, .ref 34), (1, .ref q), (2, .float 4), (3, .int (nI 0))]) rfl ?_
  have hloop2 : ∀ k : Nat, k ≤ al T a 1 → Z κ 0 0 (tS σ a f r) 2 [(0, .ref 34), (1, .ref q), (2, .float 4), (3, .int (nI k))] [] := by
    refine z_loop (fun k => 5 - k) (fun k ih hk => ?_)
    have hA1 : al T a 1 ≤ 5 := (al_s (T := T) (a := a) (w := 1)).1
    refine Z.iload_n B dX2_alikeFrom_2 (x := nI k) rfl ?_
    refine Z.aload_n B dX2_alikeFrom_3 (v := .float 4) rfl rfl ?_
    refine Z.callVC (σ := (tS σ a f r)) B (M' := mJ0_length_8abf5) (as := []) (st := [.int (nI k)]) (v := .int (nI 5)) (i := 1) rfl (by decide) dX2_alikeFrom_4 wJ0_length_8abf5 rfl iJ0_length_8abf5 sJ0_length_8abf5 kX2_78 t_slen_1 rfl rfl (by decide) (by decide) (Nat.le_of_ble_eq_true rfl) (by decide) (by decide) ?_
    refine Z.icmp_geN B dX2_alikeFrom_7 (tgt := 34) rfl (by omega) (by omega) (fun h7 => ?_) (fun h7 => ?_)
    · skip
      have hke : k = al T a 1 := by omega
      refine Z.iload_n B dX2_alikeFrom_34 (x := nI k) rfl ?_
      refine Z.iret B Rt dX2_alikeFrom_35 (ty := .int) rfl rfl (by decide) (by decide) ?_
      exact ⟨by rw [hke], rfl⟩
    · skip
      refine Z.aload_n B dX2_alikeFrom_10 (v := .ref q) rfl rfl ?_
      refine Z.aload_n B dX2_alikeFrom_11 (v := .ref 34) rfl rfl ?_
      refine Z.getI (σ := (tS σ a f r)) B fX2_19_2 dX2_alikeFrom_12 (hl.n (k := 34) (by decide)) (hl.k (k := 34) (by decide)) (by decide) (v := nI a) tS_a ?_
      refine Z.iload_n B dX2_alikeFrom_15 (x := nI k) rfl ?_
      refine Z.iaddN B dX2_alikeFrom_16 (a := a) (b := k) ?_
      refine Z.callVI (σ := (tS σ a f r)) B (M' := mX6_intAt) (as := [.int (nI (a + k))]) (st := []) (v := .int (T (a + k))) dX2_alikeFrom_17 wX6_intAt iX6_intAt sX6_intAt kX2_88 (Nat.lt_of_succ_lt ht.1.1) ht.1.2.1 (by decide) rfl rfl (t_int (σ := (tS σ a f r)) (ht.tS hq) (i := a + k) (by omega)) rfl rfl (by decide) (by decide) (Nat.le_of_ble_eq_true rfl) (by decide) (by decide) ?_
      refine Z.aload_n B dX2_alikeFrom_20 (v := .float 4) rfl rfl ?_
      refine Z.iload_n B dX2_alikeFrom_21 (x := nI k) rfl ?_
      refine Z.callVC (σ := (tS σ a f r)) B (M' := mJ0_charAt_5068e) (as := [.int (nI k)]) (st := [.int (T (a + k))]) (v := .int (nI (ltr 1 k))) (i := 1) rfl (by decide) dX2_alikeFrom_22 wJ0_charAt_5068e rfl iJ0_charAt_5068e sJ0_charAt_5068e kX2_91 (t_schar_1 (k := k) (Nat.lt_of_not_le h7)) rfl rfl (by decide) (by decide) (Nat.le_of_ble_eq_true rfl) (by decide) (by decide) ?_
      refine Z.icmp_ne B dX2_alikeFrom_25 (tgt := 34) rfl (fun h25 => ?_) (fun h25 => ?_)
      · skip
        have hke : k = al T a 1 := (by (rcases Nat.lt_or_ge k (al T a 1) with h1 | h1; exact absurd ((al_s (T := T) (a := a) (w := 1)).2.1 k h1) h25; omega))
        refine Z.iload_n B dX2_alikeFrom_34 (x := nI k) rfl ?_
        refine Z.iret B Rt dX2_alikeFrom_35 (ty := .int) rfl rfl (by decide) (by decide) ?_
        exact ⟨by rw [hke], rfl⟩
      · skip
        refine Z.iincN B dX2_alikeFrom_28 (by decide) (a := k) rfl (L' := [(0, .ref 34), (1, .ref q), (2, .float 4), (3, .int (nI (k + 1)))]) rfl ?_
        refine Z.goto B dX2_alikeFrom_31 (tgt := 2) rfl ?_
        have hk2 : k < al T a 1 := (by (rcases Nat.lt_or_ge k (al T a 1) with h1 | h1; exact h1; exfalso; have e : k = al T a 1 := (by omega); have hA := (al_s (T := T) (a := a) (w := 1)).2.2 (by rw [← e]; exact Nat.lt_of_not_le h7); rw [← e] at hA; exact hA h25))
        exact ih (k + 1) (by omega) (by omega)
  exact hloop2 0 (Nat.zero_le _)

theorem t_X2_lettersOf_2 {σ : zSt}  : Dt mX2_lettersOf [.int (nI 2)] σ (some (.float 5)) σ := by
  refine Dt.of (by decide) (Nat.le_of_ble_eq_true rfl) fun κ B Rt => ?_
  show Z κ 0 0 σ 0 [(0, .int (nI 2))] []
  refine Z.iload_n B dX2_lettersOf_0 (x := nI 2) rfl ?_
  refine Z.tabIn B dX2_lettersOf_1 (by decide) (by decide) (off := 33) (by decide) (tgt := 34) rfl ?_
  refine Z.ldcS2 B rfl dX2_lettersOf_34 ?_
  refine Z.aret B Rt dX2_lettersOf_36 (rt := (.object "java/lang/String")) rfl (Or.inl ⟨_, rfl⟩) rfl (by decide) (by decide) ?_
  exact ⟨rfl, rfl⟩

theorem t_X2_numbersBehind_2 {σ : zSt}  : Dt mX2_numbersBehind [.int (nI 2)] σ (some (.int (nI 2))) σ := by
  refine Dt.of (by decide) (Nat.le_of_ble_eq_true rfl) fun κ B Rt => ?_
  show Z κ 0 0 σ 0 [(0, .int (nI 2))] []
  refine Z.iload_n B dX2_numbersBehind_0 (x := nI 2) rfl ?_
  refine Z.tabIn B dX2_numbersBehind_1 (by decide) (by decide) (off := 32) (by decide) (tgt := 33) rfl ?_
  refine Z.iconst B dX2_numbersBehind_33 (v := nI 2) rfl ?_
  refine Z.iret B Rt dX2_numbersBehind_34 (ty := .int) rfl rfl (by decide) (by decide) ?_
  exact ⟨rfl, rfl⟩

theorem t_X2_alikeFrom_2 {σ : zSt} {f : Int32} {r : Nat → Int32} (hl : Lay σ) {q : Nat} {T : Nat → Int32} (ht : zTx σ q T) (hq : q < 34) {a : Nat} (ha : a < 2 ^ 30)  : Dt mX2_alikeFrom [.ref 34, .ref q, .float 5] (tS σ a f r) (some (.int (nI (al T a 2)))) (tS σ a f r) := by
  refine Dt.of (by decide) (Nat.le_of_ble_eq_true rfl) fun κ B Rt => ?_
  show Z κ 0 0 (tS σ a f r) 0 [(0, .ref 34), (1, .ref q), (2, .float 5)] []
  refine Z.iconst B dX2_alikeFrom_0 (v := nI 0) rfl ?_
  refine Z.istore_n B dX2_alikeFrom_1 (by decide) (L' := [(0, .ref 34), (1, .ref q), (2, .float 5), (3, .int (nI 0))]) rfl ?_
  have hloop2 : ∀ k : Nat, k ≤ al T a 2 → Z κ 0 0 (tS σ a f r) 2 [(0, .ref 34), (1, .ref q), (2, .float 5), (3, .int (nI k))] [] := by
    refine z_loop (fun k => 3 - k) (fun k ih hk => ?_)
    have hA1 : al T a 2 ≤ 3 := (al_s (T := T) (a := a) (w := 2)).1
    refine Z.iload_n B dX2_alikeFrom_2 (x := nI k) rfl ?_
    refine Z.aload_n B dX2_alikeFrom_3 (v := .float 5) rfl rfl ?_
    refine Z.callVC (σ := (tS σ a f r)) B (M' := mJ0_length_8abf5) (as := []) (st := [.int (nI k)]) (v := .int (nI 3)) (i := 2) rfl (by decide) dX2_alikeFrom_4 wJ0_length_8abf5 rfl iJ0_length_8abf5 sJ0_length_8abf5 kX2_78 t_slen_2 rfl rfl (by decide) (by decide) (Nat.le_of_ble_eq_true rfl) (by decide) (by decide) ?_
    refine Z.icmp_geN B dX2_alikeFrom_7 (tgt := 34) rfl (by omega) (by omega) (fun h7 => ?_) (fun h7 => ?_)
    · skip
      have hke : k = al T a 2 := by omega
      refine Z.iload_n B dX2_alikeFrom_34 (x := nI k) rfl ?_
      refine Z.iret B Rt dX2_alikeFrom_35 (ty := .int) rfl rfl (by decide) (by decide) ?_
      exact ⟨by rw [hke], rfl⟩
    · skip
      refine Z.aload_n B dX2_alikeFrom_10 (v := .ref q) rfl rfl ?_
      refine Z.aload_n B dX2_alikeFrom_11 (v := .ref 34) rfl rfl ?_
      refine Z.getI (σ := (tS σ a f r)) B fX2_19_2 dX2_alikeFrom_12 (hl.n (k := 34) (by decide)) (hl.k (k := 34) (by decide)) (by decide) (v := nI a) tS_a ?_
      refine Z.iload_n B dX2_alikeFrom_15 (x := nI k) rfl ?_
      refine Z.iaddN B dX2_alikeFrom_16 (a := a) (b := k) ?_
      refine Z.callVI (σ := (tS σ a f r)) B (M' := mX6_intAt) (as := [.int (nI (a + k))]) (st := []) (v := .int (T (a + k))) dX2_alikeFrom_17 wX6_intAt iX6_intAt sX6_intAt kX2_88 (Nat.lt_of_succ_lt ht.1.1) ht.1.2.1 (by decide) rfl rfl (t_int (σ := (tS σ a f r)) (ht.tS hq) (i := a + k) (by omega)) rfl rfl (by decide) (by decide) (Nat.le_of_ble_eq_true rfl) (by decide) (by decide) ?_
      refine Z.aload_n B dX2_alikeFrom_20 (v := .float 5) rfl rfl ?_
      refine Z.iload_n B dX2_alikeFrom_21 (x := nI k) rfl ?_
      refine Z.callVC (σ := (tS σ a f r)) B (M' := mJ0_charAt_5068e) (as := [.int (nI k)]) (st := [.int (T (a + k))]) (v := .int (nI (ltr 2 k))) (i := 2) rfl (by decide) dX2_alikeFrom_22 wJ0_charAt_5068e rfl iJ0_charAt_5068e sJ0_charAt_5068e kX2_91 (t_schar_2 (k := k) (Nat.lt_of_not_le h7)) rfl rfl (by decide) (by decide) (Nat.le_of_ble_eq_true rfl) (by decide) (by decide) ?_
      refine Z.icmp_ne B dX2_alikeFrom_25 (tgt := 34) rfl (fun h25 => ?_) (fun h25 => ?_)
      · skip
        have hke : k = al T a 2 := (by (rcases Nat.lt_or_ge k (al T a 2) with h1 | h1; exact absurd ((al_s (T := T) (a := a) (w := 2)).2.1 k h1) h25; omega))
        refine Z.iload_n B dX2_alikeFrom_34 (x := nI k) rfl ?_
        refine Z.iret B Rt dX2_alikeFrom_35 (ty := .int) rfl rfl (by decide) (by decide) ?_
        exact ⟨by rw [hke], rfl⟩
      · skip
        refine Z.iincN B dX2_alikeFrom_28 (by decide) (a := k) rfl (L' := [(0, .ref 34), (1, .ref q), (2, .float 5), (3, .int (nI (k + 1)))]) rfl ?_
        refine Z.goto B dX2_alikeFrom_31 (tgt := 2) rfl ?_
        have hk2 : k < al T a 2 := (by (rcases Nat.lt_or_ge k (al T a 2) with h1 | h1; exact h1; exfalso; have e : k = al T a 2 := (by omega); have hA := (al_s (T := T) (a := a) (w := 2)).2.2 (by rw [← e]; exact Nat.lt_of_not_le h7); rw [← e] at hA; exact hA h25))
        exact ih (k + 1) (by omega) (by omega)
  exact hloop2 0 (Nat.zero_le _)

theorem t_X2_lettersOf_3 {σ : zSt}  : Dt mX2_lettersOf [.int (nI 3)] σ (some (.float 6)) σ := by
  refine Dt.of (by decide) (Nat.le_of_ble_eq_true rfl) fun κ B Rt => ?_
  show Z κ 0 0 σ 0 [(0, .int (nI 3))] []
  refine Z.iload_n B dX2_lettersOf_0 (x := nI 3) rfl ?_
  refine Z.tabOut B dX2_lettersOf_1 (by decide) (tgt := 37) rfl ?_
  refine Z.ldcS3 B rfl dX2_lettersOf_37 ?_
  refine Z.aret B Rt dX2_lettersOf_39 (rt := (.object "java/lang/String")) rfl (Or.inl ⟨_, rfl⟩) rfl (by decide) (by decide) ?_
  exact ⟨rfl, rfl⟩

theorem t_X2_numbersBehind_3 {σ : zSt}  : Dt mX2_numbersBehind [.int (nI 3)] σ (some (.int (nI 1))) σ := by
  refine Dt.of (by decide) (Nat.le_of_ble_eq_true rfl) fun κ B Rt => ?_
  show Z κ 0 0 σ 0 [(0, .int (nI 3))] []
  refine Z.iload_n B dX2_numbersBehind_0 (x := nI 3) rfl ?_
  refine Z.tabOut B dX2_numbersBehind_1 (by decide) (tgt := 35) rfl ?_
  refine Z.iconst B dX2_numbersBehind_35 (v := nI 1) rfl ?_
  refine Z.iret B Rt dX2_numbersBehind_36 (ty := .int) rfl rfl (by decide) (by decide) ?_
  exact ⟨rfl, rfl⟩

theorem t_X2_alikeFrom_3 {σ : zSt} {f : Int32} {r : Nat → Int32} (hl : Lay σ) {q : Nat} {T : Nat → Int32} (ht : zTx σ q T) (hq : q < 34) {a : Nat} (ha : a < 2 ^ 30)  : Dt mX2_alikeFrom [.ref 34, .ref q, .float 6] (tS σ a f r) (some (.int (nI (al T a 3)))) (tS σ a f r) := by
  refine Dt.of (by decide) (Nat.le_of_ble_eq_true rfl) fun κ B Rt => ?_
  show Z κ 0 0 (tS σ a f r) 0 [(0, .ref 34), (1, .ref q), (2, .float 6)] []
  refine Z.iconst B dX2_alikeFrom_0 (v := nI 0) rfl ?_
  refine Z.istore_n B dX2_alikeFrom_1 (by decide) (L' := [(0, .ref 34), (1, .ref q), (2, .float 6), (3, .int (nI 0))]) rfl ?_
  have hloop2 : ∀ k : Nat, k ≤ al T a 3 → Z κ 0 0 (tS σ a f r) 2 [(0, .ref 34), (1, .ref q), (2, .float 6), (3, .int (nI k))] [] := by
    refine z_loop (fun k => 5 - k) (fun k ih hk => ?_)
    have hA1 : al T a 3 ≤ 5 := (al_s (T := T) (a := a) (w := 3)).1
    refine Z.iload_n B dX2_alikeFrom_2 (x := nI k) rfl ?_
    refine Z.aload_n B dX2_alikeFrom_3 (v := .float 6) rfl rfl ?_
    refine Z.callVC (σ := (tS σ a f r)) B (M' := mJ0_length_8abf5) (as := []) (st := [.int (nI k)]) (v := .int (nI 5)) (i := 3) rfl (by decide) dX2_alikeFrom_4 wJ0_length_8abf5 rfl iJ0_length_8abf5 sJ0_length_8abf5 kX2_78 t_slen_3 rfl rfl (by decide) (by decide) (Nat.le_of_ble_eq_true rfl) (by decide) (by decide) ?_
    refine Z.icmp_geN B dX2_alikeFrom_7 (tgt := 34) rfl (by omega) (by omega) (fun h7 => ?_) (fun h7 => ?_)
    · skip
      have hke : k = al T a 3 := by omega
      refine Z.iload_n B dX2_alikeFrom_34 (x := nI k) rfl ?_
      refine Z.iret B Rt dX2_alikeFrom_35 (ty := .int) rfl rfl (by decide) (by decide) ?_
      exact ⟨by rw [hke], rfl⟩
    · skip
      refine Z.aload_n B dX2_alikeFrom_10 (v := .ref q) rfl rfl ?_
      refine Z.aload_n B dX2_alikeFrom_11 (v := .ref 34) rfl rfl ?_
      refine Z.getI (σ := (tS σ a f r)) B fX2_19_2 dX2_alikeFrom_12 (hl.n (k := 34) (by decide)) (hl.k (k := 34) (by decide)) (by decide) (v := nI a) tS_a ?_
      refine Z.iload_n B dX2_alikeFrom_15 (x := nI k) rfl ?_
      refine Z.iaddN B dX2_alikeFrom_16 (a := a) (b := k) ?_
      refine Z.callVI (σ := (tS σ a f r)) B (M' := mX6_intAt) (as := [.int (nI (a + k))]) (st := []) (v := .int (T (a + k))) dX2_alikeFrom_17 wX6_intAt iX6_intAt sX6_intAt kX2_88 (Nat.lt_of_succ_lt ht.1.1) ht.1.2.1 (by decide) rfl rfl (t_int (σ := (tS σ a f r)) (ht.tS hq) (i := a + k) (by omega)) rfl rfl (by decide) (by decide) (Nat.le_of_ble_eq_true rfl) (by decide) (by decide) ?_
      refine Z.aload_n B dX2_alikeFrom_20 (v := .float 6) rfl rfl ?_
      refine Z.iload_n B dX2_alikeFrom_21 (x := nI k) rfl ?_
      refine Z.callVC (σ := (tS σ a f r)) B (M' := mJ0_charAt_5068e) (as := [.int (nI k)]) (st := [.int (T (a + k))]) (v := .int (nI (ltr 3 k))) (i := 3) rfl (by decide) dX2_alikeFrom_22 wJ0_charAt_5068e rfl iJ0_charAt_5068e sJ0_charAt_5068e kX2_91 (t_schar_3 (k := k) (Nat.lt_of_not_le h7)) rfl rfl (by decide) (by decide) (Nat.le_of_ble_eq_true rfl) (by decide) (by decide) ?_
      refine Z.icmp_ne B dX2_alikeFrom_25 (tgt := 34) rfl (fun h25 => ?_) (fun h25 => ?_)
      · skip
        have hke : k = al T a 3 := (by (rcases Nat.lt_or_ge k (al T a 3) with h1 | h1; exact absurd ((al_s (T := T) (a := a) (w := 3)).2.1 k h1) h25; omega))
        refine Z.iload_n B dX2_alikeFrom_34 (x := nI k) rfl ?_
        refine Z.iret B Rt dX2_alikeFrom_35 (ty := .int) rfl rfl (by decide) (by decide) ?_
        exact ⟨by rw [hke], rfl⟩
      · skip
        refine Z.iincN B dX2_alikeFrom_28 (by decide) (a := k) rfl (L' := [(0, .ref 34), (1, .ref q), (2, .float 6), (3, .int (nI (k + 1)))]) rfl ?_
        refine Z.goto B dX2_alikeFrom_31 (tgt := 2) rfl ?_
        have hk2 : k < al T a 3 := (by (rcases Nat.lt_or_ge k (al T a 3) with h1 | h1; exact h1; exfalso; have e : k = al T a 3 := (by omega); have hA := (al_s (T := T) (a := a) (w := 3)).2.2 (by rw [← e]; exact Nat.lt_of_not_le h7); rw [← e] at hA; exact hA h25))
        exact ih (k + 1) (by omega) (by omega)
  exact hloop2 0 (Nat.zero_le _)

theorem t_X2_readWord_0 {σ : zSt} {f : Int32} {r : Nat → Int32} (hl : Lay σ) {q : Nat} {T : Nat → Int32} (ht : zTx σ q T) (hq : q < 34) {a : Nat} (ha : a < 2 ^ 30) (h0 : al T a 0 = 5) : Dt mX2_readWord [.ref 34, .ref q] (tS σ a f r) (some (.int (nI 0))) (tS σ (a + 5) f r) := by
  have hA0 : al T a 0 ≤ 5 := al_s.1
  have hA1 : al T a 1 ≤ 5 := al_s.1
  have hA2 : al T a 2 ≤ 3 := al_s.1
  have hA3 : al T a 3 ≤ 5 := al_s.1
  refine Dt.of (by decide) (Nat.le_of_ble_eq_true rfl) fun κ B Rt => ?_
  show Z κ 0 0 (tS σ a f r) 0 [(0, .ref 34), (1, .ref q)] []
  refine Z.iconst B dX2_readWord_0 (v := nI 0) rfl ?_
  refine Z.istore_n B dX2_readWord_1 (by decide) (L' := [(0, .ref 34), (1, .ref q), (2, .int (nI 0))]) rfl ?_
  refine Z.iconst B dX2_readWord_2 (v := nI 0) rfl ?_
  refine Z.istore_n B dX2_readWord_3 (by decide) (L' := [(0, .ref 34), (1, .ref q), (2, .int (nI 0)), (3, .int (nI 0))]) rfl ?_
  refine Z.iload_n B dX2_readWord_4 (x := nI 0) rfl ?_
  refine Z.iconst B dX2_readWord_5 (v := nI 4) rfl ?_
  refine Z.icmp_geN B dX2_readWord_6 (tgt := 60) rfl (by omega) (by omega) (fun h6 => by exfalso; first | omega | contradiction | simp_all) (fun h6 => ?_)
  refine Z.iload_n B dX2_readWord_9 (x := nI 0) rfl ?_
  refine Z.callSI (σ := (tS σ a f r)) B (M' := mX2_lettersOf) (as := [.int (nI 0)]) (st := []) (v := .float 3) dX2_readWord_10 wX2_lettersOf iX2_lettersOf kX2_70 (t_X2_lettersOf_0 (σ := (tS σ a f r))) rfl rfl (by decide) (by decide) (Nat.le_of_ble_eq_true rfl) (by decide) (by decide) ?_
  refine Z.astore B dX2_readWord_13 (by decide) rfl (L' := [(0, .ref 34), (1, .ref q), (2, .int (nI 0)), (3, .int (nI 0)), (4, .float 3)]) rfl ?_
  refine Z.aload_n B dX2_readWord_15 (v := .ref 34) rfl rfl ?_
  refine Z.aload_n B dX2_readWord_16 (v := .ref q) rfl rfl ?_
  refine Z.aload B dX2_readWord_17 (v := .float 3) rfl rfl ?_
  refine Z.callVI (σ := (tS σ a f r)) B (M' := mX2_alikeFrom) (as := [.ref q, .float 3]) (st := []) (v := .int (nI (al T a 0))) dX2_readWord_19 wX2_alikeFrom iX2_alikeFrom sX2_alikeFrom kX2_74 (hl.n (k := 34) (by decide)) (hl.k (k := 34) (by decide)) (by decide) rfl rfl (t_X2_alikeFrom_0 (σ := σ) (f := f) (r := r) hl ht hq ha) rfl rfl (by decide) (by decide) (Nat.le_of_ble_eq_true rfl) (by decide) (by decide) ?_
  refine Z.istore B dX2_readWord_22 (by decide) (L' := [(0, .ref 34), (1, .ref q), (2, .int (nI 0)), (3, .int (nI 0)), (4, .float 3), (5, .int (nI (al T a 0)))]) rfl ?_
  refine Z.iload B dX2_readWord_24 (x := nI (al T a 0)) rfl ?_
  refine Z.aload B dX2_readWord_26 (v := .float 3) rfl rfl ?_
  refine Z.callVC (σ := (tS σ a f r)) B (M' := mJ0_length_8abf5) (as := []) (st := [.int (nI (al T a 0))]) (v := .int (nI 5)) (i := 0) rfl (by decide) dX2_readWord_28 wJ0_length_8abf5 rfl iJ0_length_8abf5 sJ0_length_8abf5 kX2_78 t_slen_0 rfl rfl (by decide) (by decide) (Nat.le_of_ble_eq_true rfl) (by decide) (by decide) ?_
  refine Z.icmp_neN B dX2_readWord_31 (tgt := 47) rfl (by omega) (by omega) (fun h31 => by exfalso; first | omega | contradiction | simp_all) (fun h31 => ?_)
  refine Z.aload_n B dX2_readWord_34 (v := .ref 34) rfl rfl ?_
  refine Z.dup B dX2_readWord_35 rfl ?_
  refine Z.getI (σ := (tS σ a f r)) B fX2_19_2 dX2_readWord_36 (hl.n (k := 34) (by decide)) (hl.k (k := 34) (by decide)) (by decide) (v := nI a) tS_a ?_
  refine Z.iload B dX2_readWord_39 (x := nI (al T a 0)) rfl ?_
  refine Z.iaddN B dX2_readWord_41 (a := a) (b := al T a 0) ?_
  refine Z.putI (σ := (tS σ a f r)) B fX2_19_2 (ty := .int) ⟨_, _, _, rfl, rfl, by decide +kernel⟩ dX2_readWord_42 (hl.n (k := 34) (by decide)) (hl.k (k := 34) (by decide)) (by decide) rfl rfl (τ := (zuX (tS σ a f r) 34 (upd (zX (tS σ a f r) 34) 2 (nI (a + (al T a 0)))))) rfl ?_
  refine Z.iload_n B dX2_readWord_45 (x := nI 0) rfl ?_
  refine Z.iret B Rt dX2_readWord_46 (ty := .int) rfl rfl (by decide) (by decide) ?_
  exact ⟨rfl, by rw [tS_ua, h0]⟩

theorem t_X2_readWord_1 {σ : zSt} {f : Int32} {r : Nat → Int32} (hl : Lay σ) {q : Nat} {T : Nat → Int32} (ht : zTx σ q T) (hq : q < 34) {a : Nat} (ha : a < 2 ^ 30) (h0 : ¬ al T a 0 = 5) (h1 : al T a 1 = 5) : Dt mX2_readWord [.ref 34, .ref q] (tS σ a f r) (some (.int (nI 1))) (tS σ (a + 5) f r) := by
  have hA0 : al T a 0 ≤ 5 := al_s.1
  have hA1 : al T a 1 ≤ 5 := al_s.1
  have hA2 : al T a 2 ≤ 3 := al_s.1
  have hA3 : al T a 3 ≤ 5 := al_s.1
  refine Dt.of (by decide) (Nat.le_of_ble_eq_true rfl) fun κ B Rt => ?_
  show Z κ 0 0 (tS σ a f r) 0 [(0, .ref 34), (1, .ref q)] []
  refine Z.iconst B dX2_readWord_0 (v := nI 0) rfl ?_
  refine Z.istore_n B dX2_readWord_1 (by decide) (L' := [(0, .ref 34), (1, .ref q), (2, .int (nI 0))]) rfl ?_
  refine Z.iconst B dX2_readWord_2 (v := nI 0) rfl ?_
  refine Z.istore_n B dX2_readWord_3 (by decide) (L' := [(0, .ref 34), (1, .ref q), (2, .int (nI 0)), (3, .int (nI 0))]) rfl ?_
  refine Z.iload_n B dX2_readWord_4 (x := nI 0) rfl ?_
  refine Z.iconst B dX2_readWord_5 (v := nI 4) rfl ?_
  refine Z.icmp_geN B dX2_readWord_6 (tgt := 60) rfl (by omega) (by omega) (fun h6 => by exfalso; first | omega | contradiction | simp_all) (fun h6 => ?_)
  refine Z.iload_n B dX2_readWord_9 (x := nI 0) rfl ?_
  refine Z.callSI (σ := (tS σ a f r)) B (M' := mX2_lettersOf) (as := [.int (nI 0)]) (st := []) (v := .float 3) dX2_readWord_10 wX2_lettersOf iX2_lettersOf kX2_70 (t_X2_lettersOf_0 (σ := (tS σ a f r))) rfl rfl (by decide) (by decide) (Nat.le_of_ble_eq_true rfl) (by decide) (by decide) ?_
  refine Z.astore B dX2_readWord_13 (by decide) rfl (L' := [(0, .ref 34), (1, .ref q), (2, .int (nI 0)), (3, .int (nI 0)), (4, .float 3)]) rfl ?_
  refine Z.aload_n B dX2_readWord_15 (v := .ref 34) rfl rfl ?_
  refine Z.aload_n B dX2_readWord_16 (v := .ref q) rfl rfl ?_
  refine Z.aload B dX2_readWord_17 (v := .float 3) rfl rfl ?_
  refine Z.callVI (σ := (tS σ a f r)) B (M' := mX2_alikeFrom) (as := [.ref q, .float 3]) (st := []) (v := .int (nI (al T a 0))) dX2_readWord_19 wX2_alikeFrom iX2_alikeFrom sX2_alikeFrom kX2_74 (hl.n (k := 34) (by decide)) (hl.k (k := 34) (by decide)) (by decide) rfl rfl (t_X2_alikeFrom_0 (σ := σ) (f := f) (r := r) hl ht hq ha) rfl rfl (by decide) (by decide) (Nat.le_of_ble_eq_true rfl) (by decide) (by decide) ?_
  refine Z.istore B dX2_readWord_22 (by decide) (L' := [(0, .ref 34), (1, .ref q), (2, .int (nI 0)), (3, .int (nI 0)), (4, .float 3), (5, .int (nI (al T a 0)))]) rfl ?_
  refine Z.iload B dX2_readWord_24 (x := nI (al T a 0)) rfl ?_
  refine Z.aload B dX2_readWord_26 (v := .float 3) rfl rfl ?_
  refine Z.callVC (σ := (tS σ a f r)) B (M' := mJ0_length_8abf5) (as := []) (st := [.int (nI (al T a 0))]) (v := .int (nI 5)) (i := 0) rfl (by decide) dX2_readWord_28 wJ0_length_8abf5 rfl iJ0_length_8abf5 sJ0_length_8abf5 kX2_78 t_slen_0 rfl rfl (by decide) (by decide) (Nat.le_of_ble_eq_true rfl) (by decide) (by decide) ?_
  refine Z.icmp_neN B dX2_readWord_31 (tgt := 47) rfl (by omega) (by omega) (fun h31 => ?_) (fun h31 => by exfalso; first | omega | contradiction | simp_all)
  refine Z.iload_n B dX2_readWord_47 (x := nI 0) rfl ?_
  refine Z.iload B dX2_readWord_48 (x := nI (al T a 0)) rfl ?_
  refine Z.mmax B dX2_readWord_50 kX2_83 (by decide) (Nat.le_of_ble_eq_true rfl) (by decide) (by decide) (v := nI (max 0 (al T a 0))) (zmaxN (by omega) (by omega)) ?_
  refine Z.istore_n B dX2_readWord_53 (by decide) (L' := [(0, .ref 34), (1, .ref q), (2, .int (nI (max 0 (al T a 0)))), (3, .int (nI 0)), (4, .float 3), (5, .int (nI (al T a 0)))]) rfl ?_
  refine Z.iinc B dX2_readWord_54 (by decide) (x := nI 0) rfl (v := nI 1) rfl (L' := [(0, .ref 34), (1, .ref q), (2, .int (nI (max 0 (al T a 0)))), (3, .int (nI 1)), (4, .float 3), (5, .int (nI (al T a 0)))]) rfl ?_
  refine Z.goto B dX2_readWord_57 (tgt := 4) rfl ?_
  refine Z.iload_n B dX2_readWord_4 (x := nI 1) rfl ?_
  refine Z.iconst B dX2_readWord_5 (v := nI 4) rfl ?_
  refine Z.icmp_geN B dX2_readWord_6 (tgt := 60) rfl (by omega) (by omega) (fun h6 => by exfalso; first | omega | contradiction | simp_all) (fun h6 => ?_)
  refine Z.iload_n B dX2_readWord_9 (x := nI 1) rfl ?_
  refine Z.callSI (σ := (tS σ a f r)) B (M' := mX2_lettersOf) (as := [.int (nI 1)]) (st := []) (v := .float 4) dX2_readWord_10 wX2_lettersOf iX2_lettersOf kX2_70 (t_X2_lettersOf_1 (σ := (tS σ a f r))) rfl rfl (by decide) (by decide) (Nat.le_of_ble_eq_true rfl) (by decide) (by decide) ?_
  refine Z.astore B dX2_readWord_13 (by decide) rfl (L' := [(0, .ref 34), (1, .ref q), (2, .int (nI (max 0 (al T a 0)))), (3, .int (nI 1)), (4, .float 4), (5, .int (nI (al T a 0)))]) rfl ?_
  refine Z.aload_n B dX2_readWord_15 (v := .ref 34) rfl rfl ?_
  refine Z.aload_n B dX2_readWord_16 (v := .ref q) rfl rfl ?_
  refine Z.aload B dX2_readWord_17 (v := .float 4) rfl rfl ?_
  refine Z.callVI (σ := (tS σ a f r)) B (M' := mX2_alikeFrom) (as := [.ref q, .float 4]) (st := []) (v := .int (nI (al T a 1))) dX2_readWord_19 wX2_alikeFrom iX2_alikeFrom sX2_alikeFrom kX2_74 (hl.n (k := 34) (by decide)) (hl.k (k := 34) (by decide)) (by decide) rfl rfl (t_X2_alikeFrom_1 (σ := σ) (f := f) (r := r) hl ht hq ha) rfl rfl (by decide) (by decide) (Nat.le_of_ble_eq_true rfl) (by decide) (by decide) ?_
  refine Z.istore B dX2_readWord_22 (by decide) (L' := [(0, .ref 34), (1, .ref q), (2, .int (nI (max 0 (al T a 0)))), (3, .int (nI 1)), (4, .float 4), (5, .int (nI (al T a 1)))]) rfl ?_
  refine Z.iload B dX2_readWord_24 (x := nI (al T a 1)) rfl ?_
  refine Z.aload B dX2_readWord_26 (v := .float 4) rfl rfl ?_
  refine Z.callVC (σ := (tS σ a f r)) B (M' := mJ0_length_8abf5) (as := []) (st := [.int (nI (al T a 1))]) (v := .int (nI 5)) (i := 1) rfl (by decide) dX2_readWord_28 wJ0_length_8abf5 rfl iJ0_length_8abf5 sJ0_length_8abf5 kX2_78 t_slen_1 rfl rfl (by decide) (by decide) (Nat.le_of_ble_eq_true rfl) (by decide) (by decide) ?_
  refine Z.icmp_neN B dX2_readWord_31 (tgt := 47) rfl (by omega) (by omega) (fun h31 => by exfalso; first | omega | contradiction | simp_all) (fun h31 => ?_)
  refine Z.aload_n B dX2_readWord_34 (v := .ref 34) rfl rfl ?_
  refine Z.dup B dX2_readWord_35 rfl ?_
  refine Z.getI (σ := (tS σ a f r)) B fX2_19_2 dX2_readWord_36 (hl.n (k := 34) (by decide)) (hl.k (k := 34) (by decide)) (by decide) (v := nI a) tS_a ?_
  refine Z.iload B dX2_readWord_39 (x := nI (al T a 1)) rfl ?_
  refine Z.iaddN B dX2_readWord_41 (a := a) (b := al T a 1) ?_
  refine Z.putI (σ := (tS σ a f r)) B fX2_19_2 (ty := .int) ⟨_, _, _, rfl, rfl, by decide +kernel⟩ dX2_readWord_42 (hl.n (k := 34) (by decide)) (hl.k (k := 34) (by decide)) (by decide) rfl rfl (τ := (zuX (tS σ a f r) 34 (upd (zX (tS σ a f r) 34) 2 (nI (a + (al T a 1)))))) rfl ?_
  refine Z.iload_n B dX2_readWord_45 (x := nI 1) rfl ?_
  refine Z.iret B Rt dX2_readWord_46 (ty := .int) rfl rfl (by decide) (by decide) ?_
  exact ⟨rfl, by rw [tS_ua, h1]⟩

theorem t_X2_readWord_2 {σ : zSt} {f : Int32} {r : Nat → Int32} (hl : Lay σ) {q : Nat} {T : Nat → Int32} (ht : zTx σ q T) (hq : q < 34) {a : Nat} (ha : a < 2 ^ 30) (h0 : ¬ al T a 0 = 5) (h1 : ¬ al T a 1 = 5) (h2 : al T a 2 = 3) : Dt mX2_readWord [.ref 34, .ref q] (tS σ a f r) (some (.int (nI 2))) (tS σ (a + 3) f r) := by
  have hA0 : al T a 0 ≤ 5 := al_s.1
  have hA1 : al T a 1 ≤ 5 := al_s.1
  have hA2 : al T a 2 ≤ 3 := al_s.1
  have hA3 : al T a 3 ≤ 5 := al_s.1
  refine Dt.of (by decide) (Nat.le_of_ble_eq_true rfl) fun κ B Rt => ?_
  show Z κ 0 0 (tS σ a f r) 0 [(0, .ref 34), (1, .ref q)] []
  refine Z.iconst B dX2_readWord_0 (v := nI 0) rfl ?_
  refine Z.istore_n B dX2_readWord_1 (by decide) (L' := [(0, .ref 34), (1, .ref q), (2, .int (nI 0))]) rfl ?_
  refine Z.iconst B dX2_readWord_2 (v := nI 0) rfl ?_
  refine Z.istore_n B dX2_readWord_3 (by decide) (L' := [(0, .ref 34), (1, .ref q), (2, .int (nI 0)), (3, .int (nI 0))]) rfl ?_
  refine Z.iload_n B dX2_readWord_4 (x := nI 0) rfl ?_
  refine Z.iconst B dX2_readWord_5 (v := nI 4) rfl ?_
  refine Z.icmp_geN B dX2_readWord_6 (tgt := 60) rfl (by omega) (by omega) (fun h6 => by exfalso; first | omega | contradiction | simp_all) (fun h6 => ?_)
  refine Z.iload_n B dX2_readWord_9 (x := nI 0) rfl ?_
  refine Z.callSI (σ := (tS σ a f r)) B (M' := mX2_lettersOf) (as := [.int (nI 0)]) (st := []) (v := .float 3) dX2_readWord_10 wX2_lettersOf iX2_lettersOf kX2_70 (t_X2_lettersOf_0 (σ := (tS σ a f r))) rfl rfl (by decide) (by decide) (Nat.le_of_ble_eq_true rfl) (by decide) (by decide) ?_
  refine Z.astore B dX2_readWord_13 (by decide) rfl (L' := [(0, .ref 34), (1, .ref q), (2, .int (nI 0)), (3, .int (nI 0)), (4, .float 3)]) rfl ?_
  refine Z.aload_n B dX2_readWord_15 (v := .ref 34) rfl rfl ?_
  refine Z.aload_n B dX2_readWord_16 (v := .ref q) rfl rfl ?_
  refine Z.aload B dX2_readWord_17 (v := .float 3) rfl rfl ?_
  refine Z.callVI (σ := (tS σ a f r)) B (M' := mX2_alikeFrom) (as := [.ref q, .float 3]) (st := []) (v := .int (nI (al T a 0))) dX2_readWord_19 wX2_alikeFrom iX2_alikeFrom sX2_alikeFrom kX2_74 (hl.n (k := 34) (by decide)) (hl.k (k := 34) (by decide)) (by decide) rfl rfl (t_X2_alikeFrom_0 (σ := σ) (f := f) (r := r) hl ht hq ha) rfl rfl (by decide) (by decide) (Nat.le_of_ble_eq_true rfl) (by decide) (by decide) ?_
  refine Z.istore B dX2_readWord_22 (by decide) (L' := [(0, .ref 34), (1, .ref q), (2, .int (nI 0)), (3, .int (nI 0)), (4, .float 3), (5, .int (nI (al T a 0)))]) rfl ?_
  refine Z.iload B dX2_readWord_24 (x := nI (al T a 0)) rfl ?_
  refine Z.aload B dX2_readWord_26 (v := .float 3) rfl rfl ?_
  refine Z.callVC (σ := (tS σ a f r)) B (M' := mJ0_length_8abf5) (as := []) (st := [.int (nI (al T a 0))]) (v := .int (nI 5)) (i := 0) rfl (by decide) dX2_readWord_28 wJ0_length_8abf5 rfl iJ0_length_8abf5 sJ0_length_8abf5 kX2_78 t_slen_0 rfl rfl (by decide) (by decide) (Nat.le_of_ble_eq_true rfl) (by decide) (by decide) ?_
  refine Z.icmp_neN B dX2_readWord_31 (tgt := 47) rfl (by omega) (by omega) (fun h31 => ?_) (fun h31 => by exfalso; first | omega | contradiction | simp_all)
  refine Z.iload_n B dX2_readWord_47 (x := nI 0) rfl ?_
  refine Z.iload B dX2_readWord_48 (x := nI (al T a 0)) rfl ?_
  refine Z.mmax B dX2_readWord_50 kX2_83 (by decide) (Nat.le_of_ble_eq_true rfl) (by decide) (by decide) (v := nI (max 0 (al T a 0))) (zmaxN (by omega) (by omega)) ?_
  refine Z.istore_n B dX2_readWord_53 (by decide) (L' := [(0, .ref 34), (1, .ref q), (2, .int (nI (max 0 (al T a 0)))), (3, .int (nI 0)), (4, .float 3), (5, .int (nI (al T a 0)))]) rfl ?_
  refine Z.iinc B dX2_readWord_54 (by decide) (x := nI 0) rfl (v := nI 1) rfl (L' := [(0, .ref 34), (1, .ref q), (2, .int (nI (max 0 (al T a 0)))), (3, .int (nI 1)), (4, .float 3), (5, .int (nI (al T a 0)))]) rfl ?_
  refine Z.goto B dX2_readWord_57 (tgt := 4) rfl ?_
  refine Z.iload_n B dX2_readWord_4 (x := nI 1) rfl ?_
  refine Z.iconst B dX2_readWord_5 (v := nI 4) rfl ?_
  refine Z.icmp_geN B dX2_readWord_6 (tgt := 60) rfl (by omega) (by omega) (fun h6 => by exfalso; first | omega | contradiction | simp_all) (fun h6 => ?_)
  refine Z.iload_n B dX2_readWord_9 (x := nI 1) rfl ?_
  refine Z.callSI (σ := (tS σ a f r)) B (M' := mX2_lettersOf) (as := [.int (nI 1)]) (st := []) (v := .float 4) dX2_readWord_10 wX2_lettersOf iX2_lettersOf kX2_70 (t_X2_lettersOf_1 (σ := (tS σ a f r))) rfl rfl (by decide) (by decide) (Nat.le_of_ble_eq_true rfl) (by decide) (by decide) ?_
  refine Z.astore B dX2_readWord_13 (by decide) rfl (L' := [(0, .ref 34), (1, .ref q), (2, .int (nI (max 0 (al T a 0)))), (3, .int (nI 1)), (4, .float 4), (5, .int (nI (al T a 0)))]) rfl ?_
  refine Z.aload_n B dX2_readWord_15 (v := .ref 34) rfl rfl ?_
  refine Z.aload_n B dX2_readWord_16 (v := .ref q) rfl rfl ?_
  refine Z.aload B dX2_readWord_17 (v := .float 4) rfl rfl ?_
  refine Z.callVI (σ := (tS σ a f r)) B (M' := mX2_alikeFrom) (as := [.ref q, .float 4]) (st := []) (v := .int (nI (al T a 1))) dX2_readWord_19 wX2_alikeFrom iX2_alikeFrom sX2_alikeFrom kX2_74 (hl.n (k := 34) (by decide)) (hl.k (k := 34) (by decide)) (by decide) rfl rfl (t_X2_alikeFrom_1 (σ := σ) (f := f) (r := r) hl ht hq ha) rfl rfl (by decide) (by decide) (Nat.le_of_ble_eq_true rfl) (by decide) (by decide) ?_
  refine Z.istore B dX2_readWord_22 (by decide) (L' := [(0, .ref 34), (1, .ref q), (2, .int (nI (max 0 (al T a 0)))), (3, .int (nI 1)), (4, .float 4), (5, .int (nI (al T a 1)))]) rfl ?_
  refine Z.iload B dX2_readWord_24 (x := nI (al T a 1)) rfl ?_
  refine Z.aload B dX2_readWord_26 (v := .float 4) rfl rfl ?_
  refine Z.callVC (σ := (tS σ a f r)) B (M' := mJ0_length_8abf5) (as := []) (st := [.int (nI (al T a 1))]) (v := .int (nI 5)) (i := 1) rfl (by decide) dX2_readWord_28 wJ0_length_8abf5 rfl iJ0_length_8abf5 sJ0_length_8abf5 kX2_78 t_slen_1 rfl rfl (by decide) (by decide) (Nat.le_of_ble_eq_true rfl) (by decide) (by decide) ?_
  refine Z.icmp_neN B dX2_readWord_31 (tgt := 47) rfl (by omega) (by omega) (fun h31 => ?_) (fun h31 => by exfalso; first | omega | contradiction | simp_all)
  refine Z.iload_n B dX2_readWord_47 (x := nI (max 0 (al T a 0))) rfl ?_
  refine Z.iload B dX2_readWord_48 (x := nI (al T a 1)) rfl ?_
  refine Z.mmax B dX2_readWord_50 kX2_83 (by decide) (Nat.le_of_ble_eq_true rfl) (by decide) (by decide) (v := nI (max (max 0 (al T a 0)) (al T a 1))) (zmaxN (by omega) (by omega)) ?_
  refine Z.istore_n B dX2_readWord_53 (by decide) (L' := [(0, .ref 34), (1, .ref q), (2, .int (nI (max (max 0 (al T a 0)) (al T a 1)))), (3, .int (nI 1)), (4, .float 4), (5, .int (nI (al T a 1)))]) rfl ?_
  refine Z.iinc B dX2_readWord_54 (by decide) (x := nI 1) rfl (v := nI 2) rfl (L' := [(0, .ref 34), (1, .ref q), (2, .int (nI (max (max 0 (al T a 0)) (al T a 1)))), (3, .int (nI 2)), (4, .float 4), (5, .int (nI (al T a 1)))]) rfl ?_
  refine Z.goto B dX2_readWord_57 (tgt := 4) rfl ?_
  refine Z.iload_n B dX2_readWord_4 (x := nI 2) rfl ?_
  refine Z.iconst B dX2_readWord_5 (v := nI 4) rfl ?_
  refine Z.icmp_geN B dX2_readWord_6 (tgt := 60) rfl (by omega) (by omega) (fun h6 => by exfalso; first | omega | contradiction | simp_all) (fun h6 => ?_)
  refine Z.iload_n B dX2_readWord_9 (x := nI 2) rfl ?_
  refine Z.callSI (σ := (tS σ a f r)) B (M' := mX2_lettersOf) (as := [.int (nI 2)]) (st := []) (v := .float 5) dX2_readWord_10 wX2_lettersOf iX2_lettersOf kX2_70 (t_X2_lettersOf_2 (σ := (tS σ a f r))) rfl rfl (by decide) (by decide) (Nat.le_of_ble_eq_true rfl) (by decide) (by decide) ?_
  refine Z.astore B dX2_readWord_13 (by decide) rfl (L' := [(0, .ref 34), (1, .ref q), (2, .int (nI (max (max 0 (al T a 0)) (al T a 1)))), (3, .int (nI 2)), (4, .float 5), (5, .int (nI (al T a 1)))]) rfl ?_
  refine Z.aload_n B dX2_readWord_15 (v := .ref 34) rfl rfl ?_
  refine Z.aload_n B dX2_readWord_16 (v := .ref q) rfl rfl ?_
  refine Z.aload B dX2_readWord_17 (v := .float 5) rfl rfl ?_
  refine Z.callVI (σ := (tS σ a f r)) B (M' := mX2_alikeFrom) (as := [.ref q, .float 5]) (st := []) (v := .int (nI (al T a 2))) dX2_readWord_19 wX2_alikeFrom iX2_alikeFrom sX2_alikeFrom kX2_74 (hl.n (k := 34) (by decide)) (hl.k (k := 34) (by decide)) (by decide) rfl rfl (t_X2_alikeFrom_2 (σ := σ) (f := f) (r := r) hl ht hq ha) rfl rfl (by decide) (by decide) (Nat.le_of_ble_eq_true rfl) (by decide) (by decide) ?_
  refine Z.istore B dX2_readWord_22 (by decide) (L' := [(0, .ref 34), (1, .ref q), (2, .int (nI (max (max 0 (al T a 0)) (al T a 1)))), (3, .int (nI 2)), (4, .float 5), (5, .int (nI (al T a 2)))]) rfl ?_
  refine Z.iload B dX2_readWord_24 (x := nI (al T a 2)) rfl ?_
  refine Z.aload B dX2_readWord_26 (v := .float 5) rfl rfl ?_
  refine Z.callVC (σ := (tS σ a f r)) B (M' := mJ0_length_8abf5) (as := []) (st := [.int (nI (al T a 2))]) (v := .int (nI 3)) (i := 2) rfl (by decide) dX2_readWord_28 wJ0_length_8abf5 rfl iJ0_length_8abf5 sJ0_length_8abf5 kX2_78 t_slen_2 rfl rfl (by decide) (by decide) (Nat.le_of_ble_eq_true rfl) (by decide) (by decide) ?_
  refine Z.icmp_neN B dX2_readWord_31 (tgt := 47) rfl (by omega) (by omega) (fun h31 => by exfalso; first | omega | contradiction | simp_all) (fun h31 => ?_)
  refine Z.aload_n B dX2_readWord_34 (v := .ref 34) rfl rfl ?_
  refine Z.dup B dX2_readWord_35 rfl ?_
  refine Z.getI (σ := (tS σ a f r)) B fX2_19_2 dX2_readWord_36 (hl.n (k := 34) (by decide)) (hl.k (k := 34) (by decide)) (by decide) (v := nI a) tS_a ?_
  refine Z.iload B dX2_readWord_39 (x := nI (al T a 2)) rfl ?_
  refine Z.iaddN B dX2_readWord_41 (a := a) (b := al T a 2) ?_
  refine Z.putI (σ := (tS σ a f r)) B fX2_19_2 (ty := .int) ⟨_, _, _, rfl, rfl, by decide +kernel⟩ dX2_readWord_42 (hl.n (k := 34) (by decide)) (hl.k (k := 34) (by decide)) (by decide) rfl rfl (τ := (zuX (tS σ a f r) 34 (upd (zX (tS σ a f r) 34) 2 (nI (a + (al T a 2)))))) rfl ?_
  refine Z.iload_n B dX2_readWord_45 (x := nI 2) rfl ?_
  refine Z.iret B Rt dX2_readWord_46 (ty := .int) rfl rfl (by decide) (by decide) ?_
  exact ⟨rfl, by rw [tS_ua, h2]⟩

theorem t_X2_readWord_3 {σ : zSt} {f : Int32} {r : Nat → Int32} (hl : Lay σ) {q : Nat} {T : Nat → Int32} (ht : zTx σ q T) (hq : q < 34) {a : Nat} (ha : a < 2 ^ 30) (h0 : ¬ al T a 0 = 5) (h1 : ¬ al T a 1 = 5) (h2 : ¬ al T a 2 = 3) (h3 : al T a 3 = 5) : Dt mX2_readWord [.ref 34, .ref q] (tS σ a f r) (some (.int (nI 3))) (tS σ (a + 5) f r) := by
  have hA0 : al T a 0 ≤ 5 := al_s.1
  have hA1 : al T a 1 ≤ 5 := al_s.1
  have hA2 : al T a 2 ≤ 3 := al_s.1
  have hA3 : al T a 3 ≤ 5 := al_s.1
  refine Dt.of (by decide) (Nat.le_of_ble_eq_true rfl) fun κ B Rt => ?_
  show Z κ 0 0 (tS σ a f r) 0 [(0, .ref 34), (1, .ref q)] []
  refine Z.iconst B dX2_readWord_0 (v := nI 0) rfl ?_
  refine Z.istore_n B dX2_readWord_1 (by decide) (L' := [(0, .ref 34), (1, .ref q), (2, .int (nI 0))]) rfl ?_
  refine Z.iconst B dX2_readWord_2 (v := nI 0) rfl ?_
  refine Z.istore_n B dX2_readWord_3 (by decide) (L' := [(0, .ref 34), (1, .ref q), (2, .int (nI 0)), (3, .int (nI 0))]) rfl ?_
  refine Z.iload_n B dX2_readWord_4 (x := nI 0) rfl ?_
  refine Z.iconst B dX2_readWord_5 (v := nI 4) rfl ?_
  refine Z.icmp_geN B dX2_readWord_6 (tgt := 60) rfl (by omega) (by omega) (fun h6 => by exfalso; first | omega | contradiction | simp_all) (fun h6 => ?_)
  refine Z.iload_n B dX2_readWord_9 (x := nI 0) rfl ?_
  refine Z.callSI (σ := (tS σ a f r)) B (M' := mX2_lettersOf) (as := [.int (nI 0)]) (st := []) (v := .float 3) dX2_readWord_10 wX2_lettersOf iX2_lettersOf kX2_70 (t_X2_lettersOf_0 (σ := (tS σ a f r))) rfl rfl (by decide) (by decide) (Nat.le_of_ble_eq_true rfl) (by decide) (by decide) ?_
  refine Z.astore B dX2_readWord_13 (by decide) rfl (L' := [(0, .ref 34), (1, .ref q), (2, .int (nI 0)), (3, .int (nI 0)), (4, .float 3)]) rfl ?_
  refine Z.aload_n B dX2_readWord_15 (v := .ref 34) rfl rfl ?_
  refine Z.aload_n B dX2_readWord_16 (v := .ref q) rfl rfl ?_
  refine Z.aload B dX2_readWord_17 (v := .float 3) rfl rfl ?_
  refine Z.callVI (σ := (tS σ a f r)) B (M' := mX2_alikeFrom) (as := [.ref q, .float 3]) (st := []) (v := .int (nI (al T a 0))) dX2_readWord_19 wX2_alikeFrom iX2_alikeFrom sX2_alikeFrom kX2_74 (hl.n (k := 34) (by decide)) (hl.k (k := 34) (by decide)) (by decide) rfl rfl (t_X2_alikeFrom_0 (σ := σ) (f := f) (r := r) hl ht hq ha) rfl rfl (by decide) (by decide) (Nat.le_of_ble_eq_true rfl) (by decide) (by decide) ?_
  refine Z.istore B dX2_readWord_22 (by decide) (L' := [(0, .ref 34), (1, .ref q), (2, .int (nI 0)), (3, .int (nI 0)), (4, .float 3), (5, .int (nI (al T a 0)))]) rfl ?_
  refine Z.iload B dX2_readWord_24 (x := nI (al T a 0)) rfl ?_
  refine Z.aload B dX2_readWord_26 (v := .float 3) rfl rfl ?_
  refine Z.callVC (σ := (tS σ a f r)) B (M' := mJ0_length_8abf5) (as := []) (st := [.int (nI (al T a 0))]) (v := .int (nI 5)) (i := 0) rfl (by decide) dX2_readWord_28 wJ0_length_8abf5 rfl iJ0_length_8abf5 sJ0_length_8abf5 kX2_78 t_slen_0 rfl rfl (by decide) (by decide) (Nat.le_of_ble_eq_true rfl) (by decide) (by decide) ?_
  refine Z.icmp_neN B dX2_readWord_31 (tgt := 47) rfl (by omega) (by omega) (fun h31 => ?_) (fun h31 => by exfalso; first | omega | contradiction | simp_all)
  refine Z.iload_n B dX2_readWord_47 (x := nI 0) rfl ?_
  refine Z.iload B dX2_readWord_48 (x := nI (al T a 0)) rfl ?_
  refine Z.mmax B dX2_readWord_50 kX2_83 (by decide) (Nat.le_of_ble_eq_true rfl) (by decide) (by decide) (v := nI (max 0 (al T a 0))) (zmaxN (by omega) (by omega)) ?_
  refine Z.istore_n B dX2_readWord_53 (by decide) (L' := [(0, .ref 34), (1, .ref q), (2, .int (nI (max 0 (al T a 0)))), (3, .int (nI 0)), (4, .float 3), (5, .int (nI (al T a 0)))]) rfl ?_
  refine Z.iinc B dX2_readWord_54 (by decide) (x := nI 0) rfl (v := nI 1) rfl (L' := [(0, .ref 34), (1, .ref q), (2, .int (nI (max 0 (al T a 0)))), (3, .int (nI 1)), (4, .float 3), (5, .int (nI (al T a 0)))]) rfl ?_
  refine Z.goto B dX2_readWord_57 (tgt := 4) rfl ?_
  refine Z.iload_n B dX2_readWord_4 (x := nI 1) rfl ?_
  refine Z.iconst B dX2_readWord_5 (v := nI 4) rfl ?_
  refine Z.icmp_geN B dX2_readWord_6 (tgt := 60) rfl (by omega) (by omega) (fun h6 => by exfalso; first | omega | contradiction | simp_all) (fun h6 => ?_)
  refine Z.iload_n B dX2_readWord_9 (x := nI 1) rfl ?_
  refine Z.callSI (σ := (tS σ a f r)) B (M' := mX2_lettersOf) (as := [.int (nI 1)]) (st := []) (v := .float 4) dX2_readWord_10 wX2_lettersOf iX2_lettersOf kX2_70 (t_X2_lettersOf_1 (σ := (tS σ a f r))) rfl rfl (by decide) (by decide) (Nat.le_of_ble_eq_true rfl) (by decide) (by decide) ?_
  refine Z.astore B dX2_readWord_13 (by decide) rfl (L' := [(0, .ref 34), (1, .ref q), (2, .int (nI (max 0 (al T a 0)))), (3, .int (nI 1)), (4, .float 4), (5, .int (nI (al T a 0)))]) rfl ?_
  refine Z.aload_n B dX2_readWord_15 (v := .ref 34) rfl rfl ?_
  refine Z.aload_n B dX2_readWord_16 (v := .ref q) rfl rfl ?_
  refine Z.aload B dX2_readWord_17 (v := .float 4) rfl rfl ?_
  refine Z.callVI (σ := (tS σ a f r)) B (M' := mX2_alikeFrom) (as := [.ref q, .float 4]) (st := []) (v := .int (nI (al T a 1))) dX2_readWord_19 wX2_alikeFrom iX2_alikeFrom sX2_alikeFrom kX2_74 (hl.n (k := 34) (by decide)) (hl.k (k := 34) (by decide)) (by decide) rfl rfl (t_X2_alikeFrom_1 (σ := σ) (f := f) (r := r) hl ht hq ha) rfl rfl (by decide) (by decide) (Nat.le_of_ble_eq_true rfl) (by decide) (by decide) ?_
  refine Z.istore B dX2_readWord_22 (by decide) (L' := [(0, .ref 34), (1, .ref q), (2, .int (nI (max 0 (al T a 0)))), (3, .int (nI 1)), (4, .float 4), (5, .int (nI (al T a 1)))]) rfl ?_
  refine Z.iload B dX2_readWord_24 (x := nI (al T a 1)) rfl ?_
  refine Z.aload B dX2_readWord_26 (v := .float 4) rfl rfl ?_
  refine Z.callVC (σ := (tS σ a f r)) B (M' := mJ0_length_8abf5) (as := []) (st := [.int (nI (al T a 1))]) (v := .int (nI 5)) (i := 1) rfl (by decide) dX2_readWord_28 wJ0_length_8abf5 rfl iJ0_length_8abf5 sJ0_length_8abf5 kX2_78 t_slen_1 rfl rfl (by decide) (by decide) (Nat.le_of_ble_eq_true rfl) (by decide) (by decide) ?_
  refine Z.icmp_neN B dX2_readWord_31 (tgt := 47) rfl (by omega) (by omega) (fun h31 => ?_) (fun h31 => by exfalso; first | omega | contradiction | simp_all)
  refine Z.iload_n B dX2_readWord_47 (x := nI (max 0 (al T a 0))) rfl ?_
  refine Z.iload B dX2_readWord_48 (x := nI (al T a 1)) rfl ?_
  refine Z.mmax B dX2_readWord_50 kX2_83 (by decide) (Nat.le_of_ble_eq_true rfl) (by decide) (by decide) (v := nI (max (max 0 (al T a 0)) (al T a 1))) (zmaxN (by omega) (by omega)) ?_
  refine Z.istore_n B dX2_readWord_53 (by decide) (L' := [(0, .ref 34), (1, .ref q), (2, .int (nI (max (max 0 (al T a 0)) (al T a 1)))), (3, .int (nI 1)), (4, .float 4), (5, .int (nI (al T a 1)))]) rfl ?_
  refine Z.iinc B dX2_readWord_54 (by decide) (x := nI 1) rfl (v := nI 2) rfl (L' := [(0, .ref 34), (1, .ref q), (2, .int (nI (max (max 0 (al T a 0)) (al T a 1)))), (3, .int (nI 2)), (4, .float 4), (5, .int (nI (al T a 1)))]) rfl ?_
  refine Z.goto B dX2_readWord_57 (tgt := 4) rfl ?_
  refine Z.iload_n B dX2_readWord_4 (x := nI 2) rfl ?_
  refine Z.iconst B dX2_readWord_5 (v := nI 4) rfl ?_
  refine Z.icmp_geN B dX2_readWord_6 (tgt := 60) rfl (by omega) (by omega) (fun h6 => by exfalso; first | omega | contradiction | simp_all) (fun h6 => ?_)
  refine Z.iload_n B dX2_readWord_9 (x := nI 2) rfl ?_
  refine Z.callSI (σ := (tS σ a f r)) B (M' := mX2_lettersOf) (as := [.int (nI 2)]) (st := []) (v := .float 5) dX2_readWord_10 wX2_lettersOf iX2_lettersOf kX2_70 (t_X2_lettersOf_2 (σ := (tS σ a f r))) rfl rfl (by decide) (by decide) (Nat.le_of_ble_eq_true rfl) (by decide) (by decide) ?_
  refine Z.astore B dX2_readWord_13 (by decide) rfl (L' := [(0, .ref 34), (1, .ref q), (2, .int (nI (max (max 0 (al T a 0)) (al T a 1)))), (3, .int (nI 2)), (4, .float 5), (5, .int (nI (al T a 1)))]) rfl ?_
  refine Z.aload_n B dX2_readWord_15 (v := .ref 34) rfl rfl ?_
  refine Z.aload_n B dX2_readWord_16 (v := .ref q) rfl rfl ?_
  refine Z.aload B dX2_readWord_17 (v := .float 5) rfl rfl ?_
  refine Z.callVI (σ := (tS σ a f r)) B (M' := mX2_alikeFrom) (as := [.ref q, .float 5]) (st := []) (v := .int (nI (al T a 2))) dX2_readWord_19 wX2_alikeFrom iX2_alikeFrom sX2_alikeFrom kX2_74 (hl.n (k := 34) (by decide)) (hl.k (k := 34) (by decide)) (by decide) rfl rfl (t_X2_alikeFrom_2 (σ := σ) (f := f) (r := r) hl ht hq ha) rfl rfl (by decide) (by decide) (Nat.le_of_ble_eq_true rfl) (by decide) (by decide) ?_
  refine Z.istore B dX2_readWord_22 (by decide) (L' := [(0, .ref 34), (1, .ref q), (2, .int (nI (max (max 0 (al T a 0)) (al T a 1)))), (3, .int (nI 2)), (4, .float 5), (5, .int (nI (al T a 2)))]) rfl ?_
  refine Z.iload B dX2_readWord_24 (x := nI (al T a 2)) rfl ?_
  refine Z.aload B dX2_readWord_26 (v := .float 5) rfl rfl ?_
  refine Z.callVC (σ := (tS σ a f r)) B (M' := mJ0_length_8abf5) (as := []) (st := [.int (nI (al T a 2))]) (v := .int (nI 3)) (i := 2) rfl (by decide) dX2_readWord_28 wJ0_length_8abf5 rfl iJ0_length_8abf5 sJ0_length_8abf5 kX2_78 t_slen_2 rfl rfl (by decide) (by decide) (Nat.le_of_ble_eq_true rfl) (by decide) (by decide) ?_
  refine Z.icmp_neN B dX2_readWord_31 (tgt := 47) rfl (by omega) (by omega) (fun h31 => ?_) (fun h31 => by exfalso; first | omega | contradiction | simp_all)
  refine Z.iload_n B dX2_readWord_47 (x := nI (max (max 0 (al T a 0)) (al T a 1))) rfl ?_
  refine Z.iload B dX2_readWord_48 (x := nI (al T a 2)) rfl ?_
  refine Z.mmax B dX2_readWord_50 kX2_83 (by decide) (Nat.le_of_ble_eq_true rfl) (by decide) (by decide) (v := nI (max (max (max 0 (al T a 0)) (al T a 1)) (al T a 2))) (zmaxN (by omega) (by omega)) ?_
  refine Z.istore_n B dX2_readWord_53 (by decide) (L' := [(0, .ref 34), (1, .ref q), (2, .int (nI (max (max (max 0 (al T a 0)) (al T a 1)) (al T a 2)))), (3, .int (nI 2)), (4, .float 5), (5, .int (nI (al T a 2)))]) rfl ?_
  refine Z.iinc B dX2_readWord_54 (by decide) (x := nI 2) rfl (v := nI 3) rfl (L' := [(0, .ref 34), (1, .ref q), (2, .int (nI (max (max (max 0 (al T a 0)) (al T a 1)) (al T a 2)))), (3, .int (nI 3)), (4, .float 5), (5, .int (nI (al T a 2)))]) rfl ?_
  refine Z.goto B dX2_readWord_57 (tgt := 4) rfl ?_
  refine Z.iload_n B dX2_readWord_4 (x := nI 3) rfl ?_
  refine Z.iconst B dX2_readWord_5 (v := nI 4) rfl ?_
  refine Z.icmp_geN B dX2_readWord_6 (tgt := 60) rfl (by omega) (by omega) (fun h6 => by exfalso; first | omega | contradiction | simp_all) (fun h6 => ?_)
  refine Z.iload_n B dX2_readWord_9 (x := nI 3) rfl ?_
  refine Z.callSI (σ := (tS σ a f r)) B (M' := mX2_lettersOf) (as := [.int (nI 3)]) (st := []) (v := .float 6) dX2_readWord_10 wX2_lettersOf iX2_lettersOf kX2_70 (t_X2_lettersOf_3 (σ := (tS σ a f r))) rfl rfl (by decide) (by decide) (Nat.le_of_ble_eq_true rfl) (by decide) (by decide) ?_
  refine Z.astore B dX2_readWord_13 (by decide) rfl (L' := [(0, .ref 34), (1, .ref q), (2, .int (nI (max (max (max 0 (al T a 0)) (al T a 1)) (al T a 2)))), (3, .int (nI 3)), (4, .float 6), (5, .int (nI (al T a 2)))]) rfl ?_
  refine Z.aload_n B dX2_readWord_15 (v := .ref 34) rfl rfl ?_
  refine Z.aload_n B dX2_readWord_16 (v := .ref q) rfl rfl ?_
  refine Z.aload B dX2_readWord_17 (v := .float 6) rfl rfl ?_
  refine Z.callVI (σ := (tS σ a f r)) B (M' := mX2_alikeFrom) (as := [.ref q, .float 6]) (st := []) (v := .int (nI (al T a 3))) dX2_readWord_19 wX2_alikeFrom iX2_alikeFrom sX2_alikeFrom kX2_74 (hl.n (k := 34) (by decide)) (hl.k (k := 34) (by decide)) (by decide) rfl rfl (t_X2_alikeFrom_3 (σ := σ) (f := f) (r := r) hl ht hq ha) rfl rfl (by decide) (by decide) (Nat.le_of_ble_eq_true rfl) (by decide) (by decide) ?_
  refine Z.istore B dX2_readWord_22 (by decide) (L' := [(0, .ref 34), (1, .ref q), (2, .int (nI (max (max (max 0 (al T a 0)) (al T a 1)) (al T a 2)))), (3, .int (nI 3)), (4, .float 6), (5, .int (nI (al T a 3)))]) rfl ?_
  refine Z.iload B dX2_readWord_24 (x := nI (al T a 3)) rfl ?_
  refine Z.aload B dX2_readWord_26 (v := .float 6) rfl rfl ?_
  refine Z.callVC (σ := (tS σ a f r)) B (M' := mJ0_length_8abf5) (as := []) (st := [.int (nI (al T a 3))]) (v := .int (nI 5)) (i := 3) rfl (by decide) dX2_readWord_28 wJ0_length_8abf5 rfl iJ0_length_8abf5 sJ0_length_8abf5 kX2_78 t_slen_3 rfl rfl (by decide) (by decide) (Nat.le_of_ble_eq_true rfl) (by decide) (by decide) ?_
  refine Z.icmp_neN B dX2_readWord_31 (tgt := 47) rfl (by omega) (by omega) (fun h31 => by exfalso; first | omega | contradiction | simp_all) (fun h31 => ?_)
  refine Z.aload_n B dX2_readWord_34 (v := .ref 34) rfl rfl ?_
  refine Z.dup B dX2_readWord_35 rfl ?_
  refine Z.getI (σ := (tS σ a f r)) B fX2_19_2 dX2_readWord_36 (hl.n (k := 34) (by decide)) (hl.k (k := 34) (by decide)) (by decide) (v := nI a) tS_a ?_
  refine Z.iload B dX2_readWord_39 (x := nI (al T a 3)) rfl ?_
  refine Z.iaddN B dX2_readWord_41 (a := a) (b := al T a 3) ?_
  refine Z.putI (σ := (tS σ a f r)) B fX2_19_2 (ty := .int) ⟨_, _, _, rfl, rfl, by decide +kernel⟩ dX2_readWord_42 (hl.n (k := 34) (by decide)) (hl.k (k := 34) (by decide)) (by decide) rfl rfl (τ := (zuX (tS σ a f r) 34 (upd (zX (tS σ a f r) 34) 2 (nI (a + (al T a 3)))))) rfl ?_
  refine Z.iload_n B dX2_readWord_45 (x := nI 3) rfl ?_
  refine Z.iret B Rt dX2_readWord_46 (ty := .int) rfl rfl (by decide) (by decide) ?_
  exact ⟨rfl, by rw [tS_ua, h3]⟩

theorem t_X2_readWord_4 {σ : zSt} {f : Int32} {r : Nat → Int32} (hl : Lay σ) {q : Nat} {T : Nat → Int32} (ht : zTx σ q T) (hq : q < 34) {a : Nat} (ha : a < 2 ^ 30) (h0 : ¬ al T a 0 = 5) (h1 : ¬ al T a 1 = 5) (h2 : ¬ al T a 2 = 3) (h3 : ¬ al T a 3 = 5)  : Dt mX2_readWord [.ref 34, .ref q] (tS σ a f r) (some (.int (-1))) (tS σ a (nI (a + far T a)) r) := by
  have hA0 : al T a 0 ≤ 5 := al_s.1
  have hA1 : al T a 1 ≤ 5 := al_s.1
  have hA2 : al T a 2 ≤ 3 := al_s.1
  have hA3 : al T a 3 ≤ 5 := al_s.1
  refine Dt.of (by decide) (Nat.le_of_ble_eq_true rfl) fun κ B Rt => ?_
  show Z κ 0 0 (tS σ a f r) 0 [(0, .ref 34), (1, .ref q)] []
  refine Z.iconst B dX2_readWord_0 (v := nI 0) rfl ?_
  refine Z.istore_n B dX2_readWord_1 (by decide) (L' := [(0, .ref 34), (1, .ref q), (2, .int (nI 0))]) rfl ?_
  refine Z.iconst B dX2_readWord_2 (v := nI 0) rfl ?_
  refine Z.istore_n B dX2_readWord_3 (by decide) (L' := [(0, .ref 34), (1, .ref q), (2, .int (nI 0)), (3, .int (nI 0))]) rfl ?_
  refine Z.iload_n B dX2_readWord_4 (x := nI 0) rfl ?_
  refine Z.iconst B dX2_readWord_5 (v := nI 4) rfl ?_
  refine Z.icmp_geN B dX2_readWord_6 (tgt := 60) rfl (by omega) (by omega) (fun h6 => by exfalso; first | omega | contradiction | simp_all) (fun h6 => ?_)
  refine Z.iload_n B dX2_readWord_9 (x := nI 0) rfl ?_
  refine Z.callSI (σ := (tS σ a f r)) B (M' := mX2_lettersOf) (as := [.int (nI 0)]) (st := []) (v := .float 3) dX2_readWord_10 wX2_lettersOf iX2_lettersOf kX2_70 (t_X2_lettersOf_0 (σ := (tS σ a f r))) rfl rfl (by decide) (by decide) (Nat.le_of_ble_eq_true rfl) (by decide) (by decide) ?_
  refine Z.astore B dX2_readWord_13 (by decide) rfl (L' := [(0, .ref 34), (1, .ref q), (2, .int (nI 0)), (3, .int (nI 0)), (4, .float 3)]) rfl ?_
  refine Z.aload_n B dX2_readWord_15 (v := .ref 34) rfl rfl ?_
  refine Z.aload_n B dX2_readWord_16 (v := .ref q) rfl rfl ?_
  refine Z.aload B dX2_readWord_17 (v := .float 3) rfl rfl ?_
  refine Z.callVI (σ := (tS σ a f r)) B (M' := mX2_alikeFrom) (as := [.ref q, .float 3]) (st := []) (v := .int (nI (al T a 0))) dX2_readWord_19 wX2_alikeFrom iX2_alikeFrom sX2_alikeFrom kX2_74 (hl.n (k := 34) (by decide)) (hl.k (k := 34) (by decide)) (by decide) rfl rfl (t_X2_alikeFrom_0 (σ := σ) (f := f) (r := r) hl ht hq ha) rfl rfl (by decide) (by decide) (Nat.le_of_ble_eq_true rfl) (by decide) (by decide) ?_
  refine Z.istore B dX2_readWord_22 (by decide) (L' := [(0, .ref 34), (1, .ref q), (2, .int (nI 0)), (3, .int (nI 0)), (4, .float 3), (5, .int (nI (al T a 0)))]) rfl ?_
  refine Z.iload B dX2_readWord_24 (x := nI (al T a 0)) rfl ?_
  refine Z.aload B dX2_readWord_26 (v := .float 3) rfl rfl ?_
  refine Z.callVC (σ := (tS σ a f r)) B (M' := mJ0_length_8abf5) (as := []) (st := [.int (nI (al T a 0))]) (v := .int (nI 5)) (i := 0) rfl (by decide) dX2_readWord_28 wJ0_length_8abf5 rfl iJ0_length_8abf5 sJ0_length_8abf5 kX2_78 t_slen_0 rfl rfl (by decide) (by decide) (Nat.le_of_ble_eq_true rfl) (by decide) (by decide) ?_
  refine Z.icmp_neN B dX2_readWord_31 (tgt := 47) rfl (by omega) (by omega) (fun h31 => ?_) (fun h31 => by exfalso; first | omega | contradiction | simp_all)
  refine Z.iload_n B dX2_readWord_47 (x := nI 0) rfl ?_
  refine Z.iload B dX2_readWord_48 (x := nI (al T a 0)) rfl ?_
  refine Z.mmax B dX2_readWord_50 kX2_83 (by decide) (Nat.le_of_ble_eq_true rfl) (by decide) (by decide) (v := nI (max 0 (al T a 0))) (zmaxN (by omega) (by omega)) ?_
  refine Z.istore_n B dX2_readWord_53 (by decide) (L' := [(0, .ref 34), (1, .ref q), (2, .int (nI (max 0 (al T a 0)))), (3, .int (nI 0)), (4, .float 3), (5, .int (nI (al T a 0)))]) rfl ?_
  refine Z.iinc B dX2_readWord_54 (by decide) (x := nI 0) rfl (v := nI 1) rfl (L' := [(0, .ref 34), (1, .ref q), (2, .int (nI (max 0 (al T a 0)))), (3, .int (nI 1)), (4, .float 3), (5, .int (nI (al T a 0)))]) rfl ?_
  refine Z.goto B dX2_readWord_57 (tgt := 4) rfl ?_
  refine Z.iload_n B dX2_readWord_4 (x := nI 1) rfl ?_
  refine Z.iconst B dX2_readWord_5 (v := nI 4) rfl ?_
  refine Z.icmp_geN B dX2_readWord_6 (tgt := 60) rfl (by omega) (by omega) (fun h6 => by exfalso; first | omega | contradiction | simp_all) (fun h6 => ?_)
  refine Z.iload_n B dX2_readWord_9 (x := nI 1) rfl ?_
  refine Z.callSI (σ := (tS σ a f r)) B (M' := mX2_lettersOf) (as := [.int (nI 1)]) (st := []) (v := .float 4) dX2_readWord_10 wX2_lettersOf iX2_lettersOf kX2_70 (t_X2_lettersOf_1 (σ := (tS σ a f r))) rfl rfl (by decide) (by decide) (Nat.le_of_ble_eq_true rfl) (by decide) (by decide) ?_
  refine Z.astore B dX2_readWord_13 (by decide) rfl (L' := [(0, .ref 34), (1, .ref q), (2, .int (nI (max 0 (al T a 0)))), (3, .int (nI 1)), (4, .float 4), (5, .int (nI (al T a 0)))]) rfl ?_
  refine Z.aload_n B dX2_readWord_15 (v := .ref 34) rfl rfl ?_
  refine Z.aload_n B dX2_readWord_16 (v := .ref q) rfl rfl ?_
  refine Z.aload B dX2_readWord_17 (v := .float 4) rfl rfl ?_
  refine Z.callVI (σ := (tS σ a f r)) B (M' := mX2_alikeFrom) (as := [.ref q, .float 4]) (st := []) (v := .int (nI (al T a 1))) dX2_readWord_19 wX2_alikeFrom iX2_alikeFrom sX2_alikeFrom kX2_74 (hl.n (k := 34) (by decide)) (hl.k (k := 34) (by decide)) (by decide) rfl rfl (t_X2_alikeFrom_1 (σ := σ) (f := f) (r := r) hl ht hq ha) rfl rfl (by decide) (by decide) (Nat.le_of_ble_eq_true rfl) (by decide) (by decide) ?_
  refine Z.istore B dX2_readWord_22 (by decide) (L' := [(0, .ref 34), (1, .ref q), (2, .int (nI (max 0 (al T a 0)))), (3, .int (nI 1)), (4, .float 4), (5, .int (nI (al T a 1)))]) rfl ?_
  refine Z.iload B dX2_readWord_24 (x := nI (al T a 1)) rfl ?_
  refine Z.aload B dX2_readWord_26 (v := .float 4) rfl rfl ?_
  refine Z.callVC (σ := (tS σ a f r)) B (M' := mJ0_length_8abf5) (as := []) (st := [.int (nI (al T a 1))]) (v := .int (nI 5)) (i := 1) rfl (by decide) dX2_readWord_28 wJ0_length_8abf5 rfl iJ0_length_8abf5 sJ0_length_8abf5 kX2_78 t_slen_1 rfl rfl (by decide) (by decide) (Nat.le_of_ble_eq_true rfl) (by decide) (by decide) ?_
  refine Z.icmp_neN B dX2_readWord_31 (tgt := 47) rfl (by omega) (by omega) (fun h31 => ?_) (fun h31 => by exfalso; first | omega | contradiction | simp_all)
  refine Z.iload_n B dX2_readWord_47 (x := nI (max 0 (al T a 0))) rfl ?_
  refine Z.iload B dX2_readWord_48 (x := nI (al T a 1)) rfl ?_
  refine Z.mmax B dX2_readWord_50 kX2_83 (by decide) (Nat.le_of_ble_eq_true rfl) (by decide) (by decide) (v := nI (max (max 0 (al T a 0)) (al T a 1))) (zmaxN (by omega) (by omega)) ?_
  refine Z.istore_n B dX2_readWord_53 (by decide) (L' := [(0, .ref 34), (1, .ref q), (2, .int (nI (max (max 0 (al T a 0)) (al T a 1)))), (3, .int (nI 1)), (4, .float 4), (5, .int (nI (al T a 1)))]) rfl ?_
  refine Z.iinc B dX2_readWord_54 (by decide) (x := nI 1) rfl (v := nI 2) rfl (L' := [(0, .ref 34), (1, .ref q), (2, .int (nI (max (max 0 (al T a 0)) (al T a 1)))), (3, .int (nI 2)), (4, .float 4), (5, .int (nI (al T a 1)))]) rfl ?_
  refine Z.goto B dX2_readWord_57 (tgt := 4) rfl ?_
  refine Z.iload_n B dX2_readWord_4 (x := nI 2) rfl ?_
  refine Z.iconst B dX2_readWord_5 (v := nI 4) rfl ?_
  refine Z.icmp_geN B dX2_readWord_6 (tgt := 60) rfl (by omega) (by omega) (fun h6 => by exfalso; first | omega | contradiction | simp_all) (fun h6 => ?_)
  refine Z.iload_n B dX2_readWord_9 (x := nI 2) rfl ?_
  refine Z.callSI (σ := (tS σ a f r)) B (M' := mX2_lettersOf) (as := [.int (nI 2)]) (st := []) (v := .float 5) dX2_readWord_10 wX2_lettersOf iX2_lettersOf kX2_70 (t_X2_lettersOf_2 (σ := (tS σ a f r))) rfl rfl (by decide) (by decide) (Nat.le_of_ble_eq_true rfl) (by decide) (by decide) ?_
  refine Z.astore B dX2_readWord_13 (by decide) rfl (L' := [(0, .ref 34), (1, .ref q), (2, .int (nI (max (max 0 (al T a 0)) (al T a 1)))), (3, .int (nI 2)), (4, .float 5), (5, .int (nI (al T a 1)))]) rfl ?_
  refine Z.aload_n B dX2_readWord_15 (v := .ref 34) rfl rfl ?_
  refine Z.aload_n B dX2_readWord_16 (v := .ref q) rfl rfl ?_
  refine Z.aload B dX2_readWord_17 (v := .float 5) rfl rfl ?_
  refine Z.callVI (σ := (tS σ a f r)) B (M' := mX2_alikeFrom) (as := [.ref q, .float 5]) (st := []) (v := .int (nI (al T a 2))) dX2_readWord_19 wX2_alikeFrom iX2_alikeFrom sX2_alikeFrom kX2_74 (hl.n (k := 34) (by decide)) (hl.k (k := 34) (by decide)) (by decide) rfl rfl (t_X2_alikeFrom_2 (σ := σ) (f := f) (r := r) hl ht hq ha) rfl rfl (by decide) (by decide) (Nat.le_of_ble_eq_true rfl) (by decide) (by decide) ?_
  refine Z.istore B dX2_readWord_22 (by decide) (L' := [(0, .ref 34), (1, .ref q), (2, .int (nI (max (max 0 (al T a 0)) (al T a 1)))), (3, .int (nI 2)), (4, .float 5), (5, .int (nI (al T a 2)))]) rfl ?_
  refine Z.iload B dX2_readWord_24 (x := nI (al T a 2)) rfl ?_
  refine Z.aload B dX2_readWord_26 (v := .float 5) rfl rfl ?_
  refine Z.callVC (σ := (tS σ a f r)) B (M' := mJ0_length_8abf5) (as := []) (st := [.int (nI (al T a 2))]) (v := .int (nI 3)) (i := 2) rfl (by decide) dX2_readWord_28 wJ0_length_8abf5 rfl iJ0_length_8abf5 sJ0_length_8abf5 kX2_78 t_slen_2 rfl rfl (by decide) (by decide) (Nat.le_of_ble_eq_true rfl) (by decide) (by decide) ?_
  refine Z.icmp_neN B dX2_readWord_31 (tgt := 47) rfl (by omega) (by omega) (fun h31 => ?_) (fun h31 => by exfalso; first | omega | contradiction | simp_all)
  refine Z.iload_n B dX2_readWord_47 (x := nI (max (max 0 (al T a 0)) (al T a 1))) rfl ?_
  refine Z.iload B dX2_readWord_48 (x := nI (al T a 2)) rfl ?_
  refine Z.mmax B dX2_readWord_50 kX2_83 (by decide) (Nat.le_of_ble_eq_true rfl) (by decide) (by decide) (v := nI (max (max (max 0 (al T a 0)) (al T a 1)) (al T a 2))) (zmaxN (by omega) (by omega)) ?_
  refine Z.istore_n B dX2_readWord_53 (by decide) (L' := [(0, .ref 34), (1, .ref q), (2, .int (nI (max (max (max 0 (al T a 0)) (al T a 1)) (al T a 2)))), (3, .int (nI 2)), (4, .float 5), (5, .int (nI (al T a 2)))]) rfl ?_
  refine Z.iinc B dX2_readWord_54 (by decide) (x := nI 2) rfl (v := nI 3) rfl (L' := [(0, .ref 34), (1, .ref q), (2, .int (nI (max (max (max 0 (al T a 0)) (al T a 1)) (al T a 2)))), (3, .int (nI 3)), (4, .float 5), (5, .int (nI (al T a 2)))]) rfl ?_
  refine Z.goto B dX2_readWord_57 (tgt := 4) rfl ?_
  refine Z.iload_n B dX2_readWord_4 (x := nI 3) rfl ?_
  refine Z.iconst B dX2_readWord_5 (v := nI 4) rfl ?_
  refine Z.icmp_geN B dX2_readWord_6 (tgt := 60) rfl (by omega) (by omega) (fun h6 => by exfalso; first | omega | contradiction | simp_all) (fun h6 => ?_)
  refine Z.iload_n B dX2_readWord_9 (x := nI 3) rfl ?_
  refine Z.callSI (σ := (tS σ a f r)) B (M' := mX2_lettersOf) (as := [.int (nI 3)]) (st := []) (v := .float 6) dX2_readWord_10 wX2_lettersOf iX2_lettersOf kX2_70 (t_X2_lettersOf_3 (σ := (tS σ a f r))) rfl rfl (by decide) (by decide) (Nat.le_of_ble_eq_true rfl) (by decide) (by decide) ?_
  refine Z.astore B dX2_readWord_13 (by decide) rfl (L' := [(0, .ref 34), (1, .ref q), (2, .int (nI (max (max (max 0 (al T a 0)) (al T a 1)) (al T a 2)))), (3, .int (nI 3)), (4, .float 6), (5, .int (nI (al T a 2)))]) rfl ?_
  refine Z.aload_n B dX2_readWord_15 (v := .ref 34) rfl rfl ?_
  refine Z.aload_n B dX2_readWord_16 (v := .ref q) rfl rfl ?_
  refine Z.aload B dX2_readWord_17 (v := .float 6) rfl rfl ?_
  refine Z.callVI (σ := (tS σ a f r)) B (M' := mX2_alikeFrom) (as := [.ref q, .float 6]) (st := []) (v := .int (nI (al T a 3))) dX2_readWord_19 wX2_alikeFrom iX2_alikeFrom sX2_alikeFrom kX2_74 (hl.n (k := 34) (by decide)) (hl.k (k := 34) (by decide)) (by decide) rfl rfl (t_X2_alikeFrom_3 (σ := σ) (f := f) (r := r) hl ht hq ha) rfl rfl (by decide) (by decide) (Nat.le_of_ble_eq_true rfl) (by decide) (by decide) ?_
  refine Z.istore B dX2_readWord_22 (by decide) (L' := [(0, .ref 34), (1, .ref q), (2, .int (nI (max (max (max 0 (al T a 0)) (al T a 1)) (al T a 2)))), (3, .int (nI 3)), (4, .float 6), (5, .int (nI (al T a 3)))]) rfl ?_
  refine Z.iload B dX2_readWord_24 (x := nI (al T a 3)) rfl ?_
  refine Z.aload B dX2_readWord_26 (v := .float 6) rfl rfl ?_
  refine Z.callVC (σ := (tS σ a f r)) B (M' := mJ0_length_8abf5) (as := []) (st := [.int (nI (al T a 3))]) (v := .int (nI 5)) (i := 3) rfl (by decide) dX2_readWord_28 wJ0_length_8abf5 rfl iJ0_length_8abf5 sJ0_length_8abf5 kX2_78 t_slen_3 rfl rfl (by decide) (by decide) (Nat.le_of_ble_eq_true rfl) (by decide) (by decide) ?_
  refine Z.icmp_neN B dX2_readWord_31 (tgt := 47) rfl (by omega) (by omega) (fun h31 => ?_) (fun h31 => by exfalso; first | omega | contradiction | simp_all)
  refine Z.iload_n B dX2_readWord_47 (x := nI (max (max (max 0 (al T a 0)) (al T a 1)) (al T a 2))) rfl ?_
  refine Z.iload B dX2_readWord_48 (x := nI (al T a 3)) rfl ?_
  refine Z.mmax B dX2_readWord_50 kX2_83 (by decide) (Nat.le_of_ble_eq_true rfl) (by decide) (by decide) (v := nI (max (max (max (max 0 (al T a 0)) (al T a 1)) (al T a 2)) (al T a 3))) (zmaxN (by omega) (by omega)) ?_
  refine Z.istore_n B dX2_readWord_53 (by decide) (L' := [(0, .ref 34), (1, .ref q), (2, .int (nI (max (max (max (max 0 (al T a 0)) (al T a 1)) (al T a 2)) (al T a 3)))), (3, .int (nI 3)), (4, .float 6), (5, .int (nI (al T a 3)))]) rfl ?_
  refine Z.iinc B dX2_readWord_54 (by decide) (x := nI 3) rfl (v := nI 4) rfl (L' := [(0, .ref 34), (1, .ref q), (2, .int (nI (max (max (max (max 0 (al T a 0)) (al T a 1)) (al T a 2)) (al T a 3)))), (3, .int (nI 4)), (4, .float 6), (5, .int (nI (al T a 3)))]) rfl ?_
  refine Z.goto B dX2_readWord_57 (tgt := 4) rfl ?_
  refine Z.iload_n B dX2_readWord_4 (x := nI 4) rfl ?_
  refine Z.iconst B dX2_readWord_5 (v := nI 4) rfl ?_
  refine Z.icmp_geN B dX2_readWord_6 (tgt := 60) rfl (by omega) (by omega) (fun h6 => ?_) (fun h6 => by exfalso; first | omega | contradiction | simp_all)
  refine Z.aload_n B dX2_readWord_60 (v := .ref 34) rfl rfl ?_
  refine Z.aload_n B dX2_readWord_61 (v := .ref 34) rfl rfl ?_
  refine Z.getI (σ := (tS σ a f r)) B fX2_19_2 dX2_readWord_62 (hl.n (k := 34) (by decide)) (hl.k (k := 34) (by decide)) (by decide) (v := nI a) tS_a ?_
  refine Z.iload_n B dX2_readWord_65 (x := nI (max (max (max (max 0 (al T a 0)) (al T a 1)) (al T a 2)) (al T a 3))) rfl ?_
  refine Z.iaddN B dX2_readWord_66 (a := a) (b := max (max (max (max 0 (al T a 0)) (al T a 1)) (al T a 2)) (al T a 3)) ?_
  refine Z.putI (σ := (tS σ a f r)) B fX2_23_2 (ty := .int) ⟨_, _, _, rfl, rfl, by decide +kernel⟩ dX2_readWord_67 (hl.n (k := 34) (by decide)) (hl.k (k := 34) (by decide)) (by decide) rfl rfl (τ := (zuX (tS σ a f r) 34 (upd (zX (tS σ a f r) 34) 3 (nI (a + (max (max (max (max 0 (al T a 0)) (al T a 1)) (al T a 2)) (al T a 3))))))) rfl ?_
  refine Z.iconst B dX2_readWord_70 (v := (-1)) rfl ?_
  refine Z.iret B Rt dX2_readWord_71 (ty := .int) rfl rfl (by decide) (by decide) ?_
  exact ⟨rfl, tS_uf⟩

theorem t_X2_mostOf_0 {σ : zSt} {f : Int32} {r : Nat → Int32} (hl : Lay σ) {q : Nat} {T : Nat → Int32} (ht : zTx σ q T) (hq : q < 34) {a : Nat} (ha : a < 2 ^ 30) {k : Nat} (hk : k < 6) : Dt mX2_mostOf [.ref 34, .int (nI 0), .int (nI k)] (tS σ a f r) (some (.int (zA0 k))) (tS σ a f r) := by
  refine Dt.of (by decide) (Nat.le_of_ble_eq_true rfl) fun κ B Rt => ?_
  show Z κ 0 0 (tS σ a f r) 0 [(0, .ref 34), (1, .int (nI 0)), (2, .int (nI k))] []
  refine Z.iload_n B dX2_mostOf_0 (x := nI 0) rfl ?_
  refine Z.if_neN B dX2_mostOf_1 (tgt := 22) rfl (by omega) (fun h1 => by exfalso; first | omega | contradiction | simp_all) (fun h1 => ?_)
  refine Z.iload_n B dX2_mostOf_4 (x := nI k) rfl ?_
  refine Z.if_ltN B dX2_mostOf_5 (tgt := 22) rfl (by omega) ?_
  refine Z.iload_n B dX2_mostOf_8 (x := nI k) rfl ?_
  refine Z.getsN B (x := 0) zKon0 (by decide +kernel) dX2_mostOf_9 ?_
  refine Z.clen B (N := 6) zKt0 dX2_mostOf_12 ?_
  refine Z.icmp_geN B dX2_mostOf_13 (tgt := 22) rfl (by omega) (by omega) (fun h13 => by exfalso; first | omega | contradiction | simp_all) (fun h13 => ?_)
  refine Z.getsN B (x := 0) zKon0 (by decide +kernel) dX2_mostOf_16 ?_
  refine Z.iload_n B dX2_mostOf_19 (x := nI k) rfl ?_
  refine Z.cld B (j := k) zKt0 dX2_mostOf_20 (by decide) (by omega) (v := (zA0 k)) rfl ?_
  refine Z.iret B Rt dX2_mostOf_21 (ty := .int) rfl rfl (by decide) (by decide) ?_
  exact ⟨rfl, rfl⟩

theorem t_X2_mostOf_1 {σ : zSt} {f : Int32} {r : Nat → Int32} (hl : Lay σ) {q : Nat} {T : Nat → Int32} (ht : zTx σ q T) (hq : q < 34) {a : Nat} (ha : a < 2 ^ 30) {k : Nat} (hk : k < 3) : Dt mX2_mostOf [.ref 34, .int (nI 1), .int (nI k)] (tS σ a f r) (some (.int (zA1 k))) (tS σ a f r) := by
  refine Dt.of (by decide) (Nat.le_of_ble_eq_true rfl) fun κ B Rt => ?_
  show Z κ 0 0 (tS σ a f r) 0 [(0, .ref 34), (1, .int (nI 1)), (2, .int (nI k))] []
  refine Z.iload_n B dX2_mostOf_0 (x := nI 1) rfl ?_
  refine Z.if_neN B dX2_mostOf_1 (tgt := 22) rfl (by omega) (fun h1 => ?_) (fun h1 => by exfalso; first | omega | contradiction | simp_all)
  refine Z.iload_n B dX2_mostOf_22 (x := nI 1) rfl ?_
  refine Z.iconst B dX2_mostOf_23 (v := nI 1) rfl ?_
  refine Z.icmp_neN B dX2_mostOf_24 (tgt := 45) rfl (by omega) (by omega) (fun h24 => by exfalso; first | omega | contradiction | simp_all) (fun h24 => ?_)
  refine Z.iload_n B dX2_mostOf_27 (x := nI k) rfl ?_
  refine Z.if_ltN B dX2_mostOf_28 (tgt := 45) rfl (by omega) ?_
  refine Z.iload_n B dX2_mostOf_31 (x := nI k) rfl ?_
  refine Z.getsN B (x := 1) zKon1 (by decide +kernel) dX2_mostOf_32 ?_
  refine Z.clen B (N := 3) zKt1 dX2_mostOf_35 ?_
  refine Z.icmp_geN B dX2_mostOf_36 (tgt := 45) rfl (by omega) (by omega) (fun h36 => by exfalso; first | omega | contradiction | simp_all) (fun h36 => ?_)
  refine Z.getsN B (x := 1) zKon1 (by decide +kernel) dX2_mostOf_39 ?_
  refine Z.iload_n B dX2_mostOf_42 (x := nI k) rfl ?_
  refine Z.cld B (j := k) zKt1 dX2_mostOf_43 (by decide) (by omega) (v := (zA1 k)) rfl ?_
  refine Z.iret B Rt dX2_mostOf_44 (ty := .int) rfl rfl (by decide) (by decide) ?_
  exact ⟨rfl, rfl⟩

theorem t_X2_mostOf_2 {σ : zSt} {f : Int32} {r : Nat → Int32} (hl : Lay σ) {q : Nat} {T : Nat → Int32} (ht : zTx σ q T) (hq : q < 34) {a : Nat} (ha : a < 2 ^ 30) {k : Nat} (hk : k < 2) : Dt mX2_mostOf [.ref 34, .int (nI 2), .int (nI k)] (tS σ a f r) (some (.int (zA2 k))) (tS σ a f r) := by
  refine Dt.of (by decide) (Nat.le_of_ble_eq_true rfl) fun κ B Rt => ?_
  show Z κ 0 0 (tS σ a f r) 0 [(0, .ref 34), (1, .int (nI 2)), (2, .int (nI k))] []
  refine Z.iload_n B dX2_mostOf_0 (x := nI 2) rfl ?_
  refine Z.if_neN B dX2_mostOf_1 (tgt := 22) rfl (by omega) (fun h1 => ?_) (fun h1 => by exfalso; first | omega | contradiction | simp_all)
  refine Z.iload_n B dX2_mostOf_22 (x := nI 2) rfl ?_
  refine Z.iconst B dX2_mostOf_23 (v := nI 1) rfl ?_
  refine Z.icmp_neN B dX2_mostOf_24 (tgt := 45) rfl (by omega) (by omega) (fun h24 => ?_) (fun h24 => by exfalso; first | omega | contradiction | simp_all)
  refine Z.iload_n B dX2_mostOf_45 (x := nI 2) rfl ?_
  refine Z.iconst B dX2_mostOf_46 (v := nI 2) rfl ?_
  refine Z.icmp_neN B dX2_mostOf_47 (tgt := 68) rfl (by omega) (by omega) (fun h47 => by exfalso; first | omega | contradiction | simp_all) (fun h47 => ?_)
  refine Z.iload_n B dX2_mostOf_50 (x := nI k) rfl ?_
  refine Z.if_ltN B dX2_mostOf_51 (tgt := 68) rfl (by omega) ?_
  refine Z.iload_n B dX2_mostOf_54 (x := nI k) rfl ?_
  refine Z.getsN B (x := 2) zKon2 (by decide +kernel) dX2_mostOf_55 ?_
  refine Z.clen B (N := 2) zKt2 dX2_mostOf_58 ?_
  refine Z.icmp_geN B dX2_mostOf_59 (tgt := 68) rfl (by omega) (by omega) (fun h59 => by exfalso; first | omega | contradiction | simp_all) (fun h59 => ?_)
  refine Z.getsN B (x := 2) zKon2 (by decide +kernel) dX2_mostOf_62 ?_
  refine Z.iload_n B dX2_mostOf_65 (x := nI k) rfl ?_
  refine Z.cld B (j := k) zKt2 dX2_mostOf_66 (by decide) (by omega) (v := (zA2 k)) rfl ?_
  refine Z.iret B Rt dX2_mostOf_67 (ty := .int) rfl rfl (by decide) (by decide) ?_
  exact ⟨rfl, rfl⟩

theorem t_X2_mostOf_3 {σ : zSt} {f : Int32} {r : Nat → Int32} (hl : Lay σ) {q : Nat} {T : Nat → Int32} (ht : zTx σ q T) (hq : q < 34) {a : Nat} (ha : a < 2 ^ 30) {k : Nat} (hk : k < 1) {n ac y : Nat} (hn : zX σ 35 2 = nI n) (hn8 : n ≤ 8) (hac : zX σ 35 5 = nI ac) (hac4 : ac ≤ 4) (hy : zX σ 35 7 = nI y) (hy8 : y ≤ 8)  : Dt mX2_mostOf [.ref 34, .int (nI 3), .int (nI k)] (tS σ a f r) (some (.int (nI ac - nI 1))) (tS σ a f r) := by
  refine Dt.of (by decide) (Nat.le_of_ble_eq_true rfl) fun κ B Rt => ?_
  show Z κ 0 0 (tS σ a f r) 0 [(0, .ref 34), (1, .int (nI 3)), (2, .int (nI k))] []
  refine Z.iload_n B dX2_mostOf_0 (x := nI 3) rfl ?_
  refine Z.if_neN B dX2_mostOf_1 (tgt := 22) rfl (by omega) (fun h1 => ?_) (fun h1 => by exfalso; first | omega | contradiction | simp_all)
  refine Z.iload_n B dX2_mostOf_22 (x := nI 3) rfl ?_
  refine Z.iconst B dX2_mostOf_23 (v := nI 1) rfl ?_
  refine Z.icmp_neN B dX2_mostOf_24 (tgt := 45) rfl (by omega) (by omega) (fun h24 => ?_) (fun h24 => by exfalso; first | omega | contradiction | simp_all)
  refine Z.iload_n B dX2_mostOf_45 (x := nI 3) rfl ?_
  refine Z.iconst B dX2_mostOf_46 (v := nI 2) rfl ?_
  refine Z.icmp_neN B dX2_mostOf_47 (tgt := 68) rfl (by omega) (by omega) (fun h47 => ?_) (fun h47 => by exfalso; first | omega | contradiction | simp_all)
  refine Z.aload_n B dX2_mostOf_68 (v := .ref 34) rfl rfl ?_
  refine Z.getR (σ := (tS σ a f r)) B fX2_9_2 dX2_mostOf_69 (hl.n (k := 34) (by decide)) (hl.k (k := 34) (by decide)) (by decide) (j := 35) (hl.r (k := 34) (f := 0) (by decide) (by decide)) ?_
  refine Z.callVI (σ := (tS σ a f r)) B (M' := mX1_askerCount) (as := []) (st := []) (v := .int (nI ac)) dX2_mostOf_72 wX1_askerCount iX1_askerCount sX1_askerCount kX2_130 (hl.n (k := 35) (by decide)) (hl.k (k := 35) (by decide)) (by decide) rfl rfl (t_X1_askerCount_h_d (σ := (tS σ a f r)) hl (by rw [tS_o (by decide) (by decide)]; exact hn) hn8 (by rw [tS_o (by decide) (by decide)]; exact hac) hac4 (by rw [tS_o (by decide) (by decide)]; exact hy) hy8) rfl rfl (by decide) (by decide) (Nat.le_of_ble_eq_true rfl) (by decide) (by decide) ?_
  refine Z.iconst B dX2_mostOf_75 (v := nI 1) rfl ?_
  refine Z.isub B dX2_mostOf_76 ?_
  refine Z.iret B Rt dX2_mostOf_77 (ty := .int) rfl rfl (by decide) (by decide) ?_
  exact ⟨rfl, rfl⟩
