/-! houses read from texts: the class -/
theorem zfu_cm {α : Type} {F : Nat → α} {i j : Nat} {f g : α} (h : i ≠ j) : zfu (zfu F i f) j g = zfu (zfu F j g) i f := by
  funext k
  by_cases h1 : k = i
  · subst h1; rw [zfu_ne h, zfu_self, zfu_self]
  · by_cases h2 : k = j
    · subst h2; rw [zfu_self, zfu_ne h1, zfu_self]
    · rw [zfu_ne h2, zfu_ne h1, zfu_ne h1, zfu_ne h2]
theorem zuX_cm {σ : zSt} {i j : Nat} {f g : Nat → Int32} (h : i ≠ j) : zuX (zuX σ i f) j g = zuX (zuX σ j g) i f := by
  unfold zuX
  show (σ.1, σ.2.1, σ.2.2.1, zfu (zfu σ.2.2.2.1 i f) j g, σ.2.2.2.2.1, σ.2.2.2.2.2) = (σ.1, σ.2.1, σ.2.2.1, zfu (zfu σ.2.2.2.1 j g) i f, σ.2.2.2.2.1, σ.2.2.2.2.2)
  rw [zfu_cm h]
theorem zX_n {σ : zSt} {j k : Nat} {f : Nat → Int32} (h : j ≠ k) : zX (zuX σ k f) j = zX σ j := zfu_ne h
/-- the text's own numbers: where it stands, its fault, the numbers read -/
def tS (σ : zSt) (a : Nat) (f : Int32) (r : Nat → Int32) : zSt := zuX (zuX σ 34 (upd (upd (zX σ 34) 2 (nI a)) 3 f)) 42 r
section
variable {σ : zSt} {a b k : Nat} {f g : Int32} {r r' : Nat → Int32}
theorem tS_34 : zX (tS σ a f r) 34 = upd (upd (zX σ 34) 2 (nI a)) 3 f := by
  unfold tS
  rw [zX_n (by decide), zX_self]
theorem tS_a : zX (tS σ a f r) 34 2 = nI a := by rw [tS_34]; rfl
theorem tS_f : zX (tS σ a f r) 34 3 = f := by rw [tS_34]; rfl
theorem tS_r : zX (tS σ a f r) 42 = r := by
  unfold tS
  rw [zX_self]
theorem tS_o (h1 : k ≠ 34) (h2 : k ≠ 42) : zX (tS σ a f r) k = zX σ k := by
  unfold tS
  rw [zX_n h2, zX_n h1]
theorem tS_u {h : Nat → Int32} : zuX (tS σ a f r) 34 h = zuX (zuX σ 34 h) 42 r := by
  unfold tS
  rw [zuX_cm (by decide), zuX_uX]
theorem tS_ua : zuX (tS σ a f r) 34 (upd (zX (tS σ a f r) 34) 2 (nI b)) = tS σ b f r := by
  rw [tS_u, tS_34]
  have : upd (upd (upd (zX σ 34) 2 (nI a)) 3 f) 2 (nI b) = upd (upd (zX σ 34) 2 (nI b)) 3 f := by
    funext j
    simp only [upd]
    by_cases h1 : j = 2
    · subst h1; rfl
    · by_cases h2 : j = 3
      · subst h2; rfl
      · simp only [if_neg h1, if_neg h2]
  rw [this]; rfl
theorem tS_uf : zuX (tS σ a f r) 34 (upd (zX (tS σ a f r) 34) 3 g) = tS σ a g r := by
  rw [tS_u, tS_34]
  have : upd (upd (upd (zX σ 34) 2 (nI a)) 3 f) 3 g = upd (upd (zX σ 34) 2 (nI a)) 3 g := by
    funext j
    simp only [upd]
    by_cases h2 : j = 3
    · subst h2; rfl
    · simp only [if_neg h2]
  rw [this]; rfl
theorem tS_ur : zuX (tS σ a f r) 42 r' = tS σ a f r' := zuX_uX
theorem tS_id (h1 : zX σ 34 2 = nI a) (h2 : zX σ 34 3 = f) : tS σ a f (zX σ 42) = σ := by
  have e : upd (upd (zX σ 34) 2 (nI a)) 3 f = zX σ 34 := by
    funext j
    simp only [upd]
    by_cases h3 : j = 3
    · subst h3; exact h2.symm
    · by_cases h4 : j = 2
      · subst h4; exact h1.symm
      · simp only [if_neg h3, if_neg h4]
  unfold tS
  rw [e, zuX_id, zuX_id]
theorem tS_tS {a' : Nat} {f' : Int32} : tS (tS σ a f r) a' f' r' = tS σ a' f' r' := by
  have e : upd (upd (zX (tS σ a f r) 34) 2 (nI a')) 3 f' = upd (upd (zX σ 34) 2 (nI a')) 3 f' := by
    rw [tS_34]
    funext j
    simp only [upd]
    by_cases h3 : j = 3
    · subst h3; rfl
    · by_cases h4 : j = 2
      · subst h4; rfl
      · simp only [if_neg h3, if_neg h4]
  show zuX (zuX (tS σ a f r) 34 _) 42 r' = _
  rw [e, tS_u, zuX_uX]; rfl
end
/-- the text T stands on the shelf at place q -/
def zTx (σ : zSt) (q : Nat) (T : Nat → Int32) : Prop := zSh σ q ∧ ∃ m, zX σ q 2 = nI m ∧ m ≤ 160 ∧ ∀ i, T i = if i < m then (zY σ (q + 1) i).toInt32 else nI 0
theorem zTx.tS {σ : zSt} {q a : Nat} {f : Int32} {r T : Nat → Int32} (h : zTx σ q T) (h34 : q < 34) : zTx (tS σ a f r) q T := by
  obtain ⟨h1, m, h2, h3, h4⟩ := h
  exact ⟨h1, m, by rw [tS_o (by omega) (by omega)]; exact h2, h3, h4⟩
theorem t_int {σ : zSt} {q i : Nat} {T : Nat → Int32} (h : zTx σ q T) (hi : i < 2 ^ 31) : Dt mX6_intAt [.ref q, .int (nI i)] σ (some (.int (T i))) σ := by
  obtain ⟨h1, m, h2, h3, h4⟩ := h
  rw [h4 i]
  by_cases h5 : i < m
  · rw [if_pos h5]; exact t_X6_intAt_in h1 h2 h3 h5
  · rw [if_neg h5]; exact t_X6_intAt_far h1 h2 h3 (by omega) hi
def dg (x : Int32) : Bool := decide (nI 48 ≤ x) && decide (x ≤ nI 57)
theorem dg_t {x : Int32} : dg x = true ↔ nI 48 ≤ x ∧ x ≤ nI 57 := by unfold dg; rw [Bool.and_eq_true, decide_eq_true_iff, decide_eq_true_iff]
theorem dg_f {x : Int32} : dg x = false ↔ x < nI 48 ∨ nI 57 < x := by
  cases h : dg x with
  | true =>
    have h1 := dg_t.mp h
    constructor
    · intro h2; cases h2
    · rintro (h2 | h2)
      · have := h1.1; rw [zle_iff] at this; rw [zlt_iff] at h2; omega
      · have := h1.2; rw [zle_iff] at this; rw [zlt_iff] at h2; omega
  | false =>
    refine ⟨fun _ => ?_, fun _ => rfl⟩
    rcases Decidable.em (x < nI 48) with h1 | h1
    · exact Or.inl h1
    · rcases Decidable.em (nI 57 < x) with h2 | h2
      · exact Or.inr h2
      · have : dg x = true := dg_t.mpr ⟨by rw [zle_iff]; rw [zlt_iff] at h1; omega, by rw [zle_iff]; rw [zlt_iff] at h2; omega⟩
        rw [h] at this; cases this
/-- the number at q: its value, how long it is -/
def nv (T : Nat → Int32) (q : Nat) : Int32 := if dg (T (q + 1)) = true then ((T q - nI 48) * nI 10 + T (q + 1)) - nI 48 else T q - nI 48
def nl (T : Nat → Int32) (q : Nat) : Nat := if dg (T (q + 1)) = true then q + 1 + 1 else q + 1
/-- a space and a number of at most mo at q -/
def nok (T : Nat → Int32) (q : Nat) (mo : Int32) : Prop := T q = nI 32 ∧ dg (T (q + 1)) = true ∧ nv T (q + 1) ≤ mo
def nbd (T : Nat → Int32) (q : Nat) : Nat := if T q = nI 32 then q + 1 else q
def nat_ (T : Nat → Int32) (q : Nat) : Nat := if T q = nI 32 then (if dg (T (q + 1)) = true then nl T (q + 1) else q + 1) else q
def nkB (T : Nat → Int32) (q : Nat) (mo : Int32) : Bool := decide (T q = nI 32) && (dg (T (q + 1)) && decide (nv T (q + 1) ≤ mo))
theorem nkB_t {T : Nat → Int32} {q : Nat} {mo : Int32} : nkB T q mo = true ↔ nok T q mo := by
  unfold nkB nok
  rw [Bool.and_eq_true, Bool.and_eq_true, decide_eq_true_iff, decide_eq_true_iff]

theorem t_X2_isDigit_1 {σ : zSt} {f : Int32} {r : Nat → Int32} (hl : Lay σ) {q : Nat} {T : Nat → Int32} (ht : zTx σ q T) (hq : q < 34) {a : Nat} (ha : a < 2 ^ 30 + 8) (h : dg (T a) = true) : Dt mX2_isDigit [.ref 34, .ref q] (tS σ a f r) (some (.int (nI 1))) (tS σ a f r) := by
  refine Dt.of (by decide) (Nat.le_of_ble_eq_true rfl) fun κ B Rt => ?_
  show Z κ 0 0 (tS σ a f r) 0 [(0, .ref 34), (1, .ref q)] []
  refine Z.aload_n B dX2_isDigit_0 (v := .ref q) rfl rfl ?_
  refine Z.aload_n B dX2_isDigit_1 (v := .ref 34) rfl rfl ?_
  refine Z.getI (σ := (tS σ a f r)) B fX2_19_2 dX2_isDigit_2 (hl.n (k := 34) (by decide)) (hl.k (k := 34) (by decide)) (by decide) (v := nI a) tS_a ?_
  refine Z.callVI (σ := (tS σ a f r)) B (M' := mX6_intAt) (as := [.int (nI a)]) (st := []) (v := .int (T a)) dX2_isDigit_5 wX6_intAt iX6_intAt sX6_intAt kX2_88 (Nat.lt_of_succ_lt ht.1.1) ht.1.2.1 (by decide) rfl rfl (t_int (σ := (tS σ a f r)) (ht.tS hq) (i := a) (by omega)) rfl rfl (by decide) (by decide) (Nat.le_of_ble_eq_true rfl) (by decide) (by decide) ?_
  refine Z.istore_n B dX2_isDigit_8 (by decide) (L' := [(0, .ref 34), (1, .ref q), (2, .int (T a))]) rfl ?_
  refine Z.iload_n B dX2_isDigit_9 (x := (T a)) rfl ?_
  refine Z.bipush B dX2_isDigit_10 (v := nI 48) rfl ?_
  refine Z.icmp_lt B dX2_isDigit_12 (tgt := 25) rfl (fun h12 => (by exfalso; have := (dg_t.mp h).1; rw [zle_iff] at this; rw [zlt_iff] at h12; omega)) (fun h12 => ?_)
  refine Z.iload_n B dX2_isDigit_15 (x := (T a)) rfl ?_
  refine Z.bipush B dX2_isDigit_16 (v := nI 57) rfl ?_
  refine Z.icmp_gt B dX2_isDigit_18 (tgt := 25) rfl (fun h18 => (by exfalso; have := (dg_t.mp h).2; rw [zle_iff] at this; rw [zlt_iff] at h18; omega)) (fun h18 => ?_)
  refine Z.iconst B dX2_isDigit_21 (v := nI 1) rfl ?_
  refine Z.goto B dX2_isDigit_22 (tgt := 26) rfl ?_
  refine Z.iret B Rt dX2_isDigit_26 (ty := .boolean) rfl rfl (by decide) (by decide) ?_
  exact ⟨rfl, rfl⟩

theorem t_X2_isDigit_0 {σ : zSt} {f : Int32} {r : Nat → Int32} (hl : Lay σ) {q : Nat} {T : Nat → Int32} (ht : zTx σ q T) (hq : q < 34) {a : Nat} (ha : a < 2 ^ 30 + 8) (h : dg (T a) = false) : Dt mX2_isDigit [.ref 34, .ref q] (tS σ a f r) (some (.int (nI 0))) (tS σ a f r) := by
  refine Dt.of (by decide) (Nat.le_of_ble_eq_true rfl) fun κ B Rt => ?_
  show Z κ 0 0 (tS σ a f r) 0 [(0, .ref 34), (1, .ref q)] []
  refine Z.aload_n B dX2_isDigit_0 (v := .ref q) rfl rfl ?_
  refine Z.aload_n B dX2_isDigit_1 (v := .ref 34) rfl rfl ?_
  refine Z.getI (σ := (tS σ a f r)) B fX2_19_2 dX2_isDigit_2 (hl.n (k := 34) (by decide)) (hl.k (k := 34) (by decide)) (by decide) (v := nI a) tS_a ?_
  refine Z.callVI (σ := (tS σ a f r)) B (M' := mX6_intAt) (as := [.int (nI a)]) (st := []) (v := .int (T a)) dX2_isDigit_5 wX6_intAt iX6_intAt sX6_intAt kX2_88 (Nat.lt_of_succ_lt ht.1.1) ht.1.2.1 (by decide) rfl rfl (t_int (σ := (tS σ a f r)) (ht.tS hq) (i := a) (by omega)) rfl rfl (by decide) (by decide) (Nat.le_of_ble_eq_true rfl) (by decide) (by decide) ?_
  refine Z.istore_n B dX2_isDigit_8 (by decide) (L' := [(0, .ref 34), (1, .ref q), (2, .int (T a))]) rfl ?_
  refine Z.iload_n B dX2_isDigit_9 (x := (T a)) rfl ?_
  refine Z.bipush B dX2_isDigit_10 (v := nI 48) rfl ?_
  refine Z.icmp_lt B dX2_isDigit_12 (tgt := 25) rfl (fun h12 => ?_) (fun h12 => ?_)
  · skip
    refine Z.iconst B dX2_isDigit_25 (v := nI 0) rfl ?_
    refine Z.iret B Rt dX2_isDigit_26 (ty := .boolean) rfl rfl (by decide) (by decide) ?_
    exact ⟨rfl, rfl⟩
  · skip
    refine Z.iload_n B dX2_isDigit_15 (x := (T a)) rfl ?_
    refine Z.bipush B dX2_isDigit_16 (v := nI 57) rfl ?_
    refine Z.icmp_gt B dX2_isDigit_18 (tgt := 25) rfl (fun h18 => ?_) (fun h18 => (by exfalso; rcases dg_f.mp h with h1 | h1 <;> contradiction))
    refine Z.iconst B dX2_isDigit_25 (v := nI 0) rfl ?_
    refine Z.iret B Rt dX2_isDigit_26 (ty := .boolean) rfl rfl (by decide) (by decide) ?_
    exact ⟨rfl, rfl⟩

theorem t_X2_pass_1 {σ : zSt} {f : Int32} {r : Nat → Int32} (hl : Lay σ) {q : Nat} {T : Nat → Int32} (ht : zTx σ q T) (hq : q < 34) {a : Nat} (ha : a < 2 ^ 30 + 8) {c : Nat} (h : T a = nI c) : Dt mX2_pass [.ref 34, .ref q, .int (nI c)] (tS σ a f r) (none) (tS σ (a + 1) f r) := by
  refine Dt.of (by decide) (Nat.le_of_ble_eq_true rfl) fun κ B Rt => ?_
  show Z κ 0 0 (tS σ a f r) 0 [(0, .ref 34), (1, .ref q), (2, .int (nI c))] []
  refine Z.aload_n B dX2_pass_0 (v := .ref q) rfl rfl ?_
  refine Z.aload_n B dX2_pass_1 (v := .ref 34) rfl rfl ?_
  refine Z.getI (σ := (tS σ a f r)) B fX2_19_2 dX2_pass_2 (hl.n (k := 34) (by decide)) (hl.k (k := 34) (by decide)) (by decide) (v := nI a) tS_a ?_
  refine Z.callVI (σ := (tS σ a f r)) B (M' := mX6_intAt) (as := [.int (nI a)]) (st := []) (v := .int (T a)) dX2_pass_5 wX6_intAt iX6_intAt sX6_intAt kX2_88 (Nat.lt_of_succ_lt ht.1.1) ht.1.2.1 (by decide) rfl rfl (t_int (σ := (tS σ a f r)) (ht.tS hq) (i := a) (by omega)) rfl rfl (by decide) (by decide) (Nat.le_of_ble_eq_true rfl) (by decide) (by decide) ?_
  refine Z.iload_n B dX2_pass_8 (x := nI c) rfl ?_
  refine Z.icmp_ne B dX2_pass_9 (tgt := 25) rfl (fun h9 => by exfalso; first | omega | contradiction | simp_all) (fun h9 => ?_)
  refine Z.aload_n B dX2_pass_12 (v := .ref 34) rfl rfl ?_
  refine Z.dup B dX2_pass_13 rfl ?_
  refine Z.getI (σ := (tS σ a f r)) B fX2_19_2 dX2_pass_14 (hl.n (k := 34) (by decide)) (hl.k (k := 34) (by decide)) (by decide) (v := nI a) tS_a ?_
  refine Z.iconst B dX2_pass_17 (v := nI 1) rfl ?_
  refine Z.iaddN B dX2_pass_18 (a := a) (b := 1) ?_
  refine Z.putI (σ := (tS σ a f r)) B fX2_19_2 (ty := .int) ⟨_, _, _, rfl, rfl, by decide +kernel⟩ dX2_pass_19 (hl.n (k := 34) (by decide)) (hl.k (k := 34) (by decide)) (by decide) rfl rfl (τ := (zuX (tS σ a f r) 34 (upd (zX (tS σ a f r) 34) 2 (nI (a + 1))))) rfl ?_
  refine Z.goto B dX2_pass_22 (tgt := 33) rfl ?_
  refine Z.vret B Rt dX2_pass_33 rfl (by decide) (by decide) ?_
  exact ⟨rfl, tS_ua⟩

theorem t_X2_pass_0 {σ : zSt} {f : Int32} {r : Nat → Int32} (hl : Lay σ) {q : Nat} {T : Nat → Int32} (ht : zTx σ q T) (hq : q < 34) {a : Nat} (ha : a < 2 ^ 30 + 8) {c : Nat} (h : ¬ T a = nI c) : Dt mX2_pass [.ref 34, .ref q, .int (nI c)] (tS σ a f r) (none) (tS σ a (nI a) r) := by
  refine Dt.of (by decide) (Nat.le_of_ble_eq_true rfl) fun κ B Rt => ?_
  show Z κ 0 0 (tS σ a f r) 0 [(0, .ref 34), (1, .ref q), (2, .int (nI c))] []
  refine Z.aload_n B dX2_pass_0 (v := .ref q) rfl rfl ?_
  refine Z.aload_n B dX2_pass_1 (v := .ref 34) rfl rfl ?_
  refine Z.getI (σ := (tS σ a f r)) B fX2_19_2 dX2_pass_2 (hl.n (k := 34) (by decide)) (hl.k (k := 34) (by decide)) (by decide) (v := nI a) tS_a ?_
  refine Z.callVI (σ := (tS σ a f r)) B (M' := mX6_intAt) (as := [.int (nI a)]) (st := []) (v := .int (T a)) dX2_pass_5 wX6_intAt iX6_intAt sX6_intAt kX2_88 (Nat.lt_of_succ_lt ht.1.1) ht.1.2.1 (by decide) rfl rfl (t_int (σ := (tS σ a f r)) (ht.tS hq) (i := a) (by omega)) rfl rfl (by decide) (by decide) (Nat.le_of_ble_eq_true rfl) (by decide) (by decide) ?_
  refine Z.iload_n B dX2_pass_8 (x := nI c) rfl ?_
  refine Z.icmp_ne B dX2_pass_9 (tgt := 25) rfl (fun h9 => ?_) (fun h9 => by exfalso; first | omega | contradiction | simp_all)
  refine Z.aload_n B dX2_pass_25 (v := .ref 34) rfl rfl ?_
  refine Z.aload_n B dX2_pass_26 (v := .ref 34) rfl rfl ?_
  refine Z.getI (σ := (tS σ a f r)) B fX2_19_2 dX2_pass_27 (hl.n (k := 34) (by decide)) (hl.k (k := 34) (by decide)) (by decide) (v := nI a) tS_a ?_
  refine Z.putI (σ := (tS σ a f r)) B fX2_23_2 (ty := .int) ⟨_, _, _, rfl, rfl, by decide +kernel⟩ dX2_pass_30 (hl.n (k := 34) (by decide)) (hl.k (k := 34) (by decide)) (by decide) rfl rfl (τ := (zuX (tS σ a f r) 34 (upd (zX (tS σ a f r) 34) 3 (nI a)))) rfl ?_
  refine Z.vret B Rt dX2_pass_33 rfl (by decide) (by decide) ?_
  exact ⟨rfl, tS_uf⟩

theorem t_X2_num_sp {σ : zSt} {r : Nat → Int32} (hl : Lay σ) {q : Nat} {T : Nat → Int32} (ht : zTx σ q T) (hq : q < 34) {a : Nat} (ha : a < 2 ^ 30) {k : Nat} {mo : Int32} (hk : k < 6) (h1 : ¬ T a = nI 32) : Dt mX2_readNumber [.ref 34, .ref q, .int (nI k), .int mo] (tS σ a (-1) r) (none) (tS σ a (nI a) r) := by
  refine Dt.of (by decide) (Nat.le_of_ble_eq_true rfl) fun κ B Rt => ?_
  show Z κ 0 0 (tS σ a (-1) r) 0 [(0, .ref 34), (1, .ref q), (2, .int (nI k)), (3, .int mo)] []
  refine Z.aload_n B dX2_readNumber_0 (v := .ref 34) rfl rfl ?_
  refine Z.aload_n B dX2_readNumber_1 (v := .ref q) rfl rfl ?_
  refine Z.bipush B dX2_readNumber_2 (v := nI 32) rfl ?_
  refine Z.callVN (σ := (tS σ a (-1) r)) B (M' := mX2_pass) (as := [.ref q, .int (nI 32)]) (st := []) dX2_readNumber_4 wX2_pass iX2_pass sX2_pass kX2_42 (hl.n (k := 34) (by decide)) (hl.k (k := 34) (by decide)) (by decide) rfl rfl (t_X2_pass_0 (σ := σ) (f := -1) (r := r) hl ht hq (a := a) (by omega) (c := 32) h1) rfl rfl (by decide) (by decide) (Nat.le_of_ble_eq_true rfl) (by decide) (by decide) ?_
  refine Z.aload_n B dX2_readNumber_7 (v := .ref 34) rfl rfl ?_
  refine Z.getI (σ := (tS σ a (nI a) r)) B fX2_23_2 dX2_readNumber_8 (hl.n (k := 34) (by decide)) (hl.k (k := 34) (by decide)) (by decide) (v := nI a) tS_f ?_
  refine Z.iconst B dX2_readNumber_11 (v := (-1)) rfl ?_
  refine Z.icmp_eq B dX2_readNumber_12 (tgt := 16) rfl (fun h12 => (zm1 (by omega) h12).elim) (fun h12 => ?_)
  refine Z.vret B Rt dX2_readNumber_15 rfl (by decide) (by decide) ?_
  exact ⟨rfl, rfl⟩

theorem t_X2_num_dg {σ : zSt} {r : Nat → Int32} (hl : Lay σ) {q : Nat} {T : Nat → Int32} (ht : zTx σ q T) (hq : q < 34) {a : Nat} (ha : a < 2 ^ 30) {k : Nat} {mo : Int32} (hk : k < 6) (h1 : T a = nI 32) (h2 : dg (T (a + 1)) = false) : Dt mX2_readNumber [.ref 34, .ref q, .int (nI k), .int mo] (tS σ a (-1) r) (none) (tS σ (a + 1) (nI (a + 1)) r) := by
  refine Dt.of (by decide) (Nat.le_of_ble_eq_true rfl) fun κ B Rt => ?_
  show Z κ 0 0 (tS σ a (-1) r) 0 [(0, .ref 34), (1, .ref q), (2, .int (nI k)), (3, .int mo)] []
  refine Z.aload_n B dX2_readNumber_0 (v := .ref 34) rfl rfl ?_
  refine Z.aload_n B dX2_readNumber_1 (v := .ref q) rfl rfl ?_
  refine Z.bipush B dX2_readNumber_2 (v := nI 32) rfl ?_
  refine Z.callVN (σ := (tS σ a (-1) r)) B (M' := mX2_pass) (as := [.ref q, .int (nI 32)]) (st := []) dX2_readNumber_4 wX2_pass iX2_pass sX2_pass kX2_42 (hl.n (k := 34) (by decide)) (hl.k (k := 34) (by decide)) (by decide) rfl rfl (t_X2_pass_1 (σ := σ) (f := -1) (r := r) hl ht hq (a := a) (by omega) (c := 32) h1) rfl rfl (by decide) (by decide) (Nat.le_of_ble_eq_true rfl) (by decide) (by decide) ?_
  refine Z.aload_n B dX2_readNumber_7 (v := .ref 34) rfl rfl ?_
  refine Z.getI (σ := (tS σ (a + 1) (-1) r)) B fX2_23_2 dX2_readNumber_8 (hl.n (k := 34) (by decide)) (hl.k (k := 34) (by decide)) (by decide) (v := (-1)) tS_f ?_
  refine Z.iconst B dX2_readNumber_11 (v := (-1)) rfl ?_
  refine Z.icmp_eq B dX2_readNumber_12 (tgt := 16) rfl (fun h12 => ?_) (fun h12 => absurd rfl h12)
  refine Z.aload_n B dX2_readNumber_16 (v := .ref 34) rfl rfl ?_
  refine Z.getI (σ := (tS σ (a + 1) (-1) r)) B fX2_19_2 dX2_readNumber_17 (hl.n (k := 34) (by decide)) (hl.k (k := 34) (by decide)) (by decide) (v := nI (a + 1)) tS_a ?_
  refine Z.istore B dX2_readNumber_20 (by decide) (L' := [(0, .ref 34), (1, .ref q), (2, .int (nI k)), (3, .int mo), (4, .int (nI (a + 1)))]) rfl ?_
  refine Z.aload_n B dX2_readNumber_22 (v := .ref 34) rfl rfl ?_
  refine Z.aload_n B dX2_readNumber_23 (v := .ref q) rfl rfl ?_
  refine Z.callVI (σ := (tS σ (a + 1) (-1) r)) B (M' := mX2_isDigit) (as := [.ref q]) (st := []) (v := .int (nI 0)) dX2_readNumber_24 wX2_isDigit iX2_isDigit sX2_isDigit kX2_95 (hl.n (k := 34) (by decide)) (hl.k (k := 34) (by decide)) (by decide) rfl rfl (t_X2_isDigit_0 (σ := σ) (f := -1) (r := r) hl ht hq (a := a + 1) (by omega) h2) rfl rfl (by decide) (by decide) (Nat.le_of_ble_eq_true rfl) (by decide) (by decide) ?_
  refine Z.if_neN B dX2_readNumber_27 (tgt := 39) rfl (by omega) (fun h27 => by exfalso; first | omega | contradiction | simp_all) (fun h27 => ?_)
  refine Z.aload_n B dX2_readNumber_30 (v := .ref 34) rfl rfl ?_
  refine Z.aload_n B dX2_readNumber_31 (v := .ref 34) rfl rfl ?_
  refine Z.getI (σ := (tS σ (a + 1) (-1) r)) B fX2_19_2 dX2_readNumber_32 (hl.n (k := 34) (by decide)) (hl.k (k := 34) (by decide)) (by decide) (v := nI (a + 1)) tS_a ?_
  refine Z.putI (σ := (tS σ (a + 1) (-1) r)) B fX2_23_2 (ty := .int) ⟨_, _, _, rfl, rfl, by decide +kernel⟩ dX2_readNumber_35 (hl.n (k := 34) (by decide)) (hl.k (k := 34) (by decide)) (by decide) rfl rfl (τ := (zuX (tS σ (a + 1) (-1) r) 34 (upd (zX (tS σ (a + 1) (-1) r) 34) 3 (nI (a + 1))))) rfl ?_
  refine Z.vret B Rt dX2_readNumber_38 rfl (by decide) (by decide) ?_
  exact ⟨rfl, tS_uf⟩

theorem t_X2_num_big1 {σ : zSt} {r : Nat → Int32} (hl : Lay σ) {q : Nat} {T : Nat → Int32} (ht : zTx σ q T) (hq : q < 34) {a : Nat} (ha : a < 2 ^ 30) {k : Nat} {mo : Int32} (hk : k < 6) (h1 : T a = nI 32) (h2 : dg (T (a + 1)) = true) (h3 : dg (T (a + 1 + 1)) = false) (h4 : ¬ (T (a + 1) - nI 48) ≤ mo) : Dt mX2_readNumber [.ref 34, .ref q, .int (nI k), .int mo] (tS σ a (-1) r) (none) (tS σ (a + 1 + 1) (nI (a + 1)) r) := by
  refine Dt.of (by decide) (Nat.le_of_ble_eq_true rfl) fun κ B Rt => ?_
  show Z κ 0 0 (tS σ a (-1) r) 0 [(0, .ref 34), (1, .ref q), (2, .int (nI k)), (3, .int mo)] []
  refine Z.aload_n B dX2_readNumber_0 (v := .ref 34) rfl rfl ?_
  refine Z.aload_n B dX2_readNumber_1 (v := .ref q) rfl rfl ?_
  refine Z.bipush B dX2_readNumber_2 (v := nI 32) rfl ?_
  refine Z.callVN (σ := (tS σ a (-1) r)) B (M' := mX2_pass) (as := [.ref q, .int (nI 32)]) (st := []) dX2_readNumber_4 wX2_pass iX2_pass sX2_pass kX2_42 (hl.n (k := 34) (by decide)) (hl.k (k := 34) (by decide)) (by decide) rfl rfl (t_X2_pass_1 (σ := σ) (f := -1) (r := r) hl ht hq (a := a) (by omega) (c := 32) h1) rfl rfl (by decide) (by decide) (Nat.le_of_ble_eq_true rfl) (by decide) (by decide) ?_
  refine Z.aload_n B dX2_readNumber_7 (v := .ref 34) rfl rfl ?_
  refine Z.getI (σ := (tS σ (a + 1) (-1) r)) B fX2_23_2 dX2_readNumber_8 (hl.n (k := 34) (by decide)) (hl.k (k := 34) (by decide)) (by decide) (v := (-1)) tS_f ?_
  refine Z.iconst B dX2_readNumber_11 (v := (-1)) rfl ?_
  refine Z.icmp_eq B dX2_readNumber_12 (tgt := 16) rfl (fun h12 => ?_) (fun h12 => absurd rfl h12)
  refine Z.aload_n B dX2_readNumber_16 (v := .ref 34) rfl rfl ?_
  refine Z.getI (σ := (tS σ (a + 1) (-1) r)) B fX2_19_2 dX2_readNumber_17 (hl.n (k := 34) (by decide)) (hl.k (k := 34) (by decide)) (by decide) (v := nI (a + 1)) tS_a ?_
  refine Z.istore B dX2_readNumber_20 (by decide) (L' := [(0, .ref 34), (1, .ref q), (2, .int (nI k)), (3, .int mo), (4, .int (nI (a + 1)))]) rfl ?_
  refine Z.aload_n B dX2_readNumber_22 (v := .ref 34) rfl rfl ?_
  refine Z.aload_n B dX2_readNumber_23 (v := .ref q) rfl rfl ?_
  refine Z.callVI (σ := (tS σ (a + 1) (-1) r)) B (M' := mX2_isDigit) (as := [.ref q]) (st := []) (v := .int (nI 1)) dX2_readNumber_24 wX2_isDigit iX2_isDigit sX2_isDigit kX2_95 (hl.n (k := 34) (by decide)) (hl.k (k := 34) (by decide)) (by decide) rfl rfl (t_X2_isDigit_1 (σ := σ) (f := -1) (r := r) hl ht hq (a := a + 1) (by omega) h2) rfl rfl (by decide) (by decide) (Nat.le_of_ble_eq_true rfl) (by decide) (by decide) ?_
  refine Z.if_neN B dX2_readNumber_27 (tgt := 39) rfl (by omega) (fun h27 => ?_) (fun h27 => by exfalso; first | omega | contradiction | simp_all)
  refine Z.aload_n B dX2_readNumber_39 (v := .ref q) rfl rfl ?_
  refine Z.aload_n B dX2_readNumber_40 (v := .ref 34) rfl rfl ?_
  refine Z.getI (σ := (tS σ (a + 1) (-1) r)) B fX2_19_2 dX2_readNumber_41 (hl.n (k := 34) (by decide)) (hl.k (k := 34) (by decide)) (by decide) (v := nI (a + 1)) tS_a ?_
  refine Z.callVI (σ := (tS σ (a + 1) (-1) r)) B (M' := mX6_intAt) (as := [.int (nI (a + 1))]) (st := []) (v := .int (T (a + 1))) dX2_readNumber_44 wX6_intAt iX6_intAt sX6_intAt kX2_88 (Nat.lt_of_succ_lt ht.1.1) ht.1.2.1 (by decide) rfl rfl (t_int (σ := (tS σ (a + 1) (-1) r)) (ht.tS hq) (i := a + 1) (by omega)) rfl rfl (by decide) (by decide) (Nat.le_of_ble_eq_true rfl) (by decide) (by decide) ?_
  refine Z.bipush B dX2_readNumber_47 (v := nI 48) rfl ?_
  refine Z.isub B dX2_readNumber_49 ?_
  refine Z.istore B dX2_readNumber_50 (by decide) (L' := [(0, .ref 34), (1, .ref q), (2, .int (nI k)), (3, .int mo), (4, .int (nI (a + 1))), (5, .int ((T (a + 1)) - (nI 48)))]) rfl ?_
  refine Z.aload_n B dX2_readNumber_52 (v := .ref 34) rfl rfl ?_
  refine Z.dup B dX2_readNumber_53 rfl ?_
  refine Z.getI (σ := (tS σ (a + 1) (-1) r)) B fX2_19_2 dX2_readNumber_54 (hl.n (k := 34) (by decide)) (hl.k (k := 34) (by decide)) (by decide) (v := nI (a + 1)) tS_a ?_
  refine Z.iconst B dX2_readNumber_57 (v := nI 1) rfl ?_
  refine Z.iaddN B dX2_readNumber_58 (a := a + 1) (b := 1) ?_
  refine Z.putI (σ := (tS σ (a + 1) (-1) r)) B fX2_19_2 (ty := .int) ⟨_, _, _, rfl, rfl, by decide +kernel⟩ dX2_readNumber_59 (hl.n (k := 34) (by decide)) (hl.k (k := 34) (by decide)) (by decide) rfl rfl (τ := (zuX (tS σ (a + 1) (-1) r) 34 (upd (zX (tS σ (a + 1) (-1) r) 34) 2 (nI ((a + 1) + 1))))) rfl ?_
  refine Z.eqσ (τ := (tS σ (a + 1 + 1) (-1) r)) tS_ua ?_
  refine Z.aload_n B dX2_readNumber_62 (v := .ref 34) rfl rfl ?_
  refine Z.aload_n B dX2_readNumber_63 (v := .ref q) rfl rfl ?_
  refine Z.callVI (σ := (tS σ (a + 1 + 1) (-1) r)) B (M' := mX2_isDigit) (as := [.ref q]) (st := []) (v := .int (nI 0)) dX2_readNumber_64 wX2_isDigit iX2_isDigit sX2_isDigit kX2_95 (hl.n (k := 34) (by decide)) (hl.k (k := 34) (by decide)) (by decide) rfl rfl (t_X2_isDigit_0 (σ := σ) (f := -1) (r := r) hl ht hq (a := a + 1 + 1) (by omega) h3) rfl rfl (by decide) (by decide) (Nat.le_of_ble_eq_true rfl) (by decide) (by decide) ?_
  refine Z.if_eqN B dX2_readNumber_67 (tgt := 99) rfl (by omega) (fun h67 => ?_) (fun h67 => by exfalso; first | omega | contradiction | simp_all)
  refine Z.iload B dX2_readNumber_99 (x := ((T (a + 1)) - (nI 48))) rfl ?_
  refine Z.iload_n B dX2_readNumber_101 (x := mo) rfl ?_
  refine Z.icmp_le B dX2_readNumber_102 (tgt := 114) rfl (fun h102 => by exfalso; first | omega | contradiction | simp_all) (fun h102 => ?_)
  refine Z.aload_n B dX2_readNumber_105 (v := .ref 34) rfl rfl ?_
  refine Z.iload B dX2_readNumber_106 (x := nI (a + 1)) rfl ?_
  refine Z.putI (σ := (tS σ (a + 1 + 1) (-1) r)) B fX2_23_2 (ty := .int) ⟨_, _, _, rfl, rfl, by decide +kernel⟩ dX2_readNumber_108 (hl.n (k := 34) (by decide)) (hl.k (k := 34) (by decide)) (by decide) rfl rfl (τ := (zuX (tS σ (a + 1 + 1) (-1) r) 34 (upd (zX (tS σ (a + 1 + 1) (-1) r) 34) 3 (nI (a + 1))))) rfl ?_
  refine Z.goto B dX2_readNumber_111 (tgt := 135) rfl ?_
  refine Z.vret B Rt dX2_readNumber_135 rfl (by decide) (by decide) ?_
  exact ⟨rfl, tS_uf⟩

theorem t_X2_num_ok1 {σ : zSt} {r : Nat → Int32} (hl : Lay σ) {q : Nat} {T : Nat → Int32} (ht : zTx σ q T) (hq : q < 34) {a : Nat} (ha : a < 2 ^ 30) {k : Nat} {mo : Int32} (hk : k < 6) (h1 : T a = nI 32) (h2 : dg (T (a + 1)) = true) (h3 : dg (T (a + 1 + 1)) = false) (h4 : (T (a + 1) - nI 48) ≤ mo) : Dt mX2_readNumber [.ref 34, .ref q, .int (nI k), .int mo] (tS σ a (-1) r) (none) (tS σ (a + 1 + 1) (-1) (upd r k (T (a + 1) - nI 48))) := by
  refine Dt.of (by decide) (Nat.le_of_ble_eq_true rfl) fun κ B Rt => ?_
  show Z κ 0 0 (tS σ a (-1) r) 0 [(0, .ref 34), (1, .ref q), (2, .int (nI k)), (3, .int mo)] []
  refine Z.aload_n B dX2_readNumber_0 (v := .ref 34) rfl rfl ?_
  refine Z.aload_n B dX2_readNumber_1 (v := .ref q) rfl rfl ?_
  refine Z.bipush B dX2_readNumber_2 (v := nI 32) rfl ?_
  refine Z.callVN (σ := (tS σ a (-1) r)) B (M' := mX2_pass) (as := [.ref q, .int (nI 32)]) (st := []) dX2_readNumber_4 wX2_pass iX2_pass sX2_pass kX2_42 (hl.n (k := 34) (by decide)) (hl.k (k := 34) (by decide)) (by decide) rfl rfl (t_X2_pass_1 (σ := σ) (f := -1) (r := r) hl ht hq (a := a) (by omega) (c := 32) h1) rfl rfl (by decide) (by decide) (Nat.le_of_ble_eq_true rfl) (by decide) (by decide) ?_
  refine Z.aload_n B dX2_readNumber_7 (v := .ref 34) rfl rfl ?_
  refine Z.getI (σ := (tS σ (a + 1) (-1) r)) B fX2_23_2 dX2_readNumber_8 (hl.n (k := 34) (by decide)) (hl.k (k := 34) (by decide)) (by decide) (v := (-1)) tS_f ?_
  refine Z.iconst B dX2_readNumber_11 (v := (-1)) rfl ?_
  refine Z.icmp_eq B dX2_readNumber_12 (tgt := 16) rfl (fun h12 => ?_) (fun h12 => absurd rfl h12)
  refine Z.aload_n B dX2_readNumber_16 (v := .ref 34) rfl rfl ?_
  refine Z.getI (σ := (tS σ (a + 1) (-1) r)) B fX2_19_2 dX2_readNumber_17 (hl.n (k := 34) (by decide)) (hl.k (k := 34) (by decide)) (by decide) (v := nI (a + 1)) tS_a ?_
  refine Z.istore B dX2_readNumber_20 (by decide) (L' := [(0, .ref 34), (1, .ref q), (2, .int (nI k)), (3, .int mo), (4, .int (nI (a + 1)))]) rfl ?_
  refine Z.aload_n B dX2_readNumber_22 (v := .ref 34) rfl rfl ?_
  refine Z.aload_n B dX2_readNumber_23 (v := .ref q) rfl rfl ?_
  refine Z.callVI (σ := (tS σ (a + 1) (-1) r)) B (M' := mX2_isDigit) (as := [.ref q]) (st := []) (v := .int (nI 1)) dX2_readNumber_24 wX2_isDigit iX2_isDigit sX2_isDigit kX2_95 (hl.n (k := 34) (by decide)) (hl.k (k := 34) (by decide)) (by decide) rfl rfl (t_X2_isDigit_1 (σ := σ) (f := -1) (r := r) hl ht hq (a := a + 1) (by omega) h2) rfl rfl (by decide) (by decide) (Nat.le_of_ble_eq_true rfl) (by decide) (by decide) ?_
  refine Z.if_neN B dX2_readNumber_27 (tgt := 39) rfl (by omega) (fun h27 => ?_) (fun h27 => by exfalso; first | omega | contradiction | simp_all)
  refine Z.aload_n B dX2_readNumber_39 (v := .ref q) rfl rfl ?_
  refine Z.aload_n B dX2_readNumber_40 (v := .ref 34) rfl rfl ?_
  refine Z.getI (σ := (tS σ (a + 1) (-1) r)) B fX2_19_2 dX2_readNumber_41 (hl.n (k := 34) (by decide)) (hl.k (k := 34) (by decide)) (by decide) (v := nI (a + 1)) tS_a ?_
  refine Z.callVI (σ := (tS σ (a + 1) (-1) r)) B (M' := mX6_intAt) (as := [.int (nI (a + 1))]) (st := []) (v := .int (T (a + 1))) dX2_readNumber_44 wX6_intAt iX6_intAt sX6_intAt kX2_88 (Nat.lt_of_succ_lt ht.1.1) ht.1.2.1 (by decide) rfl rfl (t_int (σ := (tS σ (a + 1) (-1) r)) (ht.tS hq) (i := a + 1) (by omega)) rfl rfl (by decide) (by decide) (Nat.le_of_ble_eq_true rfl) (by decide) (by decide) ?_
  refine Z.bipush B dX2_readNumber_47 (v := nI 48) rfl ?_
  refine Z.isub B dX2_readNumber_49 ?_
  refine Z.istore B dX2_readNumber_50 (by decide) (L' := [(0, .ref 34), (1, .ref q), (2, .int (nI k)), (3, .int mo), (4, .int (nI (a + 1))), (5, .int ((T (a + 1)) - (nI 48)))]) rfl ?_
  refine Z.aload_n B dX2_readNumber_52 (v := .ref 34) rfl rfl ?_
  refine Z.dup B dX2_readNumber_53 rfl ?_
  refine Z.getI (σ := (tS σ (a + 1) (-1) r)) B fX2_19_2 dX2_readNumber_54 (hl.n (k := 34) (by decide)) (hl.k (k := 34) (by decide)) (by decide) (v := nI (a + 1)) tS_a ?_
  refine Z.iconst B dX2_readNumber_57 (v := nI 1) rfl ?_
  refine Z.iaddN B dX2_readNumber_58 (a := a + 1) (b := 1) ?_
  refine Z.putI (σ := (tS σ (a + 1) (-1) r)) B fX2_19_2 (ty := .int) ⟨_, _, _, rfl, rfl, by decide +kernel⟩ dX2_readNumber_59 (hl.n (k := 34) (by decide)) (hl.k (k := 34) (by decide)) (by decide) rfl rfl (τ := (zuX (tS σ (a + 1) (-1) r) 34 (upd (zX (tS σ (a + 1) (-1) r) 34) 2 (nI ((a + 1) + 1))))) rfl ?_
  refine Z.eqσ (τ := (tS σ (a + 1 + 1) (-1) r)) tS_ua ?_
  refine Z.aload_n B dX2_readNumber_62 (v := .ref 34) rfl rfl ?_
  refine Z.aload_n B dX2_readNumber_63 (v := .ref q) rfl rfl ?_
  refine Z.callVI (σ := (tS σ (a + 1 + 1) (-1) r)) B (M' := mX2_isDigit) (as := [.ref q]) (st := []) (v := .int (nI 0)) dX2_readNumber_64 wX2_isDigit iX2_isDigit sX2_isDigit kX2_95 (hl.n (k := 34) (by decide)) (hl.k (k := 34) (by decide)) (by decide) rfl rfl (t_X2_isDigit_0 (σ := σ) (f := -1) (r := r) hl ht hq (a := a + 1 + 1) (by omega) h3) rfl rfl (by decide) (by decide) (Nat.le_of_ble_eq_true rfl) (by decide) (by decide) ?_
  refine Z.if_eqN B dX2_readNumber_67 (tgt := 99) rfl (by omega) (fun h67 => ?_) (fun h67 => by exfalso; first | omega | contradiction | simp_all)
  refine Z.iload B dX2_readNumber_99 (x := ((T (a + 1)) - (nI 48))) rfl ?_
  refine Z.iload_n B dX2_readNumber_101 (x := mo) rfl ?_
  refine Z.icmp_le B dX2_readNumber_102 (tgt := 114) rfl (fun h102 => ?_) (fun h102 => by exfalso; first | omega | contradiction | simp_all)
  refine Z.iload_n B dX2_readNumber_114 (x := nI k) rfl ?_
  refine Z.if_ltN B dX2_readNumber_115 (tgt := 135) rfl (by omega) ?_
  refine Z.iload_n B dX2_readNumber_118 (x := nI k) rfl ?_
  refine Z.aload_n B dX2_readNumber_119 (v := .ref 34) rfl rfl ?_
  refine Z.getR (σ := (tS σ (a + 1 + 1) (-1) r)) B fX2_15_2 dX2_readNumber_120 (hl.n (k := 34) (by decide)) (hl.k (k := 34) (by decide)) (by decide) (j := 42) (hl.r (k := 34) (f := 1) (by decide) (by decide)) ?_
  refine Z.alen (σ := (tS σ (a + 1 + 1) (-1) r)) B dX2_readNumber_123 (hl.n (k := 42) (by decide)) (t := 0) (hl.k (k := 42) (by decide)) (by decide) (n := 6) (hl.l (k := 42) (by decide)) (v := nI 6) rfl ?_
  refine Z.icmp_geN B dX2_readNumber_124 (tgt := 135) rfl (by omega) (by omega) (fun h124 => by exfalso; first | omega | contradiction | simp_all) (fun h124 => ?_)
  refine Z.aload_n B dX2_readNumber_127 (v := .ref 34) rfl rfl ?_
  refine Z.getR (σ := (tS σ (a + 1 + 1) (-1) r)) B fX2_15_2 dX2_readNumber_128 (hl.n (k := 34) (by decide)) (hl.k (k := 34) (by decide)) (by decide) (j := 42) (hl.r (k := 34) (f := 1) (by decide) (by decide)) ?_
  refine Z.iload_n B dX2_readNumber_131 (x := nI k) rfl ?_
  refine Z.iload B dX2_readNumber_132 (x := ((T (a + 1)) - (nI 48))) rfl ?_
  refine Z.iast (σ := (tS σ (a + 1 + 1) (-1) r)) B dX2_readNumber_134 (n := 6) (hl.n (k := 42) (by decide)) (hl.k (k := 42) (by decide)) (hl.l (k := 42) (by decide)) (by decide) (j := k) rfl (by omega) (τ := (zuX (tS σ (a + 1 + 1) (-1) r) 42 (upd (zX (tS σ (a + 1 + 1) (-1) r) 42) k ((T (a + 1)) - (nI 48))))) rfl ?_
  refine Z.vret B Rt dX2_readNumber_135 rfl (by decide) (by decide) ?_
  exact ⟨rfl, by rw [tS_ur, tS_r]⟩

theorem t_X2_num_big2 {σ : zSt} {r : Nat → Int32} (hl : Lay σ) {q : Nat} {T : Nat → Int32} (ht : zTx σ q T) (hq : q < 34) {a : Nat} (ha : a < 2 ^ 30) {k : Nat} {mo : Int32} (hk : k < 6) (h1 : T a = nI 32) (h2 : dg (T (a + 1)) = true) (h3 : dg (T (a + 1 + 1)) = true) (h4 : ¬ (((T (a + 1) - nI 48) * nI 10 + T (a + 1 + 1)) - nI 48) ≤ mo) : Dt mX2_readNumber [.ref 34, .ref q, .int (nI k), .int mo] (tS σ a (-1) r) (none) (tS σ (a + 1 + 1 + 1) (nI (a + 1)) r) := by
  refine Dt.of (by decide) (Nat.le_of_ble_eq_true rfl) fun κ B Rt => ?_
  show Z κ 0 0 (tS σ a (-1) r) 0 [(0, .ref 34), (1, .ref q), (2, .int (nI k)), (3, .int mo)] []
  refine Z.aload_n B dX2_readNumber_0 (v := .ref 34) rfl rfl ?_
  refine Z.aload_n B dX2_readNumber_1 (v := .ref q) rfl rfl ?_
  refine Z.bipush B dX2_readNumber_2 (v := nI 32) rfl ?_
  refine Z.callVN (σ := (tS σ a (-1) r)) B (M' := mX2_pass) (as := [.ref q, .int (nI 32)]) (st := []) dX2_readNumber_4 wX2_pass iX2_pass sX2_pass kX2_42 (hl.n (k := 34) (by decide)) (hl.k (k := 34) (by decide)) (by decide) rfl rfl (t_X2_pass_1 (σ := σ) (f := -1) (r := r) hl ht hq (a := a) (by omega) (c := 32) h1) rfl rfl (by decide) (by decide) (Nat.le_of_ble_eq_true rfl) (by decide) (by decide) ?_
  refine Z.aload_n B dX2_readNumber_7 (v := .ref 34) rfl rfl ?_
  refine Z.getI (σ := (tS σ (a + 1) (-1) r)) B fX2_23_2 dX2_readNumber_8 (hl.n (k := 34) (by decide)) (hl.k (k := 34) (by decide)) (by decide) (v := (-1)) tS_f ?_
  refine Z.iconst B dX2_readNumber_11 (v := (-1)) rfl ?_
  refine Z.icmp_eq B dX2_readNumber_12 (tgt := 16) rfl (fun h12 => ?_) (fun h12 => absurd rfl h12)
  refine Z.aload_n B dX2_readNumber_16 (v := .ref 34) rfl rfl ?_
  refine Z.getI (σ := (tS σ (a + 1) (-1) r)) B fX2_19_2 dX2_readNumber_17 (hl.n (k := 34) (by decide)) (hl.k (k := 34) (by decide)) (by decide) (v := nI (a + 1)) tS_a ?_
  refine Z.istore B dX2_readNumber_20 (by decide) (L' := [(0, .ref 34), (1, .ref q), (2, .int (nI k)), (3, .int mo), (4, .int (nI (a + 1)))]) rfl ?_
  refine Z.aload_n B dX2_readNumber_22 (v := .ref 34) rfl rfl ?_
  refine Z.aload_n B dX2_readNumber_23 (v := .ref q) rfl rfl ?_
  refine Z.callVI (σ := (tS σ (a + 1) (-1) r)) B (M' := mX2_isDigit) (as := [.ref q]) (st := []) (v := .int (nI 1)) dX2_readNumber_24 wX2_isDigit iX2_isDigit sX2_isDigit kX2_95 (hl.n (k := 34) (by decide)) (hl.k (k := 34) (by decide)) (by decide) rfl rfl (t_X2_isDigit_1 (σ := σ) (f := -1) (r := r) hl ht hq (a := a + 1) (by omega) h2) rfl rfl (by decide) (by decide) (Nat.le_of_ble_eq_true rfl) (by decide) (by decide) ?_
  refine Z.if_neN B dX2_readNumber_27 (tgt := 39) rfl (by omega) (fun h27 => ?_) (fun h27 => by exfalso; first | omega | contradiction | simp_all)
  refine Z.aload_n B dX2_readNumber_39 (v := .ref q) rfl rfl ?_
  refine Z.aload_n B dX2_readNumber_40 (v := .ref 34) rfl rfl ?_
  refine Z.getI (σ := (tS σ (a + 1) (-1) r)) B fX2_19_2 dX2_readNumber_41 (hl.n (k := 34) (by decide)) (hl.k (k := 34) (by decide)) (by decide) (v := nI (a + 1)) tS_a ?_
  refine Z.callVI (σ := (tS σ (a + 1) (-1) r)) B (M' := mX6_intAt) (as := [.int (nI (a + 1))]) (st := []) (v := .int (T (a + 1))) dX2_readNumber_44 wX6_intAt iX6_intAt sX6_intAt kX2_88 (Nat.lt_of_succ_lt ht.1.1) ht.1.2.1 (by decide) rfl rfl (t_int (σ := (tS σ (a + 1) (-1) r)) (ht.tS hq) (i := a + 1) (by omega)) rfl rfl (by decide) (by decide) (Nat.le_of_ble_eq_true rfl) (by decide) (by decide) ?_
  refine Z.bipush B dX2_readNumber_47 (v := nI 48) rfl ?_
  refine Z.isub B dX2_readNumber_49 ?_
  refine Z.istore B dX2_readNumber_50 (by decide) (L' := [(0, .ref 34), (1, .ref q), (2, .int (nI k)), (3, .int mo), (4, .int (nI (a + 1))), (5, .int ((T (a + 1)) - (nI 48)))]) rfl ?_
  refine Z.aload_n B dX2_readNumber_52 (v := .ref 34) rfl rfl ?_
  refine Z.dup B dX2_readNumber_53 rfl ?_
  refine Z.getI (σ := (tS σ (a + 1) (-1) r)) B fX2_19_2 dX2_readNumber_54 (hl.n (k := 34) (by decide)) (hl.k (k := 34) (by decide)) (by decide) (v := nI (a + 1)) tS_a ?_
  refine Z.iconst B dX2_readNumber_57 (v := nI 1) rfl ?_
  refine Z.iaddN B dX2_readNumber_58 (a := a + 1) (b := 1) ?_
  refine Z.putI (σ := (tS σ (a + 1) (-1) r)) B fX2_19_2 (ty := .int) ⟨_, _, _, rfl, rfl, by decide +kernel⟩ dX2_readNumber_59 (hl.n (k := 34) (by decide)) (hl.k (k := 34) (by decide)) (by decide) rfl rfl (τ := (zuX (tS σ (a + 1) (-1) r) 34 (upd (zX (tS σ (a + 1) (-1) r) 34) 2 (nI ((a + 1) + 1))))) rfl ?_
  refine Z.eqσ (τ := (tS σ (a + 1 + 1) (-1) r)) tS_ua ?_
  refine Z.aload_n B dX2_readNumber_62 (v := .ref 34) rfl rfl ?_
  refine Z.aload_n B dX2_readNumber_63 (v := .ref q) rfl rfl ?_
  refine Z.callVI (σ := (tS σ (a + 1 + 1) (-1) r)) B (M' := mX2_isDigit) (as := [.ref q]) (st := []) (v := .int (nI 1)) dX2_readNumber_64 wX2_isDigit iX2_isDigit sX2_isDigit kX2_95 (hl.n (k := 34) (by decide)) (hl.k (k := 34) (by decide)) (by decide) rfl rfl (t_X2_isDigit_1 (σ := σ) (f := -1) (r := r) hl ht hq (a := a + 1 + 1) (by omega) h3) rfl rfl (by decide) (by decide) (Nat.le_of_ble_eq_true rfl) (by decide) (by decide) ?_
  refine Z.if_eqN B dX2_readNumber_67 (tgt := 99) rfl (by omega) (fun h67 => by exfalso; first | omega | contradiction | simp_all) (fun h67 => ?_)
  refine Z.iload B dX2_readNumber_70 (x := ((T (a + 1)) - (nI 48))) rfl ?_
  refine Z.bipush B dX2_readNumber_72 (v := nI 10) rfl ?_
  refine Z.imul B dX2_readNumber_74 ?_
  refine Z.aload_n B dX2_readNumber_75 (v := .ref q) rfl rfl ?_
  refine Z.aload_n B dX2_readNumber_76 (v := .ref 34) rfl rfl ?_
  refine Z.getI (σ := (tS σ (a + 1 + 1) (-1) r)) B fX2_19_2 dX2_readNumber_77 (hl.n (k := 34) (by decide)) (hl.k (k := 34) (by decide)) (by decide) (v := nI (a + 1 + 1)) tS_a ?_
  refine Z.callVI (σ := (tS σ (a + 1 + 1) (-1) r)) B (M' := mX6_intAt) (as := [.int (nI (a + 1 + 1))]) (st := [.int (((T (a + 1)) - (nI 48)) * (nI 10))]) (v := .int (T (a + 1 + 1))) dX2_readNumber_80 wX6_intAt iX6_intAt sX6_intAt kX2_88 (Nat.lt_of_succ_lt ht.1.1) ht.1.2.1 (by decide) rfl rfl (t_int (σ := (tS σ (a + 1 + 1) (-1) r)) (ht.tS hq) (i := a + 1 + 1) (by omega)) rfl rfl (by decide) (by decide) (Nat.le_of_ble_eq_true rfl) (by decide) (by decide) ?_
  refine Z.iadd B dX2_readNumber_83 ?_
  refine Z.bipush B dX2_readNumber_84 (v := nI 48) rfl ?_
  refine Z.isub B dX2_readNumber_86 ?_
  refine Z.istore B dX2_readNumber_87 (by decide) (L' := [(0, .ref 34), (1, .ref q), (2, .int (nI k)), (3, .int mo), (4, .int (nI (a + 1))), (5, .int (((((T (a + 1)) - (nI 48)) * (nI 10)) + (T (a + 1 + 1))) - (nI 48)))]) rfl ?_
  refine Z.aload_n B dX2_readNumber_89 (v := .ref 34) rfl rfl ?_
  refine Z.dup B dX2_readNumber_90 rfl ?_
  refine Z.getI (σ := (tS σ (a + 1 + 1) (-1) r)) B fX2_19_2 dX2_readNumber_91 (hl.n (k := 34) (by decide)) (hl.k (k := 34) (by decide)) (by decide) (v := nI (a + 1 + 1)) tS_a ?_
  refine Z.iconst B dX2_readNumber_94 (v := nI 1) rfl ?_
  refine Z.iaddN B dX2_readNumber_95 (a := a + 1 + 1) (b := 1) ?_
  refine Z.putI (σ := (tS σ (a + 1 + 1) (-1) r)) B fX2_19_2 (ty := .int) ⟨_, _, _, rfl, rfl, by decide +kernel⟩ dX2_readNumber_96 (hl.n (k := 34) (by decide)) (hl.k (k := 34) (by decide)) (by decide) rfl rfl (τ := (zuX (tS σ (a + 1 + 1) (-1) r) 34 (upd (zX (tS σ (a + 1 + 1) (-1) r) 34) 2 (nI ((a + 1 + 1) + 1))))) rfl ?_
  refine Z.eqσ (τ := (tS σ (a + 1 + 1 + 1) (-1) r)) tS_ua ?_
  refine Z.iload B dX2_readNumber_99 (x := (((((T (a + 1)) - (nI 48)) * (nI 10)) + (T (a + 1 + 1))) - (nI 48))) rfl ?_
  refine Z.iload_n B dX2_readNumber_101 (x := mo) rfl ?_
  refine Z.icmp_le B dX2_readNumber_102 (tgt := 114) rfl (fun h102 => by exfalso; first | omega | contradiction | simp_all) (fun h102 => ?_)
  refine Z.aload_n B dX2_readNumber_105 (v := .ref 34) rfl rfl ?_
  refine Z.iload B dX2_readNumber_106 (x := nI (a + 1)) rfl ?_
  refine Z.putI (σ := (tS σ (a + 1 + 1 + 1) (-1) r)) B fX2_23_2 (ty := .int) ⟨_, _, _, rfl, rfl, by decide +kernel⟩ dX2_readNumber_108 (hl.n (k := 34) (by decide)) (hl.k (k := 34) (by decide)) (by decide) rfl rfl (τ := (zuX (tS σ (a + 1 + 1 + 1) (-1) r) 34 (upd (zX (tS σ (a + 1 + 1 + 1) (-1) r) 34) 3 (nI (a + 1))))) rfl ?_
  refine Z.goto B dX2_readNumber_111 (tgt := 135) rfl ?_
  refine Z.vret B Rt dX2_readNumber_135 rfl (by decide) (by decide) ?_
  exact ⟨rfl, tS_uf⟩

theorem t_X2_num_ok2 {σ : zSt} {r : Nat → Int32} (hl : Lay σ) {q : Nat} {T : Nat → Int32} (ht : zTx σ q T) (hq : q < 34) {a : Nat} (ha : a < 2 ^ 30) {k : Nat} {mo : Int32} (hk : k < 6) (h1 : T a = nI 32) (h2 : dg (T (a + 1)) = true) (h3 : dg (T (a + 1 + 1)) = true) (h4 : (((T (a + 1) - nI 48) * nI 10 + T (a + 1 + 1)) - nI 48) ≤ mo) : Dt mX2_readNumber [.ref 34, .ref q, .int (nI k), .int mo] (tS σ a (-1) r) (none) (tS σ (a + 1 + 1 + 1) (-1) (upd r k (((T (a + 1) - nI 48) * nI 10 + T (a + 1 + 1)) - nI 48))) := by
  refine Dt.of (by decide) (Nat.le_of_ble_eq_true rfl) fun κ B Rt => ?_
  show Z κ 0 0 (tS σ a (-1) r) 0 [(0, .ref 34), (1, .ref q), (2, .int (nI k)), (3, .int mo)] []
  refine Z.aload_n B dX2_readNumber_0 (v := .ref 34) rfl rfl ?_
  refine Z.aload_n B dX2_readNumber_1 (v := .ref q) rfl rfl ?_
  refine Z.bipush B dX2_readNumber_2 (v := nI 32) rfl ?_
  refine Z.callVN (σ := (tS σ a (-1) r)) B (M' := mX2_pass) (as := [.ref q, .int (nI 32)]) (st := []) dX2_readNumber_4 wX2_pass iX2_pass sX2_pass kX2_42 (hl.n (k := 34) (by decide)) (hl.k (k := 34) (by decide)) (by decide) rfl rfl (t_X2_pass_1 (σ := σ) (f := -1) (r := r) hl ht hq (a := a) (by omega) (c := 32) h1) rfl rfl (by decide) (by decide) (Nat.le_of_ble_eq_true rfl) (by decide) (by decide) ?_
  refine Z.aload_n B dX2_readNumber_7 (v := .ref 34) rfl rfl ?_
  refine Z.getI (σ := (tS σ (a + 1) (-1) r)) B fX2_23_2 dX2_readNumber_8 (hl.n (k := 34) (by decide)) (hl.k (k := 34) (by decide)) (by decide) (v := (-1)) tS_f ?_
  refine Z.iconst B dX2_readNumber_11 (v := (-1)) rfl ?_
  refine Z.icmp_eq B dX2_readNumber_12 (tgt := 16) rfl (fun h12 => ?_) (fun h12 => absurd rfl h12)
  refine Z.aload_n B dX2_readNumber_16 (v := .ref 34) rfl rfl ?_
  refine Z.getI (σ := (tS σ (a + 1) (-1) r)) B fX2_19_2 dX2_readNumber_17 (hl.n (k := 34) (by decide)) (hl.k (k := 34) (by decide)) (by decide) (v := nI (a + 1)) tS_a ?_
  refine Z.istore B dX2_readNumber_20 (by decide) (L' := [(0, .ref 34), (1, .ref q), (2, .int (nI k)), (3, .int mo), (4, .int (nI (a + 1)))]) rfl ?_
  refine Z.aload_n B dX2_readNumber_22 (v := .ref 34) rfl rfl ?_
  refine Z.aload_n B dX2_readNumber_23 (v := .ref q) rfl rfl ?_
  refine Z.callVI (σ := (tS σ (a + 1) (-1) r)) B (M' := mX2_isDigit) (as := [.ref q]) (st := []) (v := .int (nI 1)) dX2_readNumber_24 wX2_isDigit iX2_isDigit sX2_isDigit kX2_95 (hl.n (k := 34) (by decide)) (hl.k (k := 34) (by decide)) (by decide) rfl rfl (t_X2_isDigit_1 (σ := σ) (f := -1) (r := r) hl ht hq (a := a + 1) (by omega) h2) rfl rfl (by decide) (by decide) (Nat.le_of_ble_eq_true rfl) (by decide) (by decide) ?_
  refine Z.if_neN B dX2_readNumber_27 (tgt := 39) rfl (by omega) (fun h27 => ?_) (fun h27 => by exfalso; first | omega | contradiction | simp_all)
  refine Z.aload_n B dX2_readNumber_39 (v := .ref q) rfl rfl ?_
  refine Z.aload_n B dX2_readNumber_40 (v := .ref 34) rfl rfl ?_
  refine Z.getI (σ := (tS σ (a + 1) (-1) r)) B fX2_19_2 dX2_readNumber_41 (hl.n (k := 34) (by decide)) (hl.k (k := 34) (by decide)) (by decide) (v := nI (a + 1)) tS_a ?_
  refine Z.callVI (σ := (tS σ (a + 1) (-1) r)) B (M' := mX6_intAt) (as := [.int (nI (a + 1))]) (st := []) (v := .int (T (a + 1))) dX2_readNumber_44 wX6_intAt iX6_intAt sX6_intAt kX2_88 (Nat.lt_of_succ_lt ht.1.1) ht.1.2.1 (by decide) rfl rfl (t_int (σ := (tS σ (a + 1) (-1) r)) (ht.tS hq) (i := a + 1) (by omega)) rfl rfl (by decide) (by decide) (Nat.le_of_ble_eq_true rfl) (by decide) (by decide) ?_
  refine Z.bipush B dX2_readNumber_47 (v := nI 48) rfl ?_
  refine Z.isub B dX2_readNumber_49 ?_
  refine Z.istore B dX2_readNumber_50 (by decide) (L' := [(0, .ref 34), (1, .ref q), (2, .int (nI k)), (3, .int mo), (4, .int (nI (a + 1))), (5, .int ((T (a + 1)) - (nI 48)))]) rfl ?_
  refine Z.aload_n B dX2_readNumber_52 (v := .ref 34) rfl rfl ?_
  refine Z.dup B dX2_readNumber_53 rfl ?_
  refine Z.getI (σ := (tS σ (a + 1) (-1) r)) B fX2_19_2 dX2_readNumber_54 (hl.n (k := 34) (by decide)) (hl.k (k := 34) (by decide)) (by decide) (v := nI (a + 1)) tS_a ?_
  refine Z.iconst B dX2_readNumber_57 (v := nI 1) rfl ?_
  refine Z.iaddN B dX2_readNumber_58 (a := a + 1) (b := 1) ?_
  refine Z.putI (σ := (tS σ (a + 1) (-1) r)) B fX2_19_2 (ty := .int) ⟨_, _, _, rfl, rfl, by decide +kernel⟩ dX2_readNumber_59 (hl.n (k := 34) (by decide)) (hl.k (k := 34) (by decide)) (by decide) rfl rfl (τ := (zuX (tS σ (a + 1) (-1) r) 34 (upd (zX (tS σ (a + 1) (-1) r) 34) 2 (nI ((a + 1) + 1))))) rfl ?_
  refine Z.eqσ (τ := (tS σ (a + 1 + 1) (-1) r)) tS_ua ?_
  refine Z.aload_n B dX2_readNumber_62 (v := .ref 34) rfl rfl ?_
  refine Z.aload_n B dX2_readNumber_63 (v := .ref q) rfl rfl ?_
  refine Z.callVI (σ := (tS σ (a + 1 + 1) (-1) r)) B (M' := mX2_isDigit) (as := [.ref q]) (st := []) (v := .int (nI 1)) dX2_readNumber_64 wX2_isDigit iX2_isDigit sX2_isDigit kX2_95 (hl.n (k := 34) (by decide)) (hl.k (k := 34) (by decide)) (by decide) rfl rfl (t_X2_isDigit_1 (σ := σ) (f := -1) (r := r) hl ht hq (a := a + 1 + 1) (by omega) h3) rfl rfl (by decide) (by decide) (Nat.le_of_ble_eq_true rfl) (by decide) (by decide) ?_
  refine Z.if_eqN B dX2_readNumber_67 (tgt := 99) rfl (by omega) (fun h67 => by exfalso; first | omega | contradiction | simp_all) (fun h67 => ?_)
  refine Z.iload B dX2_readNumber_70 (x := ((T (a + 1)) - (nI 48))) rfl ?_
  refine Z.bipush B dX2_readNumber_72 (v := nI 10) rfl ?_
  refine Z.imul B dX2_readNumber_74 ?_
  refine Z.aload_n B dX2_readNumber_75 (v := .ref q) rfl rfl ?_
  refine Z.aload_n B dX2_readNumber_76 (v := .ref 34) rfl rfl ?_
  refine Z.getI (σ := (tS σ (a + 1 + 1) (-1) r)) B fX2_19_2 dX2_readNumber_77 (hl.n (k := 34) (by decide)) (hl.k (k := 34) (by decide)) (by decide) (v := nI (a + 1 + 1)) tS_a ?_
  refine Z.callVI (σ := (tS σ (a + 1 + 1) (-1) r)) B (M' := mX6_intAt) (as := [.int (nI (a + 1 + 1))]) (st := [.int (((T (a + 1)) - (nI 48)) * (nI 10))]) (v := .int (T (a + 1 + 1))) dX2_readNumber_80 wX6_intAt iX6_intAt sX6_intAt kX2_88 (Nat.lt_of_succ_lt ht.1.1) ht.1.2.1 (by decide) rfl rfl (t_int (σ := (tS σ (a + 1 + 1) (-1) r)) (ht.tS hq) (i := a + 1 + 1) (by omega)) rfl rfl (by decide) (by decide) (Nat.le_of_ble_eq_true rfl) (by decide) (by decide) ?_
  refine Z.iadd B dX2_readNumber_83 ?_
  refine Z.bipush B dX2_readNumber_84 (v := nI 48) rfl ?_
  refine Z.isub B dX2_readNumber_86 ?_
  refine Z.istore B dX2_readNumber_87 (by decide) (L' := [(0, .ref 34), (1, .ref q), (2, .int (nI k)), (3, .int mo), (4, .int (nI (a + 1))), (5, .int (((((T (a + 1)) - (nI 48)) * (nI 10)) + (T (a + 1 + 1))) - (nI 48)))]) rfl ?_
  refine Z.aload_n B dX2_readNumber_89 (v := .ref 34) rfl rfl ?_
  refine Z.dup B dX2_readNumber_90 rfl ?_
  refine Z.getI (σ := (tS σ (a + 1 + 1) (-1) r)) B fX2_19_2 dX2_readNumber_91 (hl.n (k := 34) (by decide)) (hl.k (k := 34) (by decide)) (by decide) (v := nI (a + 1 + 1)) tS_a ?_
  refine Z.iconst B dX2_readNumber_94 (v := nI 1) rfl ?_
  refine Z.iaddN B dX2_readNumber_95 (a := a + 1 + 1) (b := 1) ?_
  refine Z.putI (σ := (tS σ (a + 1 + 1) (-1) r)) B fX2_19_2 (ty := .int) ⟨_, _, _, rfl, rfl, by decide +kernel⟩ dX2_readNumber_96 (hl.n (k := 34) (by decide)) (hl.k (k := 34) (by decide)) (by decide) rfl rfl (τ := (zuX (tS σ (a + 1 + 1) (-1) r) 34 (upd (zX (tS σ (a + 1 + 1) (-1) r) 34) 2 (nI ((a + 1 + 1) + 1))))) rfl ?_
  refine Z.eqσ (τ := (tS σ (a + 1 + 1 + 1) (-1) r)) tS_ua ?_
  refine Z.iload B dX2_readNumber_99 (x := (((((T (a + 1)) - (nI 48)) * (nI 10)) + (T (a + 1 + 1))) - (nI 48))) rfl ?_
  refine Z.iload_n B dX2_readNumber_101 (x := mo) rfl ?_
  refine Z.icmp_le B dX2_readNumber_102 (tgt := 114) rfl (fun h102 => ?_) (fun h102 => by exfalso; first | omega | contradiction | simp_all)
  refine Z.iload_n B dX2_readNumber_114 (x := nI k) rfl ?_
  refine Z.if_ltN B dX2_readNumber_115 (tgt := 135) rfl (by omega) ?_
  refine Z.iload_n B dX2_readNumber_118 (x := nI k) rfl ?_
  refine Z.aload_n B dX2_readNumber_119 (v := .ref 34) rfl rfl ?_
  refine Z.getR (σ := (tS σ (a + 1 + 1 + 1) (-1) r)) B fX2_15_2 dX2_readNumber_120 (hl.n (k := 34) (by decide)) (hl.k (k := 34) (by decide)) (by decide) (j := 42) (hl.r (k := 34) (f := 1) (by decide) (by decide)) ?_
  refine Z.alen (σ := (tS σ (a + 1 + 1 + 1) (-1) r)) B dX2_readNumber_123 (hl.n (k := 42) (by decide)) (t := 0) (hl.k (k := 42) (by decide)) (by decide) (n := 6) (hl.l (k := 42) (by decide)) (v := nI 6) rfl ?_
  refine Z.icmp_geN B dX2_readNumber_124 (tgt := 135) rfl (by omega) (by omega) (fun h124 => by exfalso; first | omega | contradiction | simp_all) (fun h124 => ?_)
  refine Z.aload_n B dX2_readNumber_127 (v := .ref 34) rfl rfl ?_
  refine Z.getR (σ := (tS σ (a + 1 + 1 + 1) (-1) r)) B fX2_15_2 dX2_readNumber_128 (hl.n (k := 34) (by decide)) (hl.k (k := 34) (by decide)) (by decide) (j := 42) (hl.r (k := 34) (f := 1) (by decide) (by decide)) ?_
  refine Z.iload_n B dX2_readNumber_131 (x := nI k) rfl ?_
  refine Z.iload B dX2_readNumber_132 (x := (((((T (a + 1)) - (nI 48)) * (nI 10)) + (T (a + 1 + 1))) - (nI 48))) rfl ?_
  refine Z.iast (σ := (tS σ (a + 1 + 1 + 1) (-1) r)) B dX2_readNumber_134 (n := 6) (hl.n (k := 42) (by decide)) (hl.k (k := 42) (by decide)) (hl.l (k := 42) (by decide)) (by decide) (j := k) rfl (by omega) (τ := (zuX (tS σ (a + 1 + 1 + 1) (-1) r) 42 (upd (zX (tS σ (a + 1 + 1 + 1) (-1) r) 42) k (((((T (a + 1)) - (nI 48)) * (nI 10)) + (T (a + 1 + 1))) - (nI 48))))) rfl ?_
  refine Z.vret B Rt dX2_readNumber_135 rfl (by decide) (by decide) ?_
  exact ⟨rfl, by rw [tS_ur, tS_r]⟩

theorem t_X2_num_ok {σ : zSt} {r : Nat → Int32} (hl : Lay σ) {q : Nat} {T : Nat → Int32} (ht : zTx σ q T) (hq : q < 34) {a : Nat} (ha : a < 2 ^ 30) {k : Nat} {mo : Int32} (hk : k < 6) (h : nok T a mo) : Dt mX2_readNumber [.ref 34, .ref q, .int (nI k), .int mo] (tS σ a (-1) r) none (tS σ (nat_ T a) (-1) (upd r k (nv T (a + 1)))) := by
  obtain ⟨h1, h2, h4⟩ := h
  unfold nat_
  rw [if_pos h1, if_pos h2]
  unfold nv at h4 ⊢
  unfold nl
  cases h3 : dg (T (a + 1 + 1)) with
  | false =>
    rw [h3, if_neg (by decide)] at h4
    rw [if_neg (by decide), if_neg (by decide)]
    exact t_X2_num_ok1 hl ht hq ha hk h1 h2 h3 h4
  | true =>
    rw [h3, if_pos rfl] at h4
    rw [if_pos rfl, if_pos rfl]
    exact t_X2_num_ok2 hl ht hq ha hk h1 h2 h3 h4
theorem t_X2_num_bad {σ : zSt} {r : Nat → Int32} (hl : Lay σ) {q : Nat} {T : Nat → Int32} (ht : zTx σ q T) (hq : q < 34) {a : Nat} (ha : a < 2 ^ 30) {k : Nat} {mo : Int32} (hk : k < 6) (h : ¬ nok T a mo) : Dt mX2_readNumber [.ref 34, .ref q, .int (nI k), .int mo] (tS σ a (-1) r) none (tS σ (nat_ T a) (nI (nbd T a)) r) := by
  unfold nat_ nbd
  by_cases h1 : T a = nI 32
  · rw [if_pos h1, if_pos h1]
    cases h2 : dg (T (a + 1)) with
    | false =>
      rw [if_neg (by decide)]
      exact t_X2_num_dg hl ht hq ha hk h1 h2
    | true =>
      rw [if_pos rfl]
      have h4 : ¬ nv T (a + 1) ≤ mo := fun h4 => h ⟨h1, h2, h4⟩
      unfold nv at h4
      unfold nl
      cases h3 : dg (T (a + 1 + 1)) with
      | false =>
        rw [h3, if_neg (by decide)] at h4
        rw [if_neg (by decide)]
        exact t_X2_num_big1 hl ht hq ha hk h1 h2 h3 h4
      | true =>
        rw [h3, if_pos rfl] at h4
        rw [if_pos rfl]
        exact t_X2_num_big2 hl ht hq ha hk h1 h2 h3 h4
  · rw [if_neg h1, if_neg h1]
    exact t_X2_num_sp hl ht hq ha hk h1