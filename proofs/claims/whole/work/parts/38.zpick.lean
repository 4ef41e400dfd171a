/-! ranks and picks: righted and lost in the model -/
theorem ah_iff {X : Nat → Int32} {c o : Nat} : ah X c o = true ↔ ((X c).toInt < (X o).toInt ∨ ((X o).toInt = (X c).toInt ∧ o < c)) := by
  unfold ah
  rw [decide_eq_true_iff, zlt_iff, ← Int32.toInt_inj]
theorem ah_irr {X : Nat → Int32} {c : Nat} : ah X c c = false := by
  cases h : ah X c c with
  | false => rfl
  | true => have := ah_iff.mp h; omega
theorem ah_tr {X : Nat → Int32} {a b c : Nat} (h1 : ah X a b = true) (h2 : ah X b c = true) : ah X a c = true := by
  have h1 := ah_iff.mp h1
  have h2 := ah_iff.mp h2
  exact ah_iff.mpr (by omega)
theorem ah_as {X : Nat → Int32} {a b : Nat} (h1 : ah X a b = true) : ah X b a = false := by
  cases h : ah X b a with
  | false => rfl
  | true => have h1 := ah_iff.mp h1; have h2 := ah_iff.mp h; omega
theorem ah_to {X : Nat → Int32} {a b : Nat} (hne : a ≠ b) : ah X a b = true ∨ ah X b a = true := by
  rcases Int.lt_trichotomy (X a).toInt (X b).toInt with h | h | h
  · exact Or.inl (ah_iff.mpr (Or.inl h))
  · rcases Nat.lt_or_gt_of_ne hne with h2 | h2
    · exact Or.inr (ah_iff.mpr (Or.inr ⟨h, h2⟩))
    · exact Or.inl (ah_iff.mpr (Or.inr ⟨h.symm, h2⟩))
  · exact Or.inr (ah_iff.mpr (Or.inl h))
theorem cN_mono {p q : Nat → Bool} : ∀ n, (∀ i, i < n → p i = true → q i = true) → cN p n ≤ cN q n
  | 0, _ => Nat.le_refl _
  | n + 1, h => by
    have h1 := cN_mono n (fun i hi => h i (by omega))
    have h2 := h n (by omega)
    simp only [cN]
    cases hp : p n with
    | false => cases q n <;> simp <;> omega
    | true => rw [h2 hp]; simp; omega
theorem cN_lt {p q : Nat → Bool} {b : Nat} : ∀ n, (∀ i, i < n → p i = true → q i = true) → b < n → p b = false → q b = true → cN p n < cN q n
  | 0, _, hb, _, _ => by omega
  | n + 1, h, hb, h1, h2 => by
    simp only [cN]
    rcases (by omega : b < n ∨ b = n) with h3 | rfl
    · have h4 := cN_lt n (fun i hi => h i (by omega)) h3 h1 h2
      have h5 := h n (by omega)
      cases hp : p n with
      | false => cases q n <;> simp <;> omega
      | true => rw [h5 hp]; simp; omega
    · have h4 := cN_mono b (fun i hi => h i (by omega))
      rw [h1, h2]
      simp
      omega
theorem cN_ad {p q : Nat → Bool} {b : Nat} : ∀ n, (∀ i, i < n → i ≠ b → p i = q i) → b < n → p b = false → q b = true → cN q n = cN p n + 1
  | 0, _, hb, _, _ => by omega
  | n + 1, h, hb, h1, h2 => by
    simp only [cN]
    rcases (by omega : b < n ∨ b = n) with h3 | rfl
    · rw [cN_ad n (fun i hi => h i (by omega)) h3 h1 h2, h n (by omega) (by omega)]
      omega
    · rw [cN_cong b (fun i hi => (h i (by omega) (by omega)).symm), h1, h2]
      rfl
theorem cN_ex {p : Nat → Bool} : ∀ n, cN p n < n → ∃ i, i < n ∧ p i = false
  | 0, h => by omega
  | n + 1, h => by
    simp only [cN] at h
    cases hp : p n with
    | false => exact ⟨n, by omega, hp⟩
    | true =>
      rw [hp] at h
      simp at h
      obtain ⟨i, h1, h2⟩ := cN_ex n (by omega)
      exact ⟨i, by omega, h2⟩
theorem cN_zero {p : Nat → Bool} : ∀ n, (∀ i, i < n → p i = false) → cN p n = 0
  | 0, _ => rfl
  | n + 1, h => by simp only [cN]; rw [cN_zero n (fun i hi => h i (by omega)), h n (by omega)]; rfl
theorem rk_lt {X : Nat → Int32} {n c o : Nat} (ho : o < n) (h : ah X c o = true) : rkN X n o < rkN X n c := cN_lt n (fun i _ hi => ah_tr h hi) ho ah_irr h
theorem rk_ltn {X : Nat → Int32} {n c : Nat} (hc : c < n) : rkN X n c < n := by
  have h := cN_lt (p := ah X c) (q := fun _ => true) (b := c) n (fun _ _ _ => rfl) hc ah_irr rfl
  have h2 : ∀ m, cN (fun _ => true) m = m := fun m => by
    induction m with
    | zero => rfl
    | succ m ih => simp only [cN, ih]; rfl
  rw [h2] at h
  exact h
theorem rk_inj {X : Nat → Int32} {n c d : Nat} (hc : c < n) (hd : d < n) (h : rkN X n c = rkN X n d) : c = d := by
  refine Classical.byContradiction fun hne => ?_
  rcases ah_to (X := X) hne with h1 | h1
  · have := rk_lt hd h1; omega
  · have := rk_lt hc h1; omega
theorem rk_bf {X : Nat → Int32} {n c o : Nat} (hc : c < n) (ho : o < n) (h : rkN X n o < rkN X n c) : ah X c o = true := by
  have hne : c ≠ o := fun e => by rw [e] at h; omega
  rcases ah_to (X := X) hne with h1 | h1
  · exact h1
  · have := rk_lt hc h1; omega
/-- the first greatest of those that aren't marked, and one more; 0: none -/
def uB (am : Nat → Bool) (X : Nat → Int32) : Nat → Nat
  | 0 => 0
  | i + 1 => bif am i then uB am X i else if uB am X i = 0 ∨ X (uB am X i - 1) < X i then i + 1 else uB am X i
def uV (b : Nat) : Int32 := if b = 0 then (-1) else nI (b - 1)
theorem uB_le {am : Nat → Bool} {X : Nat → Int32} : ∀ i, uB am X i ≤ i
  | 0 => Nat.le_refl _
  | i + 1 => by
    have h := uB_le (am := am) (X := X) i
    simp only [uB]
    cases am i with
    | true => exact Nat.le_succ_of_le h
    | false =>
      rw [cond_false]
      split
      · exact Nat.le_refl _
      · exact Nat.le_succ_of_le h
theorem uB_cong {am bm : Nat → Bool} {X : Nat → Int32} : ∀ n, (∀ i, i < n → am i = bm i) → uB am X n = uB bm X n
  | 0, _ => rfl
  | n + 1, h => by simp only [uB]; rw [uB_cong n (fun i hi => h i (by omega)), h n (by omega)]
theorem uB_sp {am : Nat → Bool} {X : Nat → Int32} : ∀ i, (uB am X i = 0 ∧ ∀ c, c < i → am c = true) ∨ (∃ b, b < i ∧ uB am X i = b + 1 ∧ am b = false ∧ ∀ c, c < i → am c = false → c ≠ b → ah X c b = true)
  | 0 => Or.inl ⟨rfl, fun c hc => by omega⟩
  | i + 1 => by
    have h := uB_sp (am := am) (X := X) i
    simp only [uB]
    cases ham : am i with
    | true =>
      rw [cond_true]
      rcases h with ⟨h1, h2⟩ | ⟨b, h1, h2, h3, h4⟩
      · refine Or.inl ⟨h1, fun c hc => ?_⟩
        rcases (by omega : c < i ∨ c = i) with h5 | rfl
        · exact h2 c h5
        · exact ham
      · refine Or.inr ⟨b, by omega, h2, h3, fun c hc hcm hcb => ?_⟩
        rcases (by omega : c < i ∨ c = i) with h5 | rfl
        · exact h4 c h5 hcm hcb
        · rw [ham] at hcm; cases hcm
    | false =>
      rw [cond_false]
      rcases h with ⟨h1, h2⟩ | ⟨b, h1, h2, h3, h4⟩
      · rw [if_pos (Or.inl h1)]
        refine Or.inr ⟨i, by omega, rfl, ham, fun c hc hcm hcb => ?_⟩
        have := h2 c (by omega)
        rw [this] at hcm; cases hcm
      · by_cases h5 : X b < X i
        · rw [h2, Nat.add_sub_cancel, if_pos (Or.inr h5)]
          have hbi : ah X b i = true := ah_iff.mpr (Or.inl (zlt_iff.mp h5))
          refine Or.inr ⟨i, by omega, rfl, ham, fun c hc hcm hcb => ?_⟩
          by_cases h6 : c = b
          · rw [h6]; exact hbi
          · exact ah_tr (h4 c (by omega) hcm h6) hbi
        · rw [h2, Nat.add_sub_cancel, if_neg (fun h => h.elim (fun h => by omega) h5)]
          refine Or.inr ⟨b, by omega, rfl, h3, fun c hc hcm hcb => ?_⟩
          rcases (by omega : c < i ∨ c = i) with h6 | rfl
          · exact h4 c h6 hcm hcb
          · rw [zlt_iff] at h5
            exact ah_iff.mpr (by omega)
/-- the k-th by rank -/
def slK (X : Nat → Int32) (n k : Nat) : Nat := uB (fun c => decide (rkN X n c < k)) X n - 1
theorem slK_all {X : Nat → Int32} {n : Nat} : ∀ k, k ≤ n → cN (fun c => decide (rkN X n c < k)) n = k ∧ ∀ j, j < k → slK X n j < n ∧ rkN X n (slK X n j) = j ∧ uB (fun c => decide (rkN X n c < j)) X n = slK X n j + 1
  | 0, _ => ⟨cN_zero n fun i _ => decide_eq_false (by omega), fun j hj => by omega⟩
  | k + 1, hk => by
    obtain ⟨h1, h2⟩ := slK_all (X := X) (n := n) k (by omega)
    obtain ⟨i, hi, hi2⟩ := cN_ex (p := fun c => decide (rkN X n c < k)) n (by omega)
    rcases uB_sp (am := fun c => decide (rkN X n c < k)) (X := X) n with ⟨h3, h4⟩ | ⟨b, h3, h4, h5, h6⟩
    · have := h4 i hi; rw [hi2] at this; cases this
    · have h5' := of_decide_eq_false h5
      have hb : rkN X n b = k := by
        refine Eq.trans (cN_cong n fun o ho => ?_) h1
        cases hd : ah X b o with
        | true =>
          refine (decide_eq_true ?_).symm
          refine Classical.byContradiction fun hno => ?_
          have hne : o ≠ b := fun e => by rw [e, ah_irr] at hd; cases hd
          have h7 := h6 o ho (decide_eq_false hno) hne
          rw [ah_as h7] at hd; cases hd
        | false =>
          refine (decide_eq_false fun hlt => ?_).symm
          rw [rk_bf h3 ho (by omega)] at hd; cases hd
      have hs : slK X n k = b := by unfold slK; rw [h4]; rfl
      refine ⟨?_, fun j hj => ?_⟩
      · refine (cN_ad (b := b) n (fun c hc hcb => ?_) h3 h5 (decide_eq_true (by omega))).trans (by rw [h1])
        by_cases h7 : rkN X n c < k
        · rw [decide_eq_true h7, decide_eq_true (by omega)]
        · have h8 : rkN X n c ≠ k := fun e => hcb (rk_inj (X := X) hc h3 (e.trans hb.symm))
          rw [decide_eq_false h7, decide_eq_false (by omega)]
      · rcases (by omega : j < k ∨ j = k) with h7 | rfl
        · exact h2 j h7
        · rw [hs]; exact ⟨h3, hb, h4⟩
theorem slK_m {X : Nat → Int32} {n k c : Nat} (hk : k ≤ n) (hn : n ≤ 8) (hc : c < n) : am_ (mkr (slK X n) k) c = decide (rkN X n c < k) := by
  have hall := (slK_all (X := X) k hk).2
  have hbit : am_ (mkr (slK X n) k) c = true ↔ ∃ j, j < k ∧ slK X n j = c := by
    unfold am_
    rw [decide_eq_true_iff, div_bit, mkr_bit]
  by_cases h : rkN X n c < k
  · rw [decide_eq_true h]
    exact hbit.mpr ⟨rkN X n c, h, rk_inj (hall _ h).1 hc (hall _ h).2.1⟩
  · rw [decide_eq_false h]
    cases hb : am_ (mkr (slK X n) k) c with
    | false => rfl
    | true =>
      obtain ⟨j, h1, h2⟩ := hbit.mp hb
      have := (hall j h1).2.1
      rw [h2] at this
      omega
theorem slK_lt {X : Nat → Int32} {n k : Nat} (hk : k ≤ n) (hn : n ≤ 8) : mkr (slK X n) k < 256 := mkr_lt k fun j hj => by have := ((slK_all (X := X) k hk).2 j hj).1; omega
theorem slK_u {X : Nat → Int32} {n k : Nat} (hk : k < n) (hn : n ≤ 8) : uB (am_ (mkr (slK X n) k)) X n = slK X n k + 1 :=
  (uB_cong n fun i hi => slK_m (by omega) hn hi).trans ((slK_all (X := X) (k + 1) hk).2 k (by omega)).2.2
theorem uV_n {b : Nat} (hb : b ≤ 8) : uV b = (-1) ↔ b = 0 := by
  unfold uV
  constructor
  · intro h
    refine Classical.byContradiction fun h2 => ?_
    rw [if_neg h2] at h
    exact zm1 (by omega) h
  · intro h; rw [if_pos h]
theorem uV_s {b : Nat} (h : ¬ b = 0) : uV b = nI (b - 1) := if_neg h
theorem uV_k {b : Nat} : uV (b + 1) = nI b := if_neg (by omega)

theorem t_M_righted_1 {σ : zSt} (hl : Lay σ) {n a y : Nat} (H : zMd σ n a y) {i : Int32} (hi : zOut i y) {m : Int32} : Dt mX12_righted [.ref 45, .int i, .int m] σ (some (.int ((-1) - nI 1000))) (zuX σ 46 (upd (zX σ 46) 1 (zX σ 46 1 + nI 1))) := by
  obtain ⟨-, hn, hn8, ha, ha4, hy, hy8⟩ := id H
  refine Dt.of (by decide) (Nat.le_of_ble_eq_true rfl) fun κ B Rt => ?_
  show Z κ 0 0 σ 0 [(0, .ref 45), (1, .int i), (2, .int m)] []
  refine Z.aload_n B dX12_righted_0 (v := .ref 45) rfl rfl ?_
  refine Z.iload_n B dX12_righted_1 (x := i) rfl ?_
  refine Z.callVI (σ := σ) B (M' := mX12_isWay) (as := [.int i]) (st := []) (v := .int (nI 0)) dX12_righted_2 wX12_isWay iX12_isWay sX12_isWay kX12_98 (hl.n (k := 45) (by decide)) (hl.k (k := 45) (by decide)) (by decide) rfl rfl (t_X12_isWay_out (σ := σ) H hi) rfl rfl (by decide) (by decide) (Nat.le_of_ble_eq_true rfl) (by decide) (by decide) ?_
  refine Z.if_neN B dX12_righted_5 (tgt := 14) rfl (by omega) (fun h5 => by exfalso; first | omega | contradiction | simp_all) (fun h5 => ?_)
  refine Z.aload_n B dX12_righted_8 (v := .ref 45) rfl rfl ?_
  refine Z.iconst B dX12_righted_9 (v := (-1)) rfl ?_
  refine Z.callVI (σ := σ) B (M' := mX12_noLow) (as := [.int (-1)]) (st := []) (v := .int ((-1) - nI 1000)) dX12_righted_10 wX12_noLow iX12_noLow sX12_noLow kX12_203 (hl.n (k := 45) (by decide)) (hl.k (k := 45) (by decide)) (by decide) rfl rfl (t_X12_noLow_1 (σ := σ) hl) rfl rfl (by decide) (by decide) (Nat.le_of_ble_eq_true rfl) (by decide) (by decide) ?_
  refine Z.eqσ (τ := (zuX σ 46 (upd (zX σ 46) 1 (zX σ 46 1 + nI 1)))) rfl ?_
  refine Z.iret B Rt dX12_righted_13 (ty := .int) rfl rfl (by decide) (by decide) ?_
  exact ⟨rfl, rfl⟩

theorem t_M_righted_6 {σ : zSt} (hl : Lay σ) {n a y : Nat} (H : zMd σ n a y) {i kd pa : Nat} (hi : i < y) (hw : zMy σ i kd pa) {m : Int32} (hm : m < nI 2 ∨ nI 8 < m) : Dt mX12_righted [.ref 45, .int (nI i), .int m] σ (some (.int ((-6) - nI 1000))) (zuX σ 46 (upd (zX σ 46) 6 (zX σ 46 6 + nI 1))) := by
  obtain ⟨-, hn, hn8, ha, ha4, hy, hy8⟩ := id H
  refine Dt.of (by decide) (Nat.le_of_ble_eq_true rfl) fun κ B Rt => ?_
  show Z κ 0 0 σ 0 [(0, .ref 45), (1, .int (nI i)), (2, .int m)] []
  refine Z.aload_n B dX12_righted_0 (v := .ref 45) rfl rfl ?_
  refine Z.iload_n B dX12_righted_1 (x := nI i) rfl ?_
  refine Z.callVI (σ := σ) B (M' := mX12_isWay) (as := [.int (nI i)]) (st := []) (v := .int (nI 1)) dX12_righted_2 wX12_isWay iX12_isWay sX12_isWay kX12_98 (hl.n (k := 45) (by decide)) (hl.k (k := 45) (by decide)) (by decide) rfl rfl (t_X12_isWay_in (σ := σ) H hi) rfl rfl (by decide) (by decide) (Nat.le_of_ble_eq_true rfl) (by decide) (by decide) ?_
  refine Z.if_neN B dX12_righted_5 (tgt := 14) rfl (by omega) (fun h5 => ?_) (fun h5 => by exfalso; first | omega | contradiction | simp_all)
  refine Z.iload_n B dX12_righted_14 (x := m) rfl ?_
  refine Z.iconst B dX12_righted_15 (v := nI 2) rfl ?_
  refine Z.icmp_lt B dX12_righted_16 (tgt := 25) rfl (fun h16 => ?_) (fun h16 => ?_)
  · skip
    refine Z.aload_n B dX12_righted_25 (v := .ref 45) rfl rfl ?_
    refine Z.bipush B dX12_righted_26 (v := (-6)) rfl ?_
    refine Z.callVI (σ := σ) B (M' := mX12_noLow) (as := [.int (-6)]) (st := []) (v := .int ((-6) - nI 1000)) dX12_righted_28 wX12_noLow iX12_noLow sX12_noLow kX12_203 (hl.n (k := 45) (by decide)) (hl.k (k := 45) (by decide)) (by decide) rfl rfl (t_X12_noLow_6 (σ := σ) hl) rfl rfl (by decide) (by decide) (Nat.le_of_ble_eq_true rfl) (by decide) (by decide) ?_
    refine Z.eqσ (τ := (zuX σ 46 (upd (zX σ 46) 6 (zX σ 46 6 + nI 1)))) rfl ?_
    refine Z.iret B Rt dX12_righted_31 (ty := .int) rfl rfl (by decide) (by decide) ?_
    exact ⟨rfl, rfl⟩
  · skip
    refine Z.iload_n B dX12_righted_19 (x := m) rfl ?_
    refine Z.bipush B dX12_righted_20 (v := nI 8) rfl ?_
    refine Z.icmp_le B dX12_righted_22 (tgt := 32) rfl (fun h22 => (hm.elim (fun h => absurd h h16) (fun h => by exfalso; rw [zle_iff] at h22; rw [zlt_iff] at h; omega))) (fun h22 => ?_)
    refine Z.aload_n B dX12_righted_25 (v := .ref 45) rfl rfl ?_
    refine Z.bipush B dX12_righted_26 (v := (-6)) rfl ?_
    refine Z.callVI (σ := σ) B (M' := mX12_noLow) (as := [.int (-6)]) (st := []) (v := .int ((-6) - nI 1000)) dX12_righted_28 wX12_noLow iX12_noLow sX12_noLow kX12_203 (hl.n (k := 45) (by decide)) (hl.k (k := 45) (by decide)) (by decide) rfl rfl (t_X12_noLow_6 (σ := σ) hl) rfl rfl (by decide) (by decide) (Nat.le_of_ble_eq_true rfl) (by decide) (by decide) ?_
    refine Z.eqσ (τ := (zuX σ 46 (upd (zX σ 46) 6 (zX σ 46 6 + nI 1)))) rfl ?_
    refine Z.iret B Rt dX12_righted_31 (ty := .int) rfl rfl (by decide) (by decide) ?_
    exact ⟨rfl, rfl⟩

theorem t_M_righted_0 {σ : zSt} (hl : Lay σ) {n a y : Nat} (H : zMd σ n a y) {od : Nat → Nat} (ho : zMo σ a od) {pos : Nat → Nat} (hpo : zPo a od pos) {i kd pa : Nat} (hi : i < y) (hw : zMy σ i kd pa) (hg : zX σ 45 28 = (-1)) {m : Nat} (hm2 : 2 ≤ m) (hm : m ≤ 8) : Dt mX12_righted [.ref 45, .int (nI i), .int (nI m)] σ (some (.int (tO (mt (am_ (mkr (slK (fun c => cn (zX σ 47) c 5) n) (min m n))) (zX σ 47) (mtf (zX σ 47) (zX σ 48) (zX σ 49) (zX σ 50) true kd pa od pos a)) n))) (zuX σ 64 (fi n (mtf (zX σ 47) (zX σ 48) (zX σ 49) (zX σ 50) true kd pa od pos a) (zX σ 64))) := by
  obtain ⟨-, hn, hn8, ha, ha4, hy, hy8⟩ := id H
  refine Dt.of (by decide) (Nat.le_of_ble_eq_true rfl) fun κ B Rt => ?_
  show Z κ 0 0 σ 0 [(0, .ref 45), (1, .int (nI i)), (2, .int (nI m))] []
  refine Z.aload_n B dX12_righted_0 (v := .ref 45) rfl rfl ?_
  refine Z.iload_n B dX12_righted_1 (x := nI i) rfl ?_
  refine Z.callVI (σ := σ) B (M' := mX12_isWay) (as := [.int (nI i)]) (st := []) (v := .int (nI 1)) dX12_righted_2 wX12_isWay iX12_isWay sX12_isWay kX12_98 (hl.n (k := 45) (by decide)) (hl.k (k := 45) (by decide)) (by decide) rfl rfl (t_X12_isWay_in (σ := σ) H hi) rfl rfl (by decide) (by decide) (Nat.le_of_ble_eq_true rfl) (by decide) (by decide) ?_
  refine Z.if_neN B dX12_righted_5 (tgt := 14) rfl (by omega) (fun h5 => ?_) (fun h5 => by exfalso; first | omega | contradiction | simp_all)
  refine Z.iload_n B dX12_righted_14 (x := nI m) rfl ?_
  refine Z.iconst B dX12_righted_15 (v := nI 2) rfl ?_
  refine Z.icmp_ltN B dX12_righted_16 (tgt := 25) rfl (by omega) (by omega) (fun h16 => by exfalso; first | omega | contradiction | simp_all) (fun h16 => ?_)
  refine Z.iload_n B dX12_righted_19 (x := nI m) rfl ?_
  refine Z.bipush B dX12_righted_20 (v := nI 8) rfl ?_
  refine Z.icmp_leN B dX12_righted_22 (tgt := 32) rfl (by omega) (by omega) (fun h22 => ?_) (fun h22 => by exfalso; first | omega | contradiction | simp_all)
  refine Z.iconst B dX12_righted_32 (v := nI 0) rfl ?_
  refine Z.istore_n B dX12_righted_33 (by decide) (L' := [(0, .ref 45), (1, .int (nI i)), (2, .int (nI m)), (3, .int (nI 0))]) rfl ?_
  refine Z.iconst B dX12_righted_34 (v := nI 0) rfl ?_
  refine Z.istore B dX12_righted_35 (by decide) (L' := [(0, .ref 45), (1, .int (nI i)), (2, .int (nI m)), (3, .int (nI 0)), (4, .int (nI 0))]) rfl ?_
  have hloop37 : ∀ k : Nat, k ≤ m ∧ k ≤ n → Z κ 0 0 σ 37 [(0, .ref 45), (1, .int (nI i)), (2, .int (nI m)), (3, .int (nI (mkr (slK (fun c => cn (zX σ 47) c 5) n) k))), (4, .int (nI k))] [] := by
    refine z_loop (fun k => m - k) (fun k ih hk => ?_)
    refine Z.iload B dX12_righted_37 (x := nI k) rfl ?_
    refine Z.iload_n B dX12_righted_39 (x := nI m) rfl ?_
    refine Z.icmp_geN B dX12_righted_40 (tgt := 136) rfl (by omega) (by omega) (fun h40 => ?_) (fun h40 => ?_)
    · skip
      obtain rfl : (min m n) = k := by omega
      refine Z.aload_n B dX12_righted_136 (v := .ref 45) rfl rfl ?_
      refine Z.iload_n B dX12_righted_137 (x := nI i) rfl ?_
      refine Z.iconst B dX12_righted_138 (v := nI 1) rfl ?_
      have etrue : nI 1 = zb true := rfl
      refine Z.callVN (σ := σ) B (M' := mX12_totals) (as := [.int (nI i), .int (zb true)]) (st := []) dX12_righted_139 wX12_totals iX12_totals sX12_totals kX12_206 (hl.n (k := 45) (by decide)) (hl.k (k := 45) (by decide)) (by decide) rfl rfl (t_X12_totals (σ := σ) H ho hpo hw (sl := true) hg) rfl rfl (by decide) (by decide) (Nat.le_of_ble_eq_true rfl) (by decide) (by decide) ?_
      refine Z.eqσ (τ := (zuX σ 64 (fi n (mtf (zX σ 47) (zX σ 48) (zX σ 49) (zX σ 50) true kd pa od pos a) (zX σ 64)))) rfl ?_
      refine Z.aload_n B dX12_righted_142 (v := .ref 45) rfl rfl ?_
      refine Z.iload_n B dX12_righted_143 (x := nI (mkr (slK (fun c => cn (zX σ 47) c 5) n) (min m n))) rfl ?_
      have hlt := slK_lt (X := (fun c => cn (zX σ 47) c 5)) (n := n) (k := min m n) (by omega) hn8
      refine Z.callVI (σ := (zuX σ 64 (fi n (mtf (zX σ 47) (zX σ 48) (zX σ 49) (zX σ 50) true kd pa od pos a) (zX σ 64)))) B (M' := mX12_tellsBy) (as := [.int (nI (mkr (slK (fun c => cn (zX σ 47) c 5) n) (min m n)))]) (st := []) (v := .int (tO (mt (am_ (mkr (slK (fun c => cn (zX σ 47) c 5) n) (min m n))) (zX σ 47) (fi n (mtf (zX σ 47) (zX σ 48) (zX σ 49) (zX σ 50) true kd pa od pos a) (zX σ 64))) n)) dX12_righted_144 wX12_tellsBy iX12_tellsBy sX12_tellsBy kX12_210 (hl.n (k := 45) (by decide)) (hl.k (k := 45) (by decide)) (by decide) rfl rfl (t_X12_tellsBy (σ := (zuX σ 64 (fi n (mtf (zX σ 47) (zX σ 48) (zX σ 49) (zX σ 50) true kd pa od pos a) (zX σ 64)))) H (mk := mkr (slK (fun c => cn (zX σ 47) c 5) n) (min m n)) (by omega)) rfl rfl (by decide) (by decide) (Nat.le_of_ble_eq_true rfl) (by decide) (by decide) ?_
      refine Z.iret B Rt dX12_righted_147 (ty := .int) rfl rfl (by decide) (by decide) ?_
      exact ⟨by rw [mt_fi], rfl⟩
    · skip
      refine Z.iload B dX12_righted_43 (x := nI k) rfl ?_
      refine Z.aload_n B dX12_righted_45 (v := .ref 45) rfl rfl ?_
      refine Z.getI (σ := σ) B fX12_81_12 dX12_righted_46 (hl.n (k := 45) (by decide)) (hl.k (k := 45) (by decide)) (by decide) (v := nI n) hn ?_
      refine Z.icmp_geN B dX12_righted_49 (tgt := 136) rfl (by omega) (by omega) (fun h49 => ?_) (fun h49 => ?_)
      · skip
        obtain rfl : (min m n) = k := by omega
        refine Z.aload_n B dX12_righted_136 (v := .ref 45) rfl rfl ?_
        refine Z.iload_n B dX12_righted_137 (x := nI i) rfl ?_
        refine Z.iconst B dX12_righted_138 (v := nI 1) rfl ?_
        have etrue : nI 1 = zb true := rfl
        refine Z.callVN (σ := σ) B (M' := mX12_totals) (as := [.int (nI i), .int (zb true)]) (st := []) dX12_righted_139 wX12_totals iX12_totals sX12_totals kX12_206 (hl.n (k := 45) (by decide)) (hl.k (k := 45) (by decide)) (by decide) rfl rfl (t_X12_totals (σ := σ) H ho hpo hw (sl := true) hg) rfl rfl (by decide) (by decide) (Nat.le_of_ble_eq_true rfl) (by decide) (by decide) ?_
        refine Z.eqσ (τ := (zuX σ 64 (fi n (mtf (zX σ 47) (zX σ 48) (zX σ 49) (zX σ 50) true kd pa od pos a) (zX σ 64)))) rfl ?_
        refine Z.aload_n B dX12_righted_142 (v := .ref 45) rfl rfl ?_
        refine Z.iload_n B dX12_righted_143 (x := nI (mkr (slK (fun c => cn (zX σ 47) c 5) n) (min m n))) rfl ?_
        have hlt := slK_lt (X := (fun c => cn (zX σ 47) c 5)) (n := n) (k := min m n) (by omega) hn8
        refine Z.callVI (σ := (zuX σ 64 (fi n (mtf (zX σ 47) (zX σ 48) (zX σ 49) (zX σ 50) true kd pa od pos a) (zX σ 64)))) B (M' := mX12_tellsBy) (as := [.int (nI (mkr (slK (fun c => cn (zX σ 47) c 5) n) (min m n)))]) (st := []) (v := .int (tO (mt (am_ (mkr (slK (fun c => cn (zX σ 47) c 5) n) (min m n))) (zX σ 47) (fi n (mtf (zX σ 47) (zX σ 48) (zX σ 49) (zX σ 50) true kd pa od pos a) (zX σ 64))) n)) dX12_righted_144 wX12_tellsBy iX12_tellsBy sX12_tellsBy kX12_210 (hl.n (k := 45) (by decide)) (hl.k (k := 45) (by decide)) (by decide) rfl rfl (t_X12_tellsBy (σ := (zuX σ 64 (fi n (mtf (zX σ 47) (zX σ 48) (zX σ 49) (zX σ 50) true kd pa od pos a) (zX σ 64)))) H (mk := mkr (slK (fun c => cn (zX σ 47) c 5) n) (min m n)) (by omega)) rfl rfl (by decide) (by decide) (Nat.le_of_ble_eq_true rfl) (by decide) (by decide) ?_
        refine Z.iret B Rt dX12_righted_147 (ty := .int) rfl rfl (by decide) (by decide) ?_
        exact ⟨by rw [mt_fi], rfl⟩
      · skip
        refine Z.iconst B dX12_righted_52 (v := (-1)) rfl ?_
        refine Z.istore B dX12_righted_53 (by decide) (L' := [(0, .ref 45), (1, .int (nI i)), (2, .int (nI m)), (3, .int (nI (mkr (slK (fun c => cn (zX σ 47) c 5) n) k))), (4, .int (nI k)), (5, .int (-1))]) rfl ?_
        refine Z.iconst B dX12_righted_55 (v := nI 0) rfl ?_
        refine Z.istore B dX12_righted_56 (by decide) (L' := [(0, .ref 45), (1, .int (nI i)), (2, .int (nI m)), (3, .int (nI (mkr (slK (fun c => cn (zX σ 47) c 5) n) k))), (4, .int (nI k)), (5, .int (-1)), (6, .int (nI 0))]) rfl ?_
        have hloop58 : ∀ v : Nat, v ≤ n → Z κ 0 0 σ 58 [(0, .ref 45), (1, .int (nI i)), (2, .int (nI m)), (3, .int (nI (mkr (slK (fun c => cn (zX σ 47) c 5) n) k))), (4, .int (nI k)), (5, .int (uV (uB (am_ (mkr (slK (fun c => cn (zX σ 47) c 5) n) k)) (fun c => cn (zX σ 47) c 5) v))), (6, .int (nI v))] [] := by
          refine z_loop (fun v => n - v) (fun v ihi hv => ?_)
          refine Z.iload B dX12_righted_58 (x := nI v) rfl ?_
          refine Z.aload_n B dX12_righted_60 (v := .ref 45) rfl rfl ?_
          refine Z.getI (σ := σ) B fX12_81_12 dX12_righted_61 (hl.n (k := 45) (by decide)) (hl.k (k := 45) (by decide)) (by decide) (v := nI n) hn ?_
          refine Z.icmp_geN B dX12_righted_64 (tgt := 123) rfl (by omega) (by omega) (fun h64 => ?_) (fun h64 => ?_)
          · skip
            obtain rfl : n = v := by omega
            rw [slK_u (by omega) hn8, uV_k]
            have hsl := ((slK_all (X := (fun c => cn (zX σ 47) c 5)) (n := n) (k + 1) (by omega)).2 k (by omega)).1
            refine Z.iload_n B dX12_righted_123 (x := nI (mkr (slK (fun c => cn (zX σ 47) c 5) n) k)) rfl ?_
            refine Z.iconst B dX12_righted_124 (v := nI 1) rfl ?_
            refine Z.iload B dX12_righted_125 (x := nI (slK (fun c => cn (zX σ 47) c 5) n k)) rfl ?_
            refine Z.ishl B dX12_righted_127 ?_
            refine Z.eqS (st' := [.int (nI (2 ^ (slK (fun c => cn (zX σ 47) c 5) n k))), .int (nI (mkr (slK (fun c => cn (zX σ 47) c 5) n) k))]) (by rw [zshl (by omega)]) ?_
            refine Z.iorv B dX12_righted_128 (v := nI (mkr (slK (fun c => cn (zX σ 47) c 5) n) (k + 1))) (nI_or _ _) ?_
            refine Z.istore_n B dX12_righted_129 (by decide) (L' := [(0, .ref 45), (1, .int (nI i)), (2, .int (nI m)), (3, .int (nI (mkr (slK (fun c => cn (zX σ 47) c 5) n) (k + 1)))), (4, .int (nI k)), (5, .int (nI (slK (fun c => cn (zX σ 47) c 5) n k))), (6, .int (nI n))]) rfl ?_
            refine Z.iincN B dX12_righted_130 (by decide) (a := k) rfl (L' := [(0, .ref 45), (1, .int (nI i)), (2, .int (nI m)), (3, .int (nI (mkr (slK (fun c => cn (zX σ 47) c 5) n) (k + 1)))), (4, .int (nI (k + 1))), (5, .int (nI (slK (fun c => cn (zX σ 47) c 5) n k))), (6, .int (nI n))]) rfl ?_
            refine Z.goto B dX12_righted_133 (tgt := 37) rfl ?_
            refine Z.drop 5 (L' := [(0, .ref 45), (1, .int (nI i)), (2, .int (nI m)), (3, .int (nI (mkr (slK (fun c => cn (zX σ 47) c 5) n) (k + 1)))), (4, .int (nI (k + 1))), (6, .int (nI n))]) rfl ?_
            refine Z.drop 6 (L' := [(0, .ref 45), (1, .int (nI i)), (2, .int (nI m)), (3, .int (nI (mkr (slK (fun c => cn (zX σ 47) c 5) n) (k + 1)))), (4, .int (nI (k + 1)))]) rfl ?_
            exact ih (k + 1) (by omega) ⟨by omega, by omega⟩
          · skip
            refine Z.iload_n B dX12_righted_67 (x := nI (mkr (slK (fun c => cn (zX σ 47) c 5) n) k)) rfl ?_
            refine Z.iload B dX12_righted_68 (x := nI v) rfl ?_
            refine Z.ishr B dX12_righted_70 ?_
            refine Z.iconst B dX12_righted_71 (v := nI 1) rfl ?_
            have hlt := slK_lt (X := (fun c => cn (zX σ 47) c 5)) (n := n) (k := k) (by omega) hn8
            refine Z.iandv B dX12_righted_72 (v := nI (mkr (slK (fun c => cn (zX σ 47) c 5) n) k / 2 ^ v % 2)) (zbit (by omega) (by omega)) ?_
            refine Z.iconst B dX12_righted_73 (v := nI 1) rfl ?_
            refine Z.icmp_neN B dX12_righted_74 (tgt := 80) rfl (by omega) (by omega) (fun h74 => ?_) (fun h74 => ?_)
            · skip
              have hbf : am_ (mkr (slK (fun c => cn (zX σ 47) c 5) n) k) v = false := decide_eq_false h74
              refine Z.iload B dX12_righted_80 (x := uV (uB (am_ (mkr (slK (fun c => cn (zX σ 47) c 5) n) k)) (fun c => cn (zX σ 47) c 5) v)) rfl ?_
              refine Z.iconst B dX12_righted_82 (v := (-1)) rfl ?_
              have hub := uB_le (am := am_ (mkr (slK (fun c => cn (zX σ 47) c 5) n) k)) (X := (fun c => cn (zX σ 47) c 5)) v
              refine Z.icmp_eq B dX12_righted_83 (tgt := 113) rfl (fun h83 => ?_) (fun h83 => ?_)
              · skip
                have h0u := (uV_n (by omega)).mp h83
                refine Z.iload B dX12_righted_113 (x := nI v) rfl ?_
                refine Z.istore B dX12_righted_115 (by decide) (L' := [(0, .ref 45), (1, .int (nI i)), (2, .int (nI m)), (3, .int (nI (mkr (slK (fun c => cn (zX σ 47) c 5) n) k))), (4, .int (nI k)), (5, .int (nI v)), (6, .int (nI v))]) rfl ?_
                refine Z.iincN B dX12_righted_117 (by decide) (a := v) rfl (L' := [(0, .ref 45), (1, .int (nI i)), (2, .int (nI m)), (3, .int (nI (mkr (slK (fun c => cn (zX σ 47) c 5) n) k))), (4, .int (nI k)), (5, .int (nI v)), (6, .int (nI (v + 1)))]) rfl ?_
                refine Z.goto B dX12_righted_120 (tgt := 58) rfl ?_
                have e := ihi (v + 1) (by omega) (by omega)
                simp only [uB] at e
                first | (rw [hbt, cond_true] at e; exact e) | (rw [hbf, cond_false, if_pos (Or.inl h0u), uV_k] at e; exact e) | (rw [hbf, cond_false, if_pos (Or.inr hcmp), uV_k] at e; exact e) | (rw [hbf, cond_false, if_neg (fun h => h.elim h0u hcmp), uV_s h0u] at e; exact e)
              · skip
                have h0u : ¬ uB (am_ (mkr (slK (fun c => cn (zX σ 47) c 5) n) k)) (fun c => cn (zX σ 47) c 5) v = 0 := fun h => h83 ((uV_n (by omega)).mpr h)
                rw [uV_s h0u]
                refine Z.aload_n B dX12_righted_86 (v := .ref 45) rfl rfl ?_
                refine Z.getR (σ := σ) B fX12_20_12 dX12_righted_87 (hl.n (k := 45) (by decide)) (hl.k (k := 45) (by decide)) (by decide) (j := 47) (hl.r (k := 45) (f := 6) (by decide) (by decide)) ?_
                refine Z.bipush B dX12_righted_90 (v := nI 6) rfl ?_
                refine Z.iload B dX12_righted_92 (x := nI v) rfl ?_
                refine Z.imulNc B dX12_righted_94 (a := 6) (b := v) ?_
                refine Z.iconst B dX12_righted_95 (v := nI 5) rfl ?_
                refine Z.iaddN B dX12_righted_96 (a := v * 6) (b := 5) ?_
                refine Z.iald (σ := σ) B dX12_righted_97 (n := 48) (hl.n (k := 47) (by decide)) (hl.k (k := 47) (by decide)) (hl.l (k := 47) (by decide)) (by decide) (j := (v * 6) + 5) rfl (by omega) (v := (zX σ 47 ((v * 6) + 5))) rfl ?_
                refine Z.aload_n B dX12_righted_98 (v := .ref 45) rfl rfl ?_
                refine Z.getR (σ := σ) B fX12_20_12 dX12_righted_99 (hl.n (k := 45) (by decide)) (hl.k (k := 45) (by decide)) (by decide) (j := 47) (hl.r (k := 45) (f := 6) (by decide) (by decide)) ?_
                refine Z.bipush B dX12_righted_102 (v := nI 6) rfl ?_
                refine Z.iload B dX12_righted_104 (x := nI (uB (am_ (mkr (slK (fun c => cn (zX σ 47) c 5) n) k)) (fun c => cn (zX σ 47) c 5) v - 1)) rfl ?_
                refine Z.imulNc B dX12_righted_106 (a := 6) (b := uB (am_ (mkr (slK (fun c => cn (zX σ 47) c 5) n) k)) (fun c => cn (zX σ 47) c 5) v - 1) ?_
                refine Z.iconst B dX12_righted_107 (v := nI 5) rfl ?_
                refine Z.iaddN B dX12_righted_108 (a := (uB (am_ (mkr (slK (fun c => cn (zX σ 47) c 5) n) k)) (fun c => cn (zX σ 47) c 5) v - 1) * 6) (b := 5) ?_
                refine Z.iald (σ := σ) B dX12_righted_109 (n := 48) (hl.n (k := 47) (by decide)) (hl.k (k := 47) (by decide)) (hl.l (k := 47) (by decide)) (by decide) (j := ((uB (am_ (mkr (slK (fun c => cn (zX σ 47) c 5) n) k)) (fun c => cn (zX σ 47) c 5) v - 1) * 6) + 5) rfl (by omega) (v := (zX σ 47 (((uB (am_ (mkr (slK (fun c => cn (zX σ 47) c 5) n) k)) (fun c => cn (zX σ 47) c 5) v - 1) * 6) + 5))) rfl ?_
                refine Z.icmp_le B dX12_righted_110 (tgt := 117) rfl (fun h110 => ?_) (fun h110 => ?_)
                · skip
                  have hcmp : ¬ (fun c => cn (zX σ 47) c 5) (uB (am_ (mkr (slK (fun c => cn (zX σ 47) c 5) n) k)) (fun c => cn (zX σ 47) c 5) v - 1) < (fun c => cn (zX σ 47) c 5) v := by show ¬ cn (zX σ 47) _ 5 < cn (zX σ 47) _ 5; rw [cn_ne (by decide), cn_ne (by decide), zlt_iff]; rw [zle_iff] at h110; omega
                  refine Z.iincN B dX12_righted_117 (by decide) (a := v) rfl (L' := [(0, .ref 45), (1, .int (nI i)), (2, .int (nI m)), (3, .int (nI (mkr (slK (fun c => cn (zX σ 47) c 5) n) k))), (4, .int (nI k)), (5, .int (nI (uB (am_ (mkr (slK (fun c => cn (zX σ 47) c 5) n) k)) (fun c => cn (zX σ 47) c 5) v - 1))), (6, .int (nI (v + 1)))]) rfl ?_
                  refine Z.goto B dX12_righted_120 (tgt := 58) rfl ?_
                  have e := ihi (v + 1) (by omega) (by omega)
                  simp only [uB] at e
                  first | (rw [hbt, cond_true] at e; exact e) | (rw [hbf, cond_false, if_pos (Or.inl h0u), uV_k] at e; exact e) | (rw [hbf, cond_false, if_pos (Or.inr hcmp), uV_k] at e; exact e) | (rw [hbf, cond_false, if_neg (fun h => h.elim h0u hcmp), uV_s h0u] at e; exact e)
                · skip
                  have hcmp : (fun c => cn (zX σ 47) c 5) (uB (am_ (mkr (slK (fun c => cn (zX σ 47) c 5) n) k)) (fun c => cn (zX σ 47) c 5) v - 1) < (fun c => cn (zX σ 47) c 5) v := by show cn (zX σ 47) _ 5 < cn (zX σ 47) _ 5; rw [cn_ne (by decide), cn_ne (by decide), zlt_iff]; rw [zle_iff] at h110; omega
                  refine Z.iload B dX12_righted_113 (x := nI v) rfl ?_
                  refine Z.istore B dX12_righted_115 (by decide) (L' := [(0, .ref 45), (1, .int (nI i)), (2, .int (nI m)), (3, .int (nI (mkr (slK (fun c => cn (zX σ 47) c 5) n) k))), (4, .int (nI k)), (5, .int (nI v)), (6, .int (nI v))]) rfl ?_
                  refine Z.iincN B dX12_righted_117 (by decide) (a := v) rfl (L' := [(0, .ref 45), (1, .int (nI i)), (2, .int (nI m)), (3, .int (nI (mkr (slK (fun c => cn (zX σ 47) c 5) n) k))), (4, .int (nI k)), (5, .int (nI v)), (6, .int (nI (v + 1)))]) rfl ?_
                  refine Z.goto B dX12_righted_120 (tgt := 58) rfl ?_
                  have e := ihi (v + 1) (by omega) (by omega)
                  simp only [uB] at e
                  first | (rw [hbt, cond_true] at e; exact e) | (rw [hbf, cond_false, if_pos (Or.inl h0u), uV_k] at e; exact e) | (rw [hbf, cond_false, if_pos (Or.inr hcmp), uV_k] at e; exact e) | (rw [hbf, cond_false, if_neg (fun h => h.elim h0u hcmp), uV_s h0u] at e; exact e)
            · skip
              have hbt : am_ (mkr (slK (fun c => cn (zX σ 47) c 5) n) k) v = true := decide_eq_true h74
              refine Z.goto B dX12_righted_77 (tgt := 117) rfl ?_
              refine Z.iincN B dX12_righted_117 (by decide) (a := v) rfl (L' := [(0, .ref 45), (1, .int (nI i)), (2, .int (nI m)), (3, .int (nI (mkr (slK (fun c => cn (zX σ 47) c 5) n) k))), (4, .int (nI k)), (5, .int (uV (uB (am_ (mkr (slK (fun c => cn (zX σ 47) c 5) n) k)) (fun c => cn (zX σ 47) c 5) v))), (6, .int (nI (v + 1)))]) rfl ?_
              refine Z.goto B dX12_righted_120 (tgt := 58) rfl ?_
              have e := ihi (v + 1) (by omega) (by omega)
              simp only [uB] at e
              first | (rw [hbt, cond_true] at e; exact e) | (rw [hbf, cond_false, if_pos (Or.inl h0u), uV_k] at e; exact e) | (rw [hbf, cond_false, if_pos (Or.inr hcmp), uV_k] at e; exact e) | (rw [hbf, cond_false, if_neg (fun h => h.elim h0u hcmp), uV_s h0u] at e; exact e)
        exact hloop58 0 (Nat.zero_le _)
  exact hloop37 0 ⟨Nat.zero_le _, Nat.zero_le _⟩

theorem t_M_lost_1 {σ : zSt} (hl : Lay σ) {n a y : Nat} (H : zMd σ n a y) {i : Int32} (hi : zOut i y) {k : Int32} : Dt mX12_lost [.ref 45, .int i, .int k] σ (some (.int (-1))) (zuX σ 46 (upd (zX σ 46) 1 (zX σ 46 1 + nI 1))) := by
  obtain ⟨-, hn, hn8, ha, ha4, hy, hy8⟩ := id H
  refine Dt.of (by decide) (Nat.le_of_ble_eq_true rfl) fun κ B Rt => ?_
  show Z κ 0 0 σ 0 [(0, .ref 45), (1, .int i), (2, .int k)] []
  refine Z.aload_n B dX12_lost_0 (v := .ref 45) rfl rfl ?_
  refine Z.iload_n B dX12_lost_1 (x := i) rfl ?_
  refine Z.callVI (σ := σ) B (M' := mX12_isWay) (as := [.int i]) (st := []) (v := .int (nI 0)) dX12_lost_2 wX12_isWay iX12_isWay sX12_isWay kX12_98 (hl.n (k := 45) (by decide)) (hl.k (k := 45) (by decide)) (by decide) rfl rfl (t_X12_isWay_out (σ := σ) H hi) rfl rfl (by decide) (by decide) (Nat.le_of_ble_eq_true rfl) (by decide) (by decide) ?_
  refine Z.if_neN B dX12_lost_5 (tgt := 14) rfl (by omega) (fun h5 => by exfalso; first | omega | contradiction | simp_all) (fun h5 => ?_)
  refine Z.aload_n B dX12_lost_8 (v := .ref 45) rfl rfl ?_
  refine Z.iconst B dX12_lost_9 (v := (-1)) rfl ?_
  refine Z.callVI (σ := σ) B (M' := mX12_no) (as := [.int (-1)]) (st := []) (v := .int (-1)) dX12_lost_10 wX12_no iX12_no sX12_no kX12_94 (hl.n (k := 45) (by decide)) (hl.k (k := 45) (by decide)) (by decide) rfl rfl (t_X12_no_1 (σ := σ) hl) rfl rfl (by decide) (by decide) (Nat.le_of_ble_eq_true rfl) (by decide) (by decide) ?_
  refine Z.eqσ (τ := (zuX σ 46 (upd (zX σ 46) 1 (zX σ 46 1 + nI 1)))) rfl ?_
  refine Z.iret B Rt dX12_lost_13 (ty := .int) rfl rfl (by decide) (by decide) ?_
  exact ⟨rfl, rfl⟩

theorem t_M_lost_5 {σ : zSt} (hl : Lay σ) {n a y : Nat} (H : zMd σ n a y) {i kd pa : Nat} (hi : i < y) (hw : zMy σ i kd pa) {k : Int32} (hk : nI n < k) : Dt mX12_lost [.ref 45, .int (nI i), .int k] σ (some (.int (-5))) (zuX σ 46 (upd (zX σ 46) 5 (zX σ 46 5 + nI 1))) := by
  obtain ⟨-, hn, hn8, ha, ha4, hy, hy8⟩ := id H
  refine Dt.of (by decide) (Nat.le_of_ble_eq_true rfl) fun κ B Rt => ?_
  show Z κ 0 0 σ 0 [(0, .ref 45), (1, .int (nI i)), (2, .int k)] []
  refine Z.aload_n B dX12_lost_0 (v := .ref 45) rfl rfl ?_
  refine Z.iload_n B dX12_lost_1 (x := nI i) rfl ?_
  refine Z.callVI (σ := σ) B (M' := mX12_isWay) (as := [.int (nI i)]) (st := []) (v := .int (nI 1)) dX12_lost_2 wX12_isWay iX12_isWay sX12_isWay kX12_98 (hl.n (k := 45) (by decide)) (hl.k (k := 45) (by decide)) (by decide) rfl rfl (t_X12_isWay_in (σ := σ) H hi) rfl rfl (by decide) (by decide) (Nat.le_of_ble_eq_true rfl) (by decide) (by decide) ?_
  refine Z.if_neN B dX12_lost_5 (tgt := 14) rfl (by omega) (fun h5 => ?_) (fun h5 => by exfalso; first | omega | contradiction | simp_all)
  refine Z.aload_n B dX12_lost_14 (v := .ref 45) rfl rfl ?_
  refine Z.getI (σ := σ) B fX12_81_12 dX12_lost_15 (hl.n (k := 45) (by decide)) (hl.k (k := 45) (by decide)) (by decide) (v := nI n) hn ?_
  refine Z.iload_n B dX12_lost_18 (x := k) rfl ?_
  refine Z.icmp_ge B dX12_lost_19 (tgt := 29) rfl (fun h19 => (by exfalso; rw [zle_iff] at h19; rw [zlt_iff] at hk; omega)) (fun h19 => ?_)
  refine Z.aload_n B dX12_lost_22 (v := .ref 45) rfl rfl ?_
  refine Z.bipush B dX12_lost_23 (v := (-5)) rfl ?_
  refine Z.callVI (σ := σ) B (M' := mX12_no) (as := [.int (-5)]) (st := []) (v := .int (-5)) dX12_lost_25 wX12_no iX12_no sX12_no kX12_94 (hl.n (k := 45) (by decide)) (hl.k (k := 45) (by decide)) (by decide) rfl rfl (t_X12_no_5 (σ := σ) hl) rfl rfl (by decide) (by decide) (Nat.le_of_ble_eq_true rfl) (by decide) (by decide) ?_
  refine Z.eqσ (τ := (zuX σ 46 (upd (zX σ 46) 5 (zX σ 46 5 + nI 1)))) rfl ?_
  refine Z.iret B Rt dX12_lost_28 (ty := .int) rfl rfl (by decide) (by decide) ?_
  exact ⟨rfl, rfl⟩

theorem t_M_lost_6 {σ : zSt} (hl : Lay σ) {n a y : Nat} (H : zMd σ n a y) {i kd pa : Nat} (hi : i < y) (hw : zMy σ i kd pa) {k : Int32} (hk : ¬ nI n < k) (hk1 : k < nI 1) : Dt mX12_lost [.ref 45, .int (nI i), .int k] σ (some (.int (-6))) (zuX σ 46 (upd (zX σ 46) 6 (zX σ 46 6 + nI 1))) := by
  obtain ⟨-, hn, hn8, ha, ha4, hy, hy8⟩ := id H
  refine Dt.of (by decide) (Nat.le_of_ble_eq_true rfl) fun κ B Rt => ?_
  show Z κ 0 0 σ 0 [(0, .ref 45), (1, .int (nI i)), (2, .int k)] []
  refine Z.aload_n B dX12_lost_0 (v := .ref 45) rfl rfl ?_
  refine Z.iload_n B dX12_lost_1 (x := nI i) rfl ?_
  refine Z.callVI (σ := σ) B (M' := mX12_isWay) (as := [.int (nI i)]) (st := []) (v := .int (nI 1)) dX12_lost_2 wX12_isWay iX12_isWay sX12_isWay kX12_98 (hl.n (k := 45) (by decide)) (hl.k (k := 45) (by decide)) (by decide) rfl rfl (t_X12_isWay_in (σ := σ) H hi) rfl rfl (by decide) (by decide) (Nat.le_of_ble_eq_true rfl) (by decide) (by decide) ?_
  refine Z.if_neN B dX12_lost_5 (tgt := 14) rfl (by omega) (fun h5 => ?_) (fun h5 => by exfalso; first | omega | contradiction | simp_all)
  refine Z.aload_n B dX12_lost_14 (v := .ref 45) rfl rfl ?_
  refine Z.getI (σ := σ) B fX12_81_12 dX12_lost_15 (hl.n (k := 45) (by decide)) (hl.k (k := 45) (by decide)) (by decide) (v := nI n) hn ?_
  refine Z.iload_n B dX12_lost_18 (x := k) rfl ?_
  refine Z.icmp_ge B dX12_lost_19 (tgt := 29) rfl (fun h19 => ?_) (fun h19 => (by exfalso; rw [zle_iff] at h19; rw [zlt_iff] at hk; omega))
  refine Z.iload_n B dX12_lost_29 (x := k) rfl ?_
  refine Z.iconst B dX12_lost_30 (v := nI 1) rfl ?_
  refine Z.icmp_lt B dX12_lost_31 (tgt := 40) rfl (fun h31 => ?_) (fun h31 => absurd hk1 h31)
  refine Z.aload_n B dX12_lost_40 (v := .ref 45) rfl rfl ?_
  refine Z.bipush B dX12_lost_41 (v := (-6)) rfl ?_
  refine Z.callVI (σ := σ) B (M' := mX12_no) (as := [.int (-6)]) (st := []) (v := .int (-6)) dX12_lost_43 wX12_no iX12_no sX12_no kX12_94 (hl.n (k := 45) (by decide)) (hl.k (k := 45) (by decide)) (by decide) rfl rfl (t_X12_no_6 (σ := σ) hl) rfl rfl (by decide) (by decide) (Nat.le_of_ble_eq_true rfl) (by decide) (by decide) ?_
  refine Z.eqσ (τ := (zuX σ 46 (upd (zX σ 46) 6 (zX σ 46 6 + nI 1)))) rfl ?_
  refine Z.iret B Rt dX12_lost_46 (ty := .int) rfl rfl (by decide) (by decide) ?_
  exact ⟨rfl, rfl⟩

theorem t_M_lost_0 {σ : zSt} (hl : Lay σ) {n a y : Nat} (H : zMd σ n a y) {od : Nat → Nat} (ho : zMo σ a od) {pos : Nat → Nat} (hpo : zPo a od pos) {i kd pa : Nat} (hi : i < y) (hw : zMy σ i kd pa) (hg : zX σ 45 28 = (-1)) {k : Nat} (hk : k ≤ n) (hk1 : 1 ≤ k) : Dt mX12_lost [.ref 45, .int (nI i), .int (nI k)] σ (some (.int (nI k * cn (zX σ 47) (ga (fun c => cn (zX σ 47) c 6) (n - 1)) 6 - sm (fun t => cn (zX σ 47) (slK (mtf (zX σ 47) (zX σ 48) (zX σ 49) (zX σ 50) true kd pa od pos a) n t) 6) k))) σ := by
  obtain ⟨-, hn, hn8, ha, ha4, hy, hy8⟩ := id H
  refine Dt.of (by decide) (Nat.le_of_ble_eq_true rfl) fun κ B Rt => ?_
  show Z κ 0 0 σ 0 [(0, .ref 45), (1, .int (nI i)), (2, .int (nI k))] []
  refine Z.aload_n B dX12_lost_0 (v := .ref 45) rfl rfl ?_
  refine Z.iload_n B dX12_lost_1 (x := nI i) rfl ?_
  refine Z.callVI (σ := σ) B (M' := mX12_isWay) (as := [.int (nI i)]) (st := []) (v := .int (nI 1)) dX12_lost_2 wX12_isWay iX12_isWay sX12_isWay kX12_98 (hl.n (k := 45) (by decide)) (hl.k (k := 45) (by decide)) (by decide) rfl rfl (t_X12_isWay_in (σ := σ) H hi) rfl rfl (by decide) (by decide) (Nat.le_of_ble_eq_true rfl) (by decide) (by decide) ?_
  refine Z.if_neN B dX12_lost_5 (tgt := 14) rfl (by omega) (fun h5 => ?_) (fun h5 => by exfalso; first | omega | contradiction | simp_all)
  refine Z.aload_n B dX12_lost_14 (v := .ref 45) rfl rfl ?_
  refine Z.getI (σ := σ) B fX12_81_12 dX12_lost_15 (hl.n (k := 45) (by decide)) (hl.k (k := 45) (by decide)) (by decide) (v := nI n) hn ?_
  refine Z.iload_n B dX12_lost_18 (x := nI k) rfl ?_
  refine Z.icmp_geN B dX12_lost_19 (tgt := 29) rfl (by omega) (by omega) (fun h19 => ?_) (fun h19 => by exfalso; first | omega | contradiction | simp_all)
  refine Z.iload_n B dX12_lost_29 (x := nI k) rfl ?_
  refine Z.iconst B dX12_lost_30 (v := nI 1) rfl ?_
  refine Z.icmp_ltN B dX12_lost_31 (tgt := 40) rfl (by omega) (by omega) (fun h31 => by exfalso; first | omega | contradiction | simp_all) (fun h31 => ?_)
  refine Z.iload_n B dX12_lost_34 (x := nI k) rfl ?_
  refine Z.bipush B dX12_lost_35 (v := nI 8) rfl ?_
  refine Z.icmp_leN B dX12_lost_37 (tgt := 47) rfl (by omega) (by omega) (fun h37 => ?_) (fun h37 => by exfalso; first | omega | contradiction | simp_all)
  refine Z.iconst B dX12_lost_47 (v := nI 0) rfl ?_
  refine Z.istore_n B dX12_lost_48 (by decide) (L' := [(0, .ref 45), (1, .int (nI i)), (2, .int (nI k)), (3, .int (nI 0))]) rfl ?_
  refine Z.iconst B dX12_lost_49 (v := nI 0) rfl ?_
  refine Z.istore B dX12_lost_50 (by decide) (L' := [(0, .ref 45), (1, .int (nI i)), (2, .int (nI k)), (3, .int (nI 0)), (4, .int (nI 0))]) rfl ?_
  refine Z.iconst B dX12_lost_52 (v := nI 0) rfl ?_
  refine Z.istore B dX12_lost_53 (by decide) (L' := [(0, .ref 45), (1, .int (nI i)), (2, .int (nI k)), (3, .int (nI 0)), (4, .int (nI 0)), (5, .int (nI 0))]) rfl ?_
  have hloop55 : ∀ t : Nat, t ≤ k → Z κ 0 0 σ 55 [(0, .ref 45), (1, .int (nI i)), (2, .int (nI k)), (3, .int (nI (mkr (slK (mtf (zX σ 47) (zX σ 48) (zX σ 49) (zX σ 50) true kd pa od pos a) n) t))), (4, .int (sm (fun t => cn (zX σ 47) (slK (mtf (zX σ 47) (zX σ 48) (zX σ 49) (zX σ 50) true kd pa od pos a) n t) 6) t)), (5, .int (nI t))] [] := by
    refine z_loop (fun t => k - t) (fun t ih ht => ?_)
    refine Z.iload B dX12_lost_55 (x := nI t) rfl ?_
    refine Z.iload_n B dX12_lost_57 (x := nI k) rfl ?_
    refine Z.icmp_geN B dX12_lost_58 (tgt := 148) rfl (by omega) (by omega) (fun h58 => ?_) (fun h58 => ?_)
    · skip
      obtain rfl : k = t := by omega
      refine Z.iload_n B dX12_lost_148 (x := nI k) rfl ?_
      refine Z.aload_n B dX12_lost_149 (v := .ref 45) rfl rfl ?_
      refine Z.aload_n B dX12_lost_150 (v := .ref 45) rfl rfl ?_
      refine Z.callVI (σ := σ) B (M' := mX12_bestNow) (as := []) (st := [.ref 45, .int (nI k)]) (v := .int (nI (ga (fun c => cn (zX σ 47) c 6) (n - 1)))) dX12_lost_151 wX12_bestNow iX12_bestNow sX12_bestNow kX12_200 (hl.n (k := 45) (by decide)) (hl.k (k := 45) (by decide)) (by decide) rfl rfl (t_X12_bestNow (σ := σ) H (by omega)) rfl rfl (by decide) (by decide) (Nat.le_of_ble_eq_true rfl) (by decide) (by decide) ?_
      have hg1 := ga_lt (f := (fun c => cn (zX σ 47) c 6)) (n := n) (by omega)
      refine Z.callVI (σ := σ) B (M' := mX12_sumOf) (as := [.int (nI (ga (fun c => cn (zX σ 47) c 6) (n - 1)))]) (st := [.int (nI k)]) (v := .int (cn (zX σ 47) (ga (fun c => cn (zX σ 47) c 6) (n - 1)) 6)) dX12_lost_154 wX12_sumOf iX12_sumOf sX12_sumOf kX12_101 (hl.n (k := 45) (by decide)) (hl.k (k := 45) (by decide)) (by decide) rfl rfl (t_X12_sumOf (σ := σ) H (c := ga (fun c => cn (zX σ 47) c 6) (n - 1)) (by omega)) rfl rfl (by decide) (by decide) (Nat.le_of_ble_eq_true rfl) (by decide) (by decide) ?_
      refine Z.imul B dX12_lost_157 ?_
      refine Z.iload B dX12_lost_158 (x := sm (fun k => cn (zX σ 47) (slK (mtf (zX σ 47) (zX σ 48) (zX σ 49) (zX σ 50) true kd pa od pos a) n k) 6) k) rfl ?_
      refine Z.isub B dX12_lost_160 ?_
      refine Z.iret B Rt dX12_lost_161 (ty := .int) rfl rfl (by decide) (by decide) ?_
      exact ⟨rfl, rfl⟩
    · skip
      refine Z.iconst B dX12_lost_61 (v := (-1)) rfl ?_
      refine Z.istore B dX12_lost_62 (by decide) (L' := [(0, .ref 45), (1, .int (nI i)), (2, .int (nI k)), (3, .int (nI (mkr (slK (mtf (zX σ 47) (zX σ 48) (zX σ 49) (zX σ 50) true kd pa od pos a) n) t))), (4, .int (sm (fun t => cn (zX σ 47) (slK (mtf (zX σ 47) (zX σ 48) (zX σ 49) (zX σ 50) true kd pa od pos a) n t) 6) t)), (5, .int (nI t)), (6, .int (-1))]) rfl ?_
      refine Z.iconst B dX12_lost_64 (v := nI 0) rfl ?_
      refine Z.istore B dX12_lost_65 (by decide) (L' := [(0, .ref 45), (1, .int (nI i)), (2, .int (nI k)), (3, .int (nI (mkr (slK (mtf (zX σ 47) (zX σ 48) (zX σ 49) (zX σ 50) true kd pa od pos a) n) t))), (4, .int (sm (fun t => cn (zX σ 47) (slK (mtf (zX σ 47) (zX σ 48) (zX σ 49) (zX σ 50) true kd pa od pos a) n t) 6) t)), (5, .int (nI t)), (6, .int (-1)), (7, .int (nI 0))]) rfl ?_
      have hloop67 : ∀ v : Nat, v ≤ n → Z κ 0 0 σ 67 [(0, .ref 45), (1, .int (nI i)), (2, .int (nI k)), (3, .int (nI (mkr (slK (mtf (zX σ 47) (zX σ 48) (zX σ 49) (zX σ 50) true kd pa od pos a) n) t))), (4, .int (sm (fun t => cn (zX σ 47) (slK (mtf (zX σ 47) (zX σ 48) (zX σ 49) (zX σ 50) true kd pa od pos a) n t) 6) t)), (5, .int (nI t)), (6, .int (uV (uB (am_ (mkr (slK (mtf (zX σ 47) (zX σ 48) (zX σ 49) (zX σ 50) true kd pa od pos a) n) t)) (mtf (zX σ 47) (zX σ 48) (zX σ 49) (zX σ 50) true kd pa od pos a) v))), (7, .int (nI v))] [] := by
        refine z_loop (fun v => n - v) (fun v ihi hv => ?_)
        refine Z.iload B dX12_lost_67 (x := nI v) rfl ?_
        refine Z.aload_n B dX12_lost_69 (v := .ref 45) rfl rfl ?_
        refine Z.getI (σ := σ) B fX12_81_12 dX12_lost_70 (hl.n (k := 45) (by decide)) (hl.k (k := 45) (by decide)) (by decide) (v := nI n) hn ?_
        refine Z.icmp_geN B dX12_lost_73 (tgt := 124) rfl (by omega) (by omega) (fun h73 => ?_) (fun h73 => ?_)
        · skip
          obtain rfl : n = v := by omega
          rw [slK_u (by omega) hn8, uV_k]
          have hsl := ((slK_all (X := (mtf (zX σ 47) (zX σ 48) (zX σ 49) (zX σ 50) true kd pa od pos a)) (n := n) (t + 1) (by omega)).2 t (by omega)).1
          refine Z.iload_n B dX12_lost_124 (x := nI (mkr (slK (mtf (zX σ 47) (zX σ 48) (zX σ 49) (zX σ 50) true kd pa od pos a) n) t)) rfl ?_
          refine Z.iconst B dX12_lost_125 (v := nI 1) rfl ?_
          refine Z.iload B dX12_lost_126 (x := nI (slK (mtf (zX σ 47) (zX σ 48) (zX σ 49) (zX σ 50) true kd pa od pos a) n t)) rfl ?_
          refine Z.ishl B dX12_lost_128 ?_
          refine Z.eqS (st' := [.int (nI (2 ^ (slK (mtf (zX σ 47) (zX σ 48) (zX σ 49) (zX σ 50) true kd pa od pos a) n t))), .int (nI (mkr (slK (mtf (zX σ 47) (zX σ 48) (zX σ 49) (zX σ 50) true kd pa od pos a) n) t))]) (by rw [zshl (by omega)]) ?_
          refine Z.iorv B dX12_lost_129 (v := nI (mkr (slK (mtf (zX σ 47) (zX σ 48) (zX σ 49) (zX σ 50) true kd pa od pos a) n) (t + 1))) (nI_or _ _) ?_
          refine Z.istore_n B dX12_lost_130 (by decide) (L' := [(0, .ref 45), (1, .int (nI i)), (2, .int (nI k)), (3, .int (nI (mkr (slK (mtf (zX σ 47) (zX σ 48) (zX σ 49) (zX σ 50) true kd pa od pos a) n) (t + 1)))), (4, .int (sm (fun t => cn (zX σ 47) (slK (mtf (zX σ 47) (zX σ 48) (zX σ 49) (zX σ 50) true kd pa od pos a) n t) 6) t)), (5, .int (nI t)), (6, .int (nI (slK (mtf (zX σ 47) (zX σ 48) (zX σ 49) (zX σ 50) true kd pa od pos a) n t))), (7, .int (nI n))]) rfl ?_
          refine Z.iload B dX12_lost_131 (x := sm (fun t => cn (zX σ 47) (slK (mtf (zX σ 47) (zX σ 48) (zX σ 49) (zX σ 50) true kd pa od pos a) n t) 6) t) rfl ?_
          refine Z.aload_n B dX12_lost_133 (v := .ref 45) rfl rfl ?_
          refine Z.iload B dX12_lost_134 (x := nI (slK (mtf (zX σ 47) (zX σ 48) (zX σ 49) (zX σ 50) true kd pa od pos a) n t)) rfl ?_
          refine Z.callVI (σ := σ) B (M' := mX12_sumOf) (as := [.int (nI (slK (mtf (zX σ 47) (zX σ 48) (zX σ 49) (zX σ 50) true kd pa od pos a) n t))]) (st := [.int (sm (fun t => cn (zX σ 47) (slK (mtf (zX σ 47) (zX σ 48) (zX σ 49) (zX σ 50) true kd pa od pos a) n t) 6) t)]) (v := .int (cn (zX σ 47) (slK (mtf (zX σ 47) (zX σ 48) (zX σ 49) (zX σ 50) true kd pa od pos a) n t) 6)) dX12_lost_136 wX12_sumOf iX12_sumOf sX12_sumOf kX12_101 (hl.n (k := 45) (by decide)) (hl.k (k := 45) (by decide)) (by decide) rfl rfl (t_X12_sumOf (σ := σ) H (c := slK (mtf (zX σ 47) (zX σ 48) (zX σ 49) (zX σ 50) true kd pa od pos a) n t) (by omega)) rfl rfl (by decide) (by decide) (Nat.le_of_ble_eq_true rfl) (by decide) (by decide) ?_
          refine Z.iadd B dX12_lost_139 ?_
          refine Z.istore B dX12_lost_140 (by decide) (L' := [(0, .ref 45), (1, .int (nI i)), (2, .int (nI k)), (3, .int (nI (mkr (slK (mtf (zX σ 47) (zX σ 48) (zX σ 49) (zX σ 50) true kd pa od pos a) n) (t + 1)))), (4, .int ((sm (fun t => cn (zX σ 47) (slK (mtf (zX σ 47) (zX σ 48) (zX σ 49) (zX σ 50) true kd pa od pos a) n t) 6) t) + (cn (zX σ 47) (slK (mtf (zX σ 47) (zX σ 48) (zX σ 49) (zX σ 50) true kd pa od pos a) n t) 6))), (5, .int (nI t)), (6, .int (nI (slK (mtf (zX σ 47) (zX σ 48) (zX σ 49) (zX σ 50) true kd pa od pos a) n t))), (7, .int (nI n))]) rfl ?_
          refine Z.iincN B dX12_lost_142 (by decide) (a := t) rfl (L' := [(0, .ref 45), (1, .int (nI i)), (2, .int (nI k)), (3, .int (nI (mkr (slK (mtf (zX σ 47) (zX σ 48) (zX σ 49) (zX σ 50) true kd pa od pos a) n) (t + 1)))), (4, .int ((sm (fun t => cn (zX σ 47) (slK (mtf (zX σ 47) (zX σ 48) (zX σ 49) (zX σ 50) true kd pa od pos a) n t) 6) t) + (cn (zX σ 47) (slK (mtf (zX σ 47) (zX σ 48) (zX σ 49) (zX σ 50) true kd pa od pos a) n t) 6))), (5, .int (nI (t + 1))), (6, .int (nI (slK (mtf (zX σ 47) (zX σ 48) (zX σ 49) (zX σ 50) true kd pa od pos a) n t))), (7, .int (nI n))]) rfl ?_
          refine Z.goto B dX12_lost_145 (tgt := 55) rfl ?_
          refine Z.drop 6 (L' := [(0, .ref 45), (1, .int (nI i)), (2, .int (nI k)), (3, .int (nI (mkr (slK (mtf (zX σ 47) (zX σ 48) (zX σ 49) (zX σ 50) true kd pa od pos a) n) (t + 1)))), (4, .int ((sm (fun t => cn (zX σ 47) (slK (mtf (zX σ 47) (zX σ 48) (zX σ 49) (zX σ 50) true kd pa od pos a) n t) 6) t) + (cn (zX σ 47) (slK (mtf (zX σ 47) (zX σ 48) (zX σ 49) (zX σ 50) true kd pa od pos a) n t) 6))), (5, .int (nI (t + 1))), (7, .int (nI n))]) rfl ?_
          refine Z.drop 7 (L' := [(0, .ref 45), (1, .int (nI i)), (2, .int (nI k)), (3, .int (nI (mkr (slK (mtf (zX σ 47) (zX σ 48) (zX σ 49) (zX σ 50) true kd pa od pos a) n) (t + 1)))), (4, .int ((sm (fun t => cn (zX σ 47) (slK (mtf (zX σ 47) (zX σ 48) (zX σ 49) (zX σ 50) true kd pa od pos a) n t) 6) t) + (cn (zX σ 47) (slK (mtf (zX σ 47) (zX σ 48) (zX σ 49) (zX σ 50) true kd pa od pos a) n t) 6))), (5, .int (nI (t + 1)))]) rfl ?_
          exact ih (t + 1) (by omega) (by omega)
        · skip
          refine Z.iload_n B dX12_lost_76 (x := nI (mkr (slK (mtf (zX σ 47) (zX σ 48) (zX σ 49) (zX σ 50) true kd pa od pos a) n) t)) rfl ?_
          refine Z.iload B dX12_lost_77 (x := nI v) rfl ?_
          refine Z.ishr B dX12_lost_79 ?_
          refine Z.iconst B dX12_lost_80 (v := nI 1) rfl ?_
          have hlt := slK_lt (X := (mtf (zX σ 47) (zX σ 48) (zX σ 49) (zX σ 50) true kd pa od pos a)) (n := n) (k := t) (by omega) hn8
          refine Z.iandv B dX12_lost_81 (v := nI (mkr (slK (mtf (zX σ 47) (zX σ 48) (zX σ 49) (zX σ 50) true kd pa od pos a) n) t / 2 ^ v % 2)) (zbit (by omega) (by omega)) ?_
          refine Z.iconst B dX12_lost_82 (v := nI 1) rfl ?_
          refine Z.icmp_neN B dX12_lost_83 (tgt := 89) rfl (by omega) (by omega) (fun h83 => ?_) (fun h83 => ?_)
          · skip
            have hbf : am_ (mkr (slK (mtf (zX σ 47) (zX σ 48) (zX σ 49) (zX σ 50) true kd pa od pos a) n) t) v = false := decide_eq_false h83
            refine Z.iload B dX12_lost_89 (x := uV (uB (am_ (mkr (slK (mtf (zX σ 47) (zX σ 48) (zX σ 49) (zX σ 50) true kd pa od pos a) n) t)) (mtf (zX σ 47) (zX σ 48) (zX σ 49) (zX σ 50) true kd pa od pos a) v)) rfl ?_
            refine Z.iconst B dX12_lost_91 (v := (-1)) rfl ?_
            have hub := uB_le (am := am_ (mkr (slK (mtf (zX σ 47) (zX σ 48) (zX σ 49) (zX σ 50) true kd pa od pos a) n) t)) (X := (mtf (zX σ 47) (zX σ 48) (zX σ 49) (zX σ 50) true kd pa od pos a)) v
            refine Z.icmp_eq B dX12_lost_92 (tgt := 114) rfl (fun h92 => ?_) (fun h92 => ?_)
            · skip
              have h0u := (uV_n (by omega)).mp h92
              refine Z.iload B dX12_lost_114 (x := nI v) rfl ?_
              refine Z.istore B dX12_lost_116 (by decide) (L' := [(0, .ref 45), (1, .int (nI i)), (2, .int (nI k)), (3, .int (nI (mkr (slK (mtf (zX σ 47) (zX σ 48) (zX σ 49) (zX σ 50) true kd pa od pos a) n) t))), (4, .int (sm (fun t => cn (zX σ 47) (slK (mtf (zX σ 47) (zX σ 48) (zX σ 49) (zX σ 50) true kd pa od pos a) n t) 6) t)), (5, .int (nI t)), (6, .int (nI v)), (7, .int (nI v))]) rfl ?_
              refine Z.iincN B dX12_lost_118 (by decide) (a := v) rfl (L' := [(0, .ref 45), (1, .int (nI i)), (2, .int (nI k)), (3, .int (nI (mkr (slK (mtf (zX σ 47) (zX σ 48) (zX σ 49) (zX σ 50) true kd pa od pos a) n) t))), (4, .int (sm (fun t => cn (zX σ 47) (slK (mtf (zX σ 47) (zX σ 48) (zX σ 49) (zX σ 50) true kd pa od pos a) n t) 6) t)), (5, .int (nI t)), (6, .int (nI v)), (7, .int (nI (v + 1)))]) rfl ?_
              refine Z.goto B dX12_lost_121 (tgt := 67) rfl ?_
              have e := ihi (v + 1) (by omega) (by omega)
              simp only [uB] at e
              first | (rw [hbt, cond_true] at e; exact e) | (rw [hbf, cond_false, if_pos (Or.inl h0u), uV_k] at e; exact e) | (rw [hbf, cond_false, if_pos (Or.inr hcmp), uV_k] at e; exact e) | (rw [hbf, cond_false, if_neg (fun h => h.elim h0u hcmp), uV_s h0u] at e; exact e)
            · skip
              have h0u : ¬ uB (am_ (mkr (slK (mtf (zX σ 47) (zX σ 48) (zX σ 49) (zX σ 50) true kd pa od pos a) n) t)) (mtf (zX σ 47) (zX σ 48) (zX σ 49) (zX σ 50) true kd pa od pos a) v = 0 := fun h => h92 ((uV_n (by omega)).mpr h)
              rw [uV_s h0u]
              refine Z.aload_n B dX12_lost_95 (v := .ref 45) rfl rfl ?_
              refine Z.iload_n B dX12_lost_96 (x := nI i) rfl ?_
              refine Z.iconst B dX12_lost_97 (v := nI 1) rfl ?_
              refine Z.iload B dX12_lost_98 (x := nI v) rfl ?_
              have etrue : nI 1 = zb true := rfl
              refine Z.callVI (σ := σ) B (M' := mX12_totalBy) (as := [.int (nI i), .int (zb true), .int (nI v)]) (st := []) (v := .int ((mtf (zX σ 47) (zX σ 48) (zX σ 49) (zX σ 50) true kd pa od pos a) v)) dX12_lost_100 wX12_totalBy iX12_totalBy sX12_totalBy kX12_193 (hl.n (k := 45) (by decide)) (hl.k (k := 45) (by decide)) (by decide) rfl rfl (t_X12_totalBy (σ := σ) H ho hpo hw hg (sl := true) (c := v) (by omega)) rfl rfl (by decide) (by decide) (Nat.le_of_ble_eq_true rfl) (by decide) (by decide) ?_
              refine Z.aload_n B dX12_lost_103 (v := .ref 45) rfl rfl ?_
              refine Z.iload_n B dX12_lost_104 (x := nI i) rfl ?_
              refine Z.iconst B dX12_lost_105 (v := nI 1) rfl ?_
              refine Z.iload B dX12_lost_106 (x := nI (uB (am_ (mkr (slK (mtf (zX σ 47) (zX σ 48) (zX σ 49) (zX σ 50) true kd pa od pos a) n) t)) (mtf (zX σ 47) (zX σ 48) (zX σ 49) (zX σ 50) true kd pa od pos a) v - 1)) rfl ?_
              refine Z.callVI (σ := σ) B (M' := mX12_totalBy) (as := [.int (nI i), .int (zb true), .int (nI (uB (am_ (mkr (slK (mtf (zX σ 47) (zX σ 48) (zX σ 49) (zX σ 50) true kd pa od pos a) n) t)) (mtf (zX σ 47) (zX σ 48) (zX σ 49) (zX σ 50) true kd pa od pos a) v - 1))]) (st := [.int ((mtf (zX σ 47) (zX σ 48) (zX σ 49) (zX σ 50) true kd pa od pos a) v)]) (v := .int ((mtf (zX σ 47) (zX σ 48) (zX σ 49) (zX σ 50) true kd pa od pos a) (uB (am_ (mkr (slK (mtf (zX σ 47) (zX σ 48) (zX σ 49) (zX σ 50) true kd pa od pos a) n) t)) (mtf (zX σ 47) (zX σ 48) (zX σ 49) (zX σ 50) true kd pa od pos a) v - 1))) dX12_lost_108 wX12_totalBy iX12_totalBy sX12_totalBy kX12_193 (hl.n (k := 45) (by decide)) (hl.k (k := 45) (by decide)) (by decide) rfl rfl (t_X12_totalBy (σ := σ) H ho hpo hw hg (sl := true) (c := uB (am_ (mkr (slK (mtf (zX σ 47) (zX σ 48) (zX σ 49) (zX σ 50) true kd pa od pos a) n) t)) (mtf (zX σ 47) (zX σ 48) (zX σ 49) (zX σ 50) true kd pa od pos a) v - 1) (by omega)) rfl rfl (by decide) (by decide) (Nat.le_of_ble_eq_true rfl) (by decide) (by decide) ?_
              refine Z.icmp_le B dX12_lost_111 (tgt := 118) rfl (fun h111 => ?_) (fun h111 => ?_)
              · skip
                have hcmp : ¬ (mtf (zX σ 47) (zX σ 48) (zX σ 49) (zX σ 50) true kd pa od pos a) (uB (am_ (mkr (slK (mtf (zX σ 47) (zX σ 48) (zX σ 49) (zX σ 50) true kd pa od pos a) n) t)) (mtf (zX σ 47) (zX σ 48) (zX σ 49) (zX σ 50) true kd pa od pos a) v - 1) < (mtf (zX σ 47) (zX σ 48) (zX σ 49) (zX σ 50) true kd pa od pos a) v := by rw [zlt_iff]; rw [zle_iff] at h111; omega
                refine Z.iincN B dX12_lost_118 (by decide) (a := v) rfl (L' := [(0, .ref 45), (1, .int (nI i)), (2, .int (nI k)), (3, .int (nI (mkr (slK (mtf (zX σ 47) (zX σ 48) (zX σ 49) (zX σ 50) true kd pa od pos a) n) t))), (4, .int (sm (fun t => cn (zX σ 47) (slK (mtf (zX σ 47) (zX σ 48) (zX σ 49) (zX σ 50) true kd pa od pos a) n t) 6) t)), (5, .int (nI t)), (6, .int (nI (uB (am_ (mkr (slK (mtf (zX σ 47) (zX σ 48) (zX σ 49) (zX σ 50) true kd pa od pos a) n) t)) (mtf (zX σ 47) (zX σ 48) (zX σ 49) (zX σ 50) true kd pa od pos a) v - 1))), (7, .int (nI (v + 1)))]) rfl ?_
                refine Z.goto B dX12_lost_121 (tgt := 67) rfl ?_
                have e := ihi (v + 1) (by omega) (by omega)
                simp only [uB] at e
                first | (rw [hbt, cond_true] at e; exact e) | (rw [hbf, cond_false, if_pos (Or.inl h0u), uV_k] at e; exact e) | (rw [hbf, cond_false, if_pos (Or.inr hcmp), uV_k] at e; exact e) | (rw [hbf, cond_false, if_neg (fun h => h.elim h0u hcmp), uV_s h0u] at e; exact e)
              · skip
                have hcmp : (mtf (zX σ 47) (zX σ 48) (zX σ 49) (zX σ 50) true kd pa od pos a) (uB (am_ (mkr (slK (mtf (zX σ 47) (zX σ 48) (zX σ 49) (zX σ 50) true kd pa od pos a) n) t)) (mtf (zX σ 47) (zX σ 48) (zX σ 49) (zX σ 50) true kd pa od pos a) v - 1) < (mtf (zX σ 47) (zX σ 48) (zX σ 49) (zX σ 50) true kd pa od pos a) v := by rw [zlt_iff]; rw [zle_iff] at h111; omega
                refine Z.iload B dX12_lost_114 (x := nI v) rfl ?_
                refine Z.istore B dX12_lost_116 (by decide) (L' := [(0, .ref 45), (1, .int (nI i)), (2, .int (nI k)), (3, .int (nI (mkr (slK (mtf (zX σ 47) (zX σ 48) (zX σ 49) (zX σ 50) true kd pa od pos a) n) t))), (4, .int (sm (fun t => cn (zX σ 47) (slK (mtf (zX σ 47) (zX σ 48) (zX σ 49) (zX σ 50) true kd pa od pos a) n t) 6) t)), (5, .int (nI t)), (6, .int (nI v)), (7, .int (nI v))]) rfl ?_
                refine Z.iincN B dX12_lost_118 (by decide) (a := v) rfl (L' := [(0, .ref 45), (1, .int (nI i)), (2, .int (nI k)), (3, .int (nI (mkr (slK (mtf (zX σ 47) (zX σ 48) (zX σ 49) (zX σ 50) true kd pa od pos a) n) t))), (4, .int (sm (fun t => cn (zX σ 47) (slK (mtf (zX σ 47) (zX σ 48) (zX σ 49) (zX σ 50) true kd pa od pos a) n t) 6) t)), (5, .int (nI t)), (6, .int (nI v)), (7, .int (nI (v + 1)))]) rfl ?_
                refine Z.goto B dX12_lost_121 (tgt := 67) rfl ?_
                have e := ihi (v + 1) (by omega) (by omega)
                simp only [uB] at e
                first | (rw [hbt, cond_true] at e; exact e) | (rw [hbf, cond_false, if_pos (Or.inl h0u), uV_k] at e; exact e) | (rw [hbf, cond_false, if_pos (Or.inr hcmp), uV_k] at e; exact e) | (rw [hbf, cond_false, if_neg (fun h => h.elim h0u hcmp), uV_s h0u] at e; exact e)
          · skip
            have hbt : am_ (mkr (slK (mtf (zX σ 47) (zX σ 48) (zX σ 49) (zX σ 50) true kd pa od pos a) n) t) v = true := decide_eq_true h83
            refine Z.goto B dX12_lost_86 (tgt := 118) rfl ?_
            refine Z.iincN B dX12_lost_118 (by decide) (a := v) rfl (L' := [(0, .ref 45), (1, .int (nI i)), (2, .int (nI k)), (3, .int (nI (mkr (slK (mtf (zX σ 47) (zX σ 48) (zX σ 49) (zX σ 50) true kd pa od pos a) n) t))), (4, .int (sm (fun t => cn (zX σ 47) (slK (mtf (zX σ 47) (zX σ 48) (zX σ 49) (zX σ 50) true kd pa od pos a) n t) 6) t)), (5, .int (nI t)), (6, .int (uV (uB (am_ (mkr (slK (mtf (zX σ 47) (zX σ 48) (zX σ 49) (zX σ 50) true kd pa od pos a) n) t)) (mtf (zX σ 47) (zX σ 48) (zX σ 49) (zX σ 50) true kd pa od pos a) v))), (7, .int (nI (v + 1)))]) rfl ?_
            refine Z.goto B dX12_lost_121 (tgt := 67) rfl ?_
            have e := ihi (v + 1) (by omega) (by omega)
            simp only [uB] at e
            first | (rw [hbt, cond_true] at e; exact e) | (rw [hbf, cond_false, if_pos (Or.inl h0u), uV_k] at e; exact e) | (rw [hbf, cond_false, if_pos (Or.inr hcmp), uV_k] at e; exact e) | (rw [hbf, cond_false, if_neg (fun h => h.elim h0u hcmp), uV_s h0u] at e; exact e)
      exact hloop67 0 (Nat.zero_le _)
  exact hloop55 0 (Nat.zero_le _)
