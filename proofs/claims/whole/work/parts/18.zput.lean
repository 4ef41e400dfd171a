/-! righted, lost, heads, drawn comers; what is put into a house -/
theorem nI_dec2 {k : Nat} (h : 0 < k) : nI k + Int32.ofInt (-1) = nI (k - 1) := by
  obtain ⟨m, rfl⟩ : ∃ m, k = m + 1 := ⟨k - 1, by omega⟩
  exact nI_dec m
theorem upd_id {f : Nat → Int32} {i : Nat} : upd f i (f i) = f := by
  funext j
  simp only [upd]
  split
  · next h => rw [h]
  · rfl
theorem cpy_fi {f g : Nat → Int32} {n : Nat} (h : ∀ k, n ≤ k → g k = f k) : va_cpy f g 0 0 n = f := by
  funext k
  simp only [va_cpy]
  split
  · next h1 => rw [Nat.zero_add, Nat.sub_zero]
  · next h1 => exact h k (by omega)
def rgF (F : Nat → Int32) (g : Nat → Int32) (n m : Nat) (i j : Nat) : Int32 := if rkN (fun c => cn F c 5) n i < m ∧ rkN (fun c => cn F c 5) n j < m then pt F g i j else nI 0
def loF (F g : Nat → Int32) (n k : Nat) (c : Nat) : Int32 := if rkN g n c < k then cn F c 6 else nI 0
theorem smm_cong {z : Int32} {f g : Nat → Int32} : ∀ n, (∀ i, i < n → f i = g i) → smm z f n = smm z g n
  | 0, _ => rfl
  | n + 1, h => by simp only [smm]; rw [smm_cong n (fun i hi => h i (by omega)), h n (by omega)]
def fiR (i : Nat) (f g : Nat → Option Nat) : Nat → Option Nat := fun j => if j < i then f j else g j
theorem fiR_0 {f g : Nat → Option Nat} : fiR 0 f g = g := by funext j; simp [fiR]
theorem fiR_8 {f g : Nat → Option Nat} (h : ∀ k, 8 ≤ k → g k = f k) : fiR 8 f g = f := by
  funext j
  simp only [fiR]
  split
  · rfl
  · next h1 => exact h j (by omega)
theorem fiR_s {i : Nat} {f g : Nat → Option Nat} {v : Option Nat} (hv : f i = v) : va_up (fiR i f g) i v = fiR (i + 1) f g := by
  subst hv
  funext j
  simp only [va_up, fiR]
  by_cases h : j = i
  · subst h; simp
  · rw [if_neg h]
    by_cases h2 : j < i
    · rw [if_pos h2, if_pos (by omega)]
    · rw [if_neg h2, if_neg (by omega)]
theorem zuR_id {σ : zSt} {k : Nat} : zuR σ k (zR σ k) = σ := by
  unfold zuR
  have : zfu σ.2.2.2.2.2 k (zR σ k) = σ.2.2.2.2.2 := by
    funext j
    by_cases h : j = k
    · subst h; exact zfu_self
    · exact zfu_ne h
  rw [this]
def nx (s : Int32) : Int32 := s * (1103515245 : Int32) + nI 12345
def dv (s : Int32) (n : Nat) : Int32 := (s.toUInt32 >>> ((nI 16).toUInt32 &&& Int32.toUInt32 31)).toInt32 - (s.toUInt32 >>> ((nI 16).toUInt32 &&& Int32.toUInt32 31)).toInt32 / nI n * nI n
def sq (s : Int32) : Nat → Int32
  | 0 => s
  | k + 1 => nx (sq s k)
def mo (i : Nat) : Nat := [9, 9, 9, 9, 3, 9].getD i 0
theorem mo_A {i : Nat} (h : i < 6) : zA0 i = nI (mo i) := by
  have : i = 0 ∨ i = 1 ∨ i = 2 ∨ i = 3 ∨ i = 4 ∨ i = 5 := by omega
  rcases this with rfl | rfl | rfl | rfl | rfl | rfl <;> rfl
theorem mo_le {i : Nat} : mo i ≤ 9 := by
  unfold mo
  match i with
  | 0 | 1 | 2 | 3 | 4 | 5 => decide
  | n + 6 => exact Nat.zero_le _
/-- drawn into row c: the first i of six -/
def dw (X : Nat → Int32) (c : Nat) (s : Int32) : Nat → Nat → Int32
  | 0 => X
  | i + 1 => upd (dw X c s i) (c * 6 + i) (dv (sq s (i + 1)) (mo i + 1))
/-- the first p places moved by one, down to k -/
def pg (k p : Nat) (X : Nat → Int32) : Nat → Int32 := fun j => if k < j ∧ j ≤ p then X (j - 1) else X j
theorem pg_0 {p : Nat} {X : Nat → Int32} : pg p p X = X := by funext j; simp only [pg]; rw [if_neg (by omega)]
theorem pg_s {k p : Nat} {X : Nat → Int32} (h : 0 < k) (hp : k ≤ p) : upd (pg k p X) k (pg k p X (k - 1)) = pg (k - 1) p X := by
  funext j
  simp only [upd, pg]
  by_cases h1 : j = k
  · subst h1; rw [if_pos rfl, if_neg (by omega), if_pos (by omega)]
  · rw [if_neg h1]
    by_cases h2 : k < j ∧ j ≤ p
    · rw [if_pos h2, if_pos (by omega)]
    · rw [if_neg h2, if_neg (by omega)]
/-- put first: the place of x was p -/
def pf (p x : Nat) (X : Nat → Int32) : Nat → Int32 := upd (pg 0 p X) 0 (nI x)

theorem t_X1_rightedBy {σ : zSt} {n a y : Nat} (H : zHd σ n a y) {od : Nat → Nat} (ho : zOd σ a od) {q kd pa num : Nat} (hw : zWo σ q kd pa num) {m : Nat} (hm : m ≤ 8) : Dt mX1_rightedBy [.ref 20, .ref q, .int (nI m)] σ (some (.int (tO (rgF (zX σ 21) (tf (zX σ 21) (zSc σ) (zLk σ) (zDr σ) true kd pa od a) n m) n))) (zuX (zuX σ 25 (fi n (tf (zX σ 21) (zSc σ) (zLk σ) (zDr σ) true kd pa od a) (zX σ 25))) 26 (fi n (fun c => cn (zX σ 21) c 5) (zX σ 26))) := by
  obtain ⟨hl, hn, hn8, ha, ha4, hy, hy8⟩ := id H
  refine Dt.of (by decide) (Nat.le_of_ble_eq_true rfl) fun κ B Rt => ?_
  show Z κ 0 0 σ 0 [(0, .ref 20), (1, .ref q), (2, .int (nI m))] []
  refine Z.aload_n B dX1_rightedBy_0 (v := .ref 20) rfl rfl ?_
  refine Z.aload_n B dX1_rightedBy_1 (v := .ref 20) rfl rfl ?_
  refine Z.getR (σ := σ) B fX1_31_1 dX1_rightedBy_2 (hl.n (k := 20) (by decide)) (hl.k (k := 20) (by decide)) (by decide) (j := 25) (hl.r (k := 20) (f := 9) (by decide) (by decide)) ?_
  refine Z.aload_n B dX1_rightedBy_5 (v := .ref q) rfl rfl ?_
  refine Z.iconst B dX1_rightedBy_6 (v := nI 1) rfl ?_
  have etrue : nI 1 = zb true := rfl
  refine Z.callVN (σ := σ) B (M' := mX1_fillTotals) (as := [.ref 25, .ref q, .int (zb true)]) (st := []) dX1_rightedBy_7 wX1_fillTotals iX1_fillTotals sX1_fillTotals kX1_121 (hl.n (k := 20) (by decide)) (hl.k (k := 20) (by decide)) (by decide) rfl rfl (t_X1_fillTotals_25 (σ := σ) H ho hw (sl := true)) rfl rfl (by decide) (by decide) (Nat.le_of_ble_eq_true rfl) (by decide) (by decide) ?_
  refine Z.eqσ (τ := (zuX σ 25 (fi n (tf (zX σ 21) (zSc σ) (zLk σ) (zDr σ) true kd pa od a) (zX σ 25)))) rfl ?_
  refine Z.iconst B dX1_rightedBy_10 (v := nI 0) rfl ?_
  refine Z.istore_n B dX1_rightedBy_11 (by decide) (L' := [(0, .ref 20), (1, .ref q), (2, .int (nI m)), (3, .int (nI 0))]) rfl ?_
  have hloop12 : ∀ i : Nat, i ≤ n → Z κ 0 0 (zuX (zuX σ 25 (fi n (tf (zX σ 21) (zSc σ) (zLk σ) (zDr σ) true kd pa od a) (zX σ 25))) 26 (fi i (fun c => cn (zX σ 21) c 5) (zX σ 26))) 12 [(0, .ref 20), (1, .ref q), (2, .int (nI m)), (3, .int (nI i))] [] := by
    refine z_loop (fun i => n - i) (fun i ih hi => ?_)
    refine Z.iload_n B dX1_rightedBy_12 (x := nI i) rfl ?_
    refine Z.aload_n B dX1_rightedBy_13 (v := .ref 20) rfl rfl ?_
    refine Z.getI (σ := (zuX (zuX σ 25 (fi n (tf (zX σ 21) (zSc σ) (zLk σ) (zDr σ) true kd pa od a) (zX σ 25))) 26 (fi i (fun c => cn (zX σ 21) c 5) (zX σ 26)))) B fX1_37_1 dX1_rightedBy_14 (hl.n (k := 20) (by decide)) (hl.k (k := 20) (by decide)) (by decide) (v := nI n) hn ?_
    refine Z.icmp_geN B dX1_rightedBy_17 (tgt := 38) rfl (by omega) (by omega) (fun h17 => ?_) (fun h17 => ?_)
    · skip
      obtain rfl : n = i := by omega
      refine Z.iconst B dX1_rightedBy_38 (v := nI 0) rfl ?_
      refine Z.istore_n B dX1_rightedBy_39 (by decide) (L' := [(0, .ref 20), (1, .ref q), (2, .int (nI m)), (3, .int (nI 0))]) rfl ?_
      refine Z.iconst B dX1_rightedBy_40 (v := nI 1) rfl ?_
      refine Z.istore B dX1_rightedBy_41 (by decide) (L' := [(0, .ref 20), (1, .ref q), (2, .int (nI m)), (3, .int (nI 0)), (4, .int (nI 1))]) rfl ?_
      have hloop43 : ∀ j : Nat, (j ≤ n ∨ j = 1) ∧ 1 ≤ j → Z κ 0 0 (zuX (zuX σ 25 (fi n (tf (zX σ 21) (zSc σ) (zLk σ) (zDr σ) true kd pa od a) (zX σ 25))) 26 (fi n (fun c => cn (zX σ 21) c 5) (zX σ 26))) 43 [(0, .ref 20), (1, .ref q), (2, .int (nI m)), (3, .int (tO (fun o j => if rkN (fi n (fun c => cn (zX σ 21) c 5) (zX σ 26)) n o < m ∧ rkN (fi n (fun c => cn (zX σ 21) c 5) (zX σ 26)) n j < m then pt (zX σ 21) (fi n (tf (zX σ 21) (zSc σ) (zLk σ) (zDr σ) true kd pa od a) (zX σ 25)) o j else nI 0) j)), (4, .int (nI j))] [] := by
        refine z_loop (fun j => n - j) (fun j ih hj => ?_)
        refine Z.iload B dX1_rightedBy_43 (x := nI j) rfl ?_
        refine Z.aload_n B dX1_rightedBy_45 (v := .ref 20) rfl rfl ?_
        refine Z.getI (σ := (zuX (zuX σ 25 (fi n (tf (zX σ 21) (zSc σ) (zLk σ) (zDr σ) true kd pa od a) (zX σ 25))) 26 (fi n (fun c => cn (zX σ 21) c 5) (zX σ 26)))) B fX1_37_1 dX1_rightedBy_46 (hl.n (k := 20) (by decide)) (hl.k (k := 20) (by decide)) (by decide) (v := nI n) hn ?_
        refine Z.icmp_geN B dX1_rightedBy_49 (tgt := 129) rfl (by omega) (by omega) (fun h49 => ?_) (fun h49 => ?_)
        · skip
          have hfin : tO (fun o j => if rkN (fi n (fun c => cn (zX σ 21) c 5) (zX σ 26)) n o < m ∧ rkN (fi n (fun c => cn (zX σ 21) c 5) (zX σ 26)) n j < m then pt (zX σ 21) (fi n (tf (zX σ 21) (zSc σ) (zLk σ) (zDr σ) true kd pa od a) (zX σ 25)) o j else nI 0) j = tO (rgF (zX σ 21) (tf (zX σ 21) (zSc σ) (zLk σ) (zDr σ) true kd pa od a) n m) n := by
            have hc : tO (fun o j => if rkN (fi n (fun c => cn (zX σ 21) c 5) (zX σ 26)) n o < m ∧ rkN (fi n (fun c => cn (zX σ 21) c 5) (zX σ 26)) n j < m then pt (zX σ 21) (fi n (tf (zX σ 21) (zSc σ) (zLk σ) (zDr σ) true kd pa od a) (zX σ 25)) o j else nI 0) n = tO (rgF (zX σ 21) (tf (zX σ 21) (zSc σ) (zLk σ) (zDr σ) true kd pa od a) n m) n := tO_cong n fun i j hi hj => by
              unfold rgF
              rw [rkN_fi hj, rkN_fi (Nat.lt_trans hi hj)]
              unfold pt
              rw [fi_at hj, fi_at (Nat.lt_trans hi hj)]
            rw [← hc]
            rcases (by omega : j = n ∨ (n = 0 ∧ j = 1)) with e | ⟨e1, e2⟩
            · rw [e]
            · rw [e1, e2]; rfl
          refine Z.iload_n B dX1_rightedBy_129 (x := tO (fun o j => if rkN (fi n (fun c => cn (zX σ 21) c 5) (zX σ 26)) n o < m ∧ rkN (fi n (fun c => cn (zX σ 21) c 5) (zX σ 26)) n j < m then pt (zX σ 21) (fi n (tf (zX σ 21) (zSc σ) (zLk σ) (zDr σ) true kd pa od a) (zX σ 25)) o j else nI 0) j) rfl ?_
          refine Z.iret B Rt dX1_rightedBy_130 (ty := .int) rfl rfl (by decide) (by decide) ?_
          exact ⟨by rw [hfin], rfl⟩
        · skip
          refine Z.iconst B dX1_rightedBy_52 (v := nI 0) rfl ?_
          refine Z.istore B dX1_rightedBy_53 (by decide) (L' := [(0, .ref 20), (1, .ref q), (2, .int (nI m)), (3, .int (tO (fun o j => if rkN (fi n (fun c => cn (zX σ 21) c 5) (zX σ 26)) n o < m ∧ rkN (fi n (fun c => cn (zX σ 21) c 5) (zX σ 26)) n j < m then pt (zX σ 21) (fi n (tf (zX σ 21) (zSc σ) (zLk σ) (zDr σ) true kd pa od a) (zX σ 25)) o j else nI 0) j)), (4, .int (nI j)), (5, .int (nI 0))]) rfl ?_
          have hloop55 : ∀ i : Nat, i ≤ j → Z κ 0 0 (zuX (zuX σ 25 (fi n (tf (zX σ 21) (zSc σ) (zLk σ) (zDr σ) true kd pa od a) (zX σ 25))) 26 (fi n (fun c => cn (zX σ 21) c 5) (zX σ 26))) 55 [(0, .ref 20), (1, .ref q), (2, .int (nI m)), (3, .int (smz (tO (fun o j => if rkN (fi n (fun c => cn (zX σ 21) c 5) (zX σ 26)) n o < m ∧ rkN (fi n (fun c => cn (zX σ 21) c 5) (zX σ 26)) n j < m then pt (zX σ 21) (fi n (tf (zX σ 21) (zSc σ) (zLk σ) (zDr σ) true kd pa od a) (zX σ 25)) o j else nI 0) j) (fun o => (fun o j => if rkN (fi n (fun c => cn (zX σ 21) c 5) (zX σ 26)) n o < m ∧ rkN (fi n (fun c => cn (zX σ 21) c 5) (zX σ 26)) n j < m then pt (zX σ 21) (fi n (tf (zX σ 21) (zSc σ) (zLk σ) (zDr σ) true kd pa od a) (zX σ 25)) o j else nI 0) o j) i)), (4, .int (nI j)), (5, .int (nI i))] [] := by
            refine z_loop (fun i => j - i) (fun i ihi hi => ?_)
            refine Z.iload B dX1_rightedBy_55 (x := nI i) rfl ?_
            refine Z.iload B dX1_rightedBy_57 (x := nI j) rfl ?_
            refine Z.icmp_geN B dX1_rightedBy_59 (tgt := 123) rfl (by omega) (by omega) (fun h59 => ?_) (fun h59 => ?_)
            · skip
              obtain rfl : j = i := by omega
              refine Z.iincN B dX1_rightedBy_123 (by decide) (a := j) rfl (L' := [(0, .ref 20), (1, .ref q), (2, .int (nI m)), (3, .int (smz (tO (fun o j => if rkN (fi n (fun c => cn (zX σ 21) c 5) (zX σ 26)) n o < m ∧ rkN (fi n (fun c => cn (zX σ 21) c 5) (zX σ 26)) n j < m then pt (zX σ 21) (fi n (tf (zX σ 21) (zSc σ) (zLk σ) (zDr σ) true kd pa od a) (zX σ 25)) o j else nI 0) j) (fun o => (fun o j => if rkN (fi n (fun c => cn (zX σ 21) c 5) (zX σ 26)) n o < m ∧ rkN (fi n (fun c => cn (zX σ 21) c 5) (zX σ 26)) n j < m then pt (zX σ 21) (fi n (tf (zX σ 21) (zSc σ) (zLk σ) (zDr σ) true kd pa od a) (zX σ 25)) o j else nI 0) o j) j)), (4, .int (nI (j + 1))), (5, .int (nI j))]) rfl ?_
              refine Z.goto B dX1_rightedBy_126 (tgt := 43) rfl ?_
              refine Z.drop 5 (L' := [(0, .ref 20), (1, .ref q), (2, .int (nI m)), (3, .int (smz (tO (fun o j => if rkN (fi n (fun c => cn (zX σ 21) c 5) (zX σ 26)) n o < m ∧ rkN (fi n (fun c => cn (zX σ 21) c 5) (zX σ 26)) n j < m then pt (zX σ 21) (fi n (tf (zX σ 21) (zSc σ) (zLk σ) (zDr σ) true kd pa od a) (zX σ 25)) o j else nI 0) j) (fun o => (fun o j => if rkN (fi n (fun c => cn (zX σ 21) c 5) (zX σ 26)) n o < m ∧ rkN (fi n (fun c => cn (zX σ 21) c 5) (zX σ 26)) n j < m then pt (zX σ 21) (fi n (tf (zX σ 21) (zSc σ) (zLk σ) (zDr σ) true kd pa od a) (zX σ 25)) o j else nI 0) o j) j)), (4, .int (nI (j + 1)))]) rfl ?_
              exact ih (j + 1) (by omega) ⟨Or.inl (by omega), by omega⟩
            · skip
              refine Z.aload_n B dX1_rightedBy_62 (v := .ref 20) rfl rfl ?_
              refine Z.aload_n B dX1_rightedBy_63 (v := .ref 20) rfl rfl ?_
              refine Z.getR (σ := (zuX (zuX σ 25 (fi n (tf (zX σ 21) (zSc σ) (zLk σ) (zDr σ) true kd pa od a) (zX σ 25))) 26 (fi n (fun c => cn (zX σ 21) c 5) (zX σ 26)))) B fX1_34_1 dX1_rightedBy_64 (hl.n (k := 20) (by decide)) (hl.k (k := 20) (by decide)) (by decide) (j := 26) (hl.r (k := 20) (f := 10) (by decide) (by decide)) ?_
              refine Z.iload B dX1_rightedBy_67 (x := nI i) rfl ?_
              refine Z.callVI (σ := (zuX (zuX σ 25 (fi n (tf (zX σ 21) (zSc σ) (zLk σ) (zDr σ) true kd pa od a) (zX σ 25))) 26 (fi n (fun c => cn (zX σ 21) c 5) (zX σ 26)))) B (M' := mX1_rank) (as := [.ref 26, .int (nI i)]) (st := []) (v := .int (nI (rkN (fi n (fun c => cn (zX σ 21) c 5) (zX σ 26)) n i))) dX1_rightedBy_69 wX1_rank iX1_rank sX1_rank kX1_137 (hl.n (k := 20) (by decide)) (hl.k (k := 20) (by decide)) (by decide) rfl rfl (t_X1_rank_26 (σ := (zuX (zuX σ 25 (fi n (tf (zX σ 21) (zSc σ) (zLk σ) (zDr σ) true kd pa od a) (zX σ 25))) 26 (fi n (fun c => cn (zX σ 21) c 5) (zX σ 26)))) H (c := i) (by omega)) rfl rfl (by decide) (by decide) (Nat.le_of_ble_eq_true rfl) (by decide) (by decide) ?_
              refine Z.iload_n B dX1_rightedBy_72 (x := nI m) rfl ?_
              have hr1 : rkN (fi n (fun c => cn (zX σ 21) c 5) (zX σ 26)) n i ≤ n := rkN_le
              refine Z.icmp_geN B dX1_rightedBy_73 (tgt := 94) rfl (by omega) (by omega) (fun h73 => ?_) (fun h73 => ?_)
              · skip
                have h73 : ¬ rkN (fi n (fun c => cn (zX σ 21) c 5) (zX σ 26)) n i < m := by omega
                refine Z.iconst B dX1_rightedBy_94 (v := nI 0) rfl ?_
                refine Z.istore B dX1_rightedBy_95 (by decide) (L' := [(0, .ref 20), (1, .ref q), (2, .int (nI m)), (3, .int (smz (tO (fun o j => if rkN (fi n (fun c => cn (zX σ 21) c 5) (zX σ 26)) n o < m ∧ rkN (fi n (fun c => cn (zX σ 21) c 5) (zX σ 26)) n j < m then pt (zX σ 21) (fi n (tf (zX σ 21) (zSc σ) (zLk σ) (zDr σ) true kd pa od a) (zX σ 25)) o j else nI 0) j) (fun o => (fun o j => if rkN (fi n (fun c => cn (zX σ 21) c 5) (zX σ 26)) n o < m ∧ rkN (fi n (fun c => cn (zX σ 21) c 5) (zX σ 26)) n j < m then pt (zX σ 21) (fi n (tf (zX σ 21) (zSc σ) (zLk σ) (zDr σ) true kd pa od a) (zX σ 25)) o j else nI 0) o j) i)), (4, .int (nI j)), (5, .int (nI i)), (6, .int (nI 0))]) rfl ?_
                refine Z.iload_n B dX1_rightedBy_97 (x := smz (tO (fun o j => if rkN (fi n (fun c => cn (zX σ 21) c 5) (zX σ 26)) n o < m ∧ rkN (fi n (fun c => cn (zX σ 21) c 5) (zX σ 26)) n j < m then pt (zX σ 21) (fi n (tf (zX σ 21) (zSc σ) (zLk σ) (zDr σ) true kd pa od a) (zX σ 25)) o j else nI 0) j) (fun o => (fun o j => if rkN (fi n (fun c => cn (zX σ 21) c 5) (zX σ 26)) n o < m ∧ rkN (fi n (fun c => cn (zX σ 21) c 5) (zX σ 26)) n j < m then pt (zX σ 21) (fi n (tf (zX σ 21) (zSc σ) (zLk σ) (zDr σ) true kd pa od a) (zX σ 25)) o j else nI 0) o j) i) rfl ?_
                refine Z.iload B dX1_rightedBy_98 (x := nI 0) rfl ?_
                refine Z.if_eqN B dX1_rightedBy_100 (tgt := 114) rfl (by omega) (fun h100 => ?_) (fun h100 => by exfalso; first | omega | contradiction | simp_all)
                refine Z.iconst B dX1_rightedBy_114 (v := nI 0) rfl ?_
                refine Z.iadd B dX1_rightedBy_115 ?_
                refine Z.istore_n B dX1_rightedBy_116 (by decide) (L' := [(0, .ref 20), (1, .ref q), (2, .int (nI m)), (3, .int ((smz (tO (fun o j => if rkN (fi n (fun c => cn (zX σ 21) c 5) (zX σ 26)) n o < m ∧ rkN (fi n (fun c => cn (zX σ 21) c 5) (zX σ 26)) n j < m then pt (zX σ 21) (fi n (tf (zX σ 21) (zSc σ) (zLk σ) (zDr σ) true kd pa od a) (zX σ 25)) o j else nI 0) j) (fun o => (fun o j => if rkN (fi n (fun c => cn (zX σ 21) c 5) (zX σ 26)) n o < m ∧ rkN (fi n (fun c => cn (zX σ 21) c 5) (zX σ 26)) n j < m then pt (zX σ 21) (fi n (tf (zX σ 21) (zSc σ) (zLk σ) (zDr σ) true kd pa od a) (zX σ 25)) o j else nI 0) o j) i) + (nI 0))), (4, .int (nI j)), (5, .int (nI i)), (6, .int (nI 0))]) rfl ?_
                refine Z.iincN B dX1_rightedBy_117 (by decide) (a := i) rfl (L' := [(0, .ref 20), (1, .ref q), (2, .int (nI m)), (3, .int ((smz (tO (fun o j => if rkN (fi n (fun c => cn (zX σ 21) c 5) (zX σ 26)) n o < m ∧ rkN (fi n (fun c => cn (zX σ 21) c 5) (zX σ 26)) n j < m then pt (zX σ 21) (fi n (tf (zX σ 21) (zSc σ) (zLk σ) (zDr σ) true kd pa od a) (zX σ 25)) o j else nI 0) j) (fun o => (fun o j => if rkN (fi n (fun c => cn (zX σ 21) c 5) (zX σ 26)) n o < m ∧ rkN (fi n (fun c => cn (zX σ 21) c 5) (zX σ 26)) n j < m then pt (zX σ 21) (fi n (tf (zX σ 21) (zSc σ) (zLk σ) (zDr σ) true kd pa od a) (zX σ 25)) o j else nI 0) o j) i) + (nI 0))), (4, .int (nI j)), (5, .int (nI (i + 1))), (6, .int (nI 0))]) rfl ?_
                refine Z.goto B dX1_rightedBy_120 (tgt := 55) rfl ?_
                refine Z.drop 6 (L' := [(0, .ref 20), (1, .ref q), (2, .int (nI m)), (3, .int ((smz (tO (fun o j => if rkN (fi n (fun c => cn (zX σ 21) c 5) (zX σ 26)) n o < m ∧ rkN (fi n (fun c => cn (zX σ 21) c 5) (zX σ 26)) n j < m then pt (zX σ 21) (fi n (tf (zX σ 21) (zSc σ) (zLk σ) (zDr σ) true kd pa od a) (zX σ 25)) o j else nI 0) j) (fun o => (fun o j => if rkN (fi n (fun c => cn (zX σ 21) c 5) (zX σ 26)) n o < m ∧ rkN (fi n (fun c => cn (zX σ 21) c 5) (zX σ 26)) n j < m then pt (zX σ 21) (fi n (tf (zX σ 21) (zSc σ) (zLk σ) (zDr σ) true kd pa od a) (zX σ 25)) o j else nI 0) o j) i) + (nI 0))), (4, .int (nI j)), (5, .int (nI (i + 1)))]) rfl ?_
                have e := ihi (i + 1) (by omega) (by omega)
                simp only [smz] at e
                first | (rw [if_pos (And.intro h73 h87)] at e; exact e) | (rw [if_neg (fun h => h73 h.1)] at e; exact e) | (rw [if_neg (fun h => h87 h.2)] at e; exact e)
              · skip
                have h73 : rkN (fi n (fun c => cn (zX σ 21) c 5) (zX σ 26)) n i < m := by omega
                refine Z.aload_n B dX1_rightedBy_76 (v := .ref 20) rfl rfl ?_
                refine Z.aload_n B dX1_rightedBy_77 (v := .ref 20) rfl rfl ?_
                refine Z.getR (σ := (zuX (zuX σ 25 (fi n (tf (zX σ 21) (zSc σ) (zLk σ) (zDr σ) true kd pa od a) (zX σ 25))) 26 (fi n (fun c => cn (zX σ 21) c 5) (zX σ 26)))) B fX1_34_1 dX1_rightedBy_78 (hl.n (k := 20) (by decide)) (hl.k (k := 20) (by decide)) (by decide) (j := 26) (hl.r (k := 20) (f := 10) (by decide) (by decide)) ?_
                refine Z.iload B dX1_rightedBy_81 (x := nI j) rfl ?_
                refine Z.callVI (σ := (zuX (zuX σ 25 (fi n (tf (zX σ 21) (zSc σ) (zLk σ) (zDr σ) true kd pa od a) (zX σ 25))) 26 (fi n (fun c => cn (zX σ 21) c 5) (zX σ 26)))) B (M' := mX1_rank) (as := [.ref 26, .int (nI j)]) (st := []) (v := .int (nI (rkN (fi n (fun c => cn (zX σ 21) c 5) (zX σ 26)) n j))) dX1_rightedBy_83 wX1_rank iX1_rank sX1_rank kX1_137 (hl.n (k := 20) (by decide)) (hl.k (k := 20) (by decide)) (by decide) rfl rfl (t_X1_rank_26 (σ := (zuX (zuX σ 25 (fi n (tf (zX σ 21) (zSc σ) (zLk σ) (zDr σ) true kd pa od a) (zX σ 25))) 26 (fi n (fun c => cn (zX σ 21) c 5) (zX σ 26)))) H (c := j) (by omega)) rfl rfl (by decide) (by decide) (Nat.le_of_ble_eq_true rfl) (by decide) (by decide) ?_
                refine Z.iload_n B dX1_rightedBy_86 (x := nI m) rfl ?_
                have hr2 : rkN (fi n (fun c => cn (zX σ 21) c 5) (zX σ 26)) n j ≤ n := rkN_le
                refine Z.icmp_geN B dX1_rightedBy_87 (tgt := 94) rfl (by omega) (by omega) (fun h87 => ?_) (fun h87 => ?_)
                · skip
                  have h87 : ¬ rkN (fi n (fun c => cn (zX σ 21) c 5) (zX σ 26)) n j < m := by omega
                  refine Z.iconst B dX1_rightedBy_94 (v := nI 0) rfl ?_
                  refine Z.istore B dX1_rightedBy_95 (by decide) (L' := [(0, .ref 20), (1, .ref q), (2, .int (nI m)), (3, .int (smz (tO (fun o j => if rkN (fi n (fun c => cn (zX σ 21) c 5) (zX σ 26)) n o < m ∧ rkN (fi n (fun c => cn (zX σ 21) c 5) (zX σ 26)) n j < m then pt (zX σ 21) (fi n (tf (zX σ 21) (zSc σ) (zLk σ) (zDr σ) true kd pa od a) (zX σ 25)) o j else nI 0) j) (fun o => (fun o j => if rkN (fi n (fun c => cn (zX σ 21) c 5) (zX σ 26)) n o < m ∧ rkN (fi n (fun c => cn (zX σ 21) c 5) (zX σ 26)) n j < m then pt (zX σ 21) (fi n (tf (zX σ 21) (zSc σ) (zLk σ) (zDr σ) true kd pa od a) (zX σ 25)) o j else nI 0) o j) i)), (4, .int (nI j)), (5, .int (nI i)), (6, .int (nI 0))]) rfl ?_
                  refine Z.iload_n B dX1_rightedBy_97 (x := smz (tO (fun o j => if rkN (fi n (fun c => cn (zX σ 21) c 5) (zX σ 26)) n o < m ∧ rkN (fi n (fun c => cn (zX σ 21) c 5) (zX σ 26)) n j < m then pt (zX σ 21) (fi n (tf (zX σ 21) (zSc σ) (zLk σ) (zDr σ) true kd pa od a) (zX σ 25)) o j else nI 0) j) (fun o => (fun o j => if rkN (fi n (fun c => cn (zX σ 21) c 5) (zX σ 26)) n o < m ∧ rkN (fi n (fun c => cn (zX σ 21) c 5) (zX σ 26)) n j < m then pt (zX σ 21) (fi n (tf (zX σ 21) (zSc σ) (zLk σ) (zDr σ) true kd pa od a) (zX σ 25)) o j else nI 0) o j) i) rfl ?_
                  refine Z.iload B dX1_rightedBy_98 (x := nI 0) rfl ?_
                  refine Z.if_eqN B dX1_rightedBy_100 (tgt := 114) rfl (by omega) (fun h100 => ?_) (fun h100 => by exfalso; first | omega | contradiction | simp_all)
                  refine Z.iconst B dX1_rightedBy_114 (v := nI 0) rfl ?_
                  refine Z.iadd B dX1_rightedBy_115 ?_
                  refine Z.istore_n B dX1_rightedBy_116 (by decide) (L' := [(0, .ref 20), (1, .ref q), (2, .int (nI m)), (3, .int ((smz (tO (fun o j => if rkN (fi n (fun c => cn (zX σ 21) c 5) (zX σ 26)) n o < m ∧ rkN (fi n (fun c => cn (zX σ 21) c 5) (zX σ 26)) n j < m then pt (zX σ 21) (fi n (tf (zX σ 21) (zSc σ) (zLk σ) (zDr σ) true kd pa od a) (zX σ 25)) o j else nI 0) j) (fun o => (fun o j => if rkN (fi n (fun c => cn (zX σ 21) c 5) (zX σ 26)) n o < m ∧ rkN (fi n (fun c => cn (zX σ 21) c 5) (zX σ 26)) n j < m then pt (zX σ 21) (fi n (tf (zX σ 21) (zSc σ) (zLk σ) (zDr σ) true kd pa od a) (zX σ 25)) o j else nI 0) o j) i) + (nI 0))), (4, .int (nI j)), (5, .int (nI i)), (6, .int (nI 0))]) rfl ?_
                  refine Z.iincN B dX1_rightedBy_117 (by decide) (a := i) rfl (L' := [(0, .ref 20), (1, .ref q), (2, .int (nI m)), (3, .int ((smz (tO (fun o j => if rkN (fi n (fun c => cn (zX σ 21) c 5) (zX σ 26)) n o < m ∧ rkN (fi n (fun c => cn (zX σ 21) c 5) (zX σ 26)) n j < m then pt (zX σ 21) (fi n (tf (zX σ 21) (zSc σ) (zLk σ) (zDr σ) true kd pa od a) (zX σ 25)) o j else nI 0) j) (fun o => (fun o j => if rkN (fi n (fun c => cn (zX σ 21) c 5) (zX σ 26)) n o < m ∧ rkN (fi n (fun c => cn (zX σ 21) c 5) (zX σ 26)) n j < m then pt (zX σ 21) (fi n (tf (zX σ 21) (zSc σ) (zLk σ) (zDr σ) true kd pa od a) (zX σ 25)) o j else nI 0) o j) i) + (nI 0))), (4, .int (nI j)), (5, .int (nI (i + 1))), (6, .int (nI 0))]) rfl ?_
                  refine Z.goto B dX1_rightedBy_120 (tgt := 55) rfl ?_
                  refine Z.drop 6 (L' := [(0, .ref 20), (1, .ref q), (2, .int (nI m)), (3, .int ((smz (tO (fun o j => if rkN (fi n (fun c => cn (zX σ 21) c 5) (zX σ 26)) n o < m ∧ rkN (fi n (fun c => cn (zX σ 21) c 5) (zX σ 26)) n j < m then pt (zX σ 21) (fi n (tf (zX σ 21) (zSc σ) (zLk σ) (zDr σ) true kd pa od a) (zX σ 25)) o j else nI 0) j) (fun o => (fun o j => if rkN (fi n (fun c => cn (zX σ 21) c 5) (zX σ 26)) n o < m ∧ rkN (fi n (fun c => cn (zX σ 21) c 5) (zX σ 26)) n j < m then pt (zX σ 21) (fi n (tf (zX σ 21) (zSc σ) (zLk σ) (zDr σ) true kd pa od a) (zX σ 25)) o j else nI 0) o j) i) + (nI 0))), (4, .int (nI j)), (5, .int (nI (i + 1)))]) rfl ?_
                  have e := ihi (i + 1) (by omega) (by omega)
                  simp only [smz] at e
                  first | (rw [if_pos (And.intro h73 h87)] at e; exact e) | (rw [if_neg (fun h => h73 h.1)] at e; exact e) | (rw [if_neg (fun h => h87 h.2)] at e; exact e)
                · skip
                  have h87 : rkN (fi n (fun c => cn (zX σ 21) c 5) (zX σ 26)) n j < m := by omega
                  refine Z.iconst B dX1_rightedBy_90 (v := nI 1) rfl ?_
                  refine Z.goto B dX1_rightedBy_91 (tgt := 95) rfl ?_
                  refine Z.istore B dX1_rightedBy_95 (by decide) (L' := [(0, .ref 20), (1, .ref q), (2, .int (nI m)), (3, .int (smz (tO (fun o j => if rkN (fi n (fun c => cn (zX σ 21) c 5) (zX σ 26)) n o < m ∧ rkN (fi n (fun c => cn (zX σ 21) c 5) (zX σ 26)) n j < m then pt (zX σ 21) (fi n (tf (zX σ 21) (zSc σ) (zLk σ) (zDr σ) true kd pa od a) (zX σ 25)) o j else nI 0) j) (fun o => (fun o j => if rkN (fi n (fun c => cn (zX σ 21) c 5) (zX σ 26)) n o < m ∧ rkN (fi n (fun c => cn (zX σ 21) c 5) (zX σ 26)) n j < m then pt (zX σ 21) (fi n (tf (zX σ 21) (zSc σ) (zLk σ) (zDr σ) true kd pa od a) (zX σ 25)) o j else nI 0) o j) i)), (4, .int (nI j)), (5, .int (nI i)), (6, .int (nI 1))]) rfl ?_
                  refine Z.iload_n B dX1_rightedBy_97 (x := smz (tO (fun o j => if rkN (fi n (fun c => cn (zX σ 21) c 5) (zX σ 26)) n o < m ∧ rkN (fi n (fun c => cn (zX σ 21) c 5) (zX σ 26)) n j < m then pt (zX σ 21) (fi n (tf (zX σ 21) (zSc σ) (zLk σ) (zDr σ) true kd pa od a) (zX σ 25)) o j else nI 0) j) (fun o => (fun o j => if rkN (fi n (fun c => cn (zX σ 21) c 5) (zX σ 26)) n o < m ∧ rkN (fi n (fun c => cn (zX σ 21) c 5) (zX σ 26)) n j < m then pt (zX σ 21) (fi n (tf (zX σ 21) (zSc σ) (zLk σ) (zDr σ) true kd pa od a) (zX σ 25)) o j else nI 0) o j) i) rfl ?_
                  refine Z.iload B dX1_rightedBy_98 (x := nI 1) rfl ?_
                  refine Z.if_eqN B dX1_rightedBy_100 (tgt := 114) rfl (by omega) (fun h100 => by exfalso; first | omega | contradiction | simp_all) (fun h100 => ?_)
                  refine Z.aload_n B dX1_rightedBy_103 (v := .ref 20) rfl rfl ?_
                  refine Z.iload B dX1_rightedBy_104 (x := nI i) rfl ?_
                  refine Z.iload B dX1_rightedBy_106 (x := nI j) rfl ?_
                  refine Z.callVI (σ := (zuX (zuX σ 25 (fi n (tf (zX σ 21) (zSc σ) (zLk σ) (zDr σ) true kd pa od a) (zX σ 25))) 26 (fi n (fun c => cn (zX σ 21) c 5) (zX σ 26)))) B (M' := mX1_pairTells) (as := [.int (nI i), .int (nI j)]) (st := [.int (smz (tO (fun o j => if rkN (fi n (fun c => cn (zX σ 21) c 5) (zX σ 26)) n o < m ∧ rkN (fi n (fun c => cn (zX σ 21) c 5) (zX σ 26)) n j < m then pt (zX σ 21) (fi n (tf (zX σ 21) (zSc σ) (zLk σ) (zDr σ) true kd pa od a) (zX σ 25)) o j else nI 0) j) (fun o => (fun o j => if rkN (fi n (fun c => cn (zX σ 21) c 5) (zX σ 26)) n o < m ∧ rkN (fi n (fun c => cn (zX σ 21) c 5) (zX σ 26)) n j < m then pt (zX σ 21) (fi n (tf (zX σ 21) (zSc σ) (zLk σ) (zDr σ) true kd pa od a) (zX σ 25)) o j else nI 0) o j) i)]) (v := .int (pt (zX σ 21) (fi n (tf (zX σ 21) (zSc σ) (zLk σ) (zDr σ) true kd pa od a) (zX σ 25)) i j)) dX1_rightedBy_108 wX1_pairTells iX1_pairTells sX1_pairTells kX1_131 (hl.n (k := 20) (by decide)) (hl.k (k := 20) (by decide)) (by decide) rfl rfl (t_X1_pairTells (σ := (zuX (zuX σ 25 (fi n (tf (zX σ 21) (zSc σ) (zLk σ) (zDr σ) true kd pa od a) (zX σ 25))) 26 (fi n (fun c => cn (zX σ 21) c 5) (zX σ 26)))) H (i := i) (j := j) (by omega) (by omega)) rfl rfl (by decide) (by decide) (Nat.le_of_ble_eq_true rfl) (by decide) (by decide) ?_
                  refine Z.goto B dX1_rightedBy_111 (tgt := 115) rfl ?_
                  refine Z.iadd B dX1_rightedBy_115 ?_
                  refine Z.istore_n B dX1_rightedBy_116 (by decide) (L' := [(0, .ref 20), (1, .ref q), (2, .int (nI m)), (3, .int ((smz (tO (fun o j => if rkN (fi n (fun c => cn (zX σ 21) c 5) (zX σ 26)) n o < m ∧ rkN (fi n (fun c => cn (zX σ 21) c 5) (zX σ 26)) n j < m then pt (zX σ 21) (fi n (tf (zX σ 21) (zSc σ) (zLk σ) (zDr σ) true kd pa od a) (zX σ 25)) o j else nI 0) j) (fun o => (fun o j => if rkN (fi n (fun c => cn (zX σ 21) c 5) (zX σ 26)) n o < m ∧ rkN (fi n (fun c => cn (zX σ 21) c 5) (zX σ 26)) n j < m then pt (zX σ 21) (fi n (tf (zX σ 21) (zSc σ) (zLk σ) (zDr σ) true kd pa od a) (zX σ 25)) o j else nI 0) o j) i) + (pt (zX σ 21) (fi n (tf (zX σ 21) (zSc σ) (zLk σ) (zDr σ) true kd pa od a) (zX σ 25)) i j))), (4, .int (nI j)), (5, .int (nI i)), (6, .int (nI 1))]) rfl ?_
                  refine Z.iincN B dX1_rightedBy_117 (by decide) (a := i) rfl (L' := [(0, .ref 20), (1, .ref q), (2, .int (nI m)), (3, .int ((smz (tO (fun o j => if rkN (fi n (fun c => cn (zX σ 21) c 5) (zX σ 26)) n o < m ∧ rkN (fi n (fun c => cn (zX σ 21) c 5) (zX σ 26)) n j < m then pt (zX σ 21) (fi n (tf (zX σ 21) (zSc σ) (zLk σ) (zDr σ) true kd pa od a) (zX σ 25)) o j else nI 0) j) (fun o => (fun o j => if rkN (fi n (fun c => cn (zX σ 21) c 5) (zX σ 26)) n o < m ∧ rkN (fi n (fun c => cn (zX σ 21) c 5) (zX σ 26)) n j < m then pt (zX σ 21) (fi n (tf (zX σ 21) (zSc σ) (zLk σ) (zDr σ) true kd pa od a) (zX σ 25)) o j else nI 0) o j) i) + (pt (zX σ 21) (fi n (tf (zX σ 21) (zSc σ) (zLk σ) (zDr σ) true kd pa od a) (zX σ 25)) i j))), (4, .int (nI j)), (5, .int (nI (i + 1))), (6, .int (nI 1))]) rfl ?_
                  refine Z.goto B dX1_rightedBy_120 (tgt := 55) rfl ?_
                  refine Z.drop 6 (L' := [(0, .ref 20), (1, .ref q), (2, .int (nI m)), (3, .int ((smz (tO (fun o j => if rkN (fi n (fun c => cn (zX σ 21) c 5) (zX σ 26)) n o < m ∧ rkN (fi n (fun c => cn (zX σ 21) c 5) (zX σ 26)) n j < m then pt (zX σ 21) (fi n (tf (zX σ 21) (zSc σ) (zLk σ) (zDr σ) true kd pa od a) (zX σ 25)) o j else nI 0) j) (fun o => (fun o j => if rkN (fi n (fun c => cn (zX σ 21) c 5) (zX σ 26)) n o < m ∧ rkN (fi n (fun c => cn (zX σ 21) c 5) (zX σ 26)) n j < m then pt (zX σ 21) (fi n (tf (zX σ 21) (zSc σ) (zLk σ) (zDr σ) true kd pa od a) (zX σ 25)) o j else nI 0) o j) i) + (pt (zX σ 21) (fi n (tf (zX σ 21) (zSc σ) (zLk σ) (zDr σ) true kd pa od a) (zX σ 25)) i j))), (4, .int (nI j)), (5, .int (nI (i + 1)))]) rfl ?_
                  have e := ihi (i + 1) (by omega) (by omega)
                  simp only [smz] at e
                  first | (rw [if_pos (And.intro h73 h87)] at e; exact e) | (rw [if_neg (fun h => h73 h.1)] at e; exact e) | (rw [if_neg (fun h => h87 h.2)] at e; exact e)
          exact hloop55 0 (Nat.zero_le _)
      exact hloop43 1 ⟨Or.inr rfl, Nat.le_refl _⟩
    · skip
      refine Z.aload_n B dX1_rightedBy_20 (v := .ref 20) rfl rfl ?_
      refine Z.getR (σ := (zuX (zuX σ 25 (fi n (tf (zX σ 21) (zSc σ) (zLk σ) (zDr σ) true kd pa od a) (zX σ 25))) 26 (fi i (fun c => cn (zX σ 21) c 5) (zX σ 26)))) B fX1_34_1 dX1_rightedBy_21 (hl.n (k := 20) (by decide)) (hl.k (k := 20) (by decide)) (by decide) (j := 26) (hl.r (k := 20) (f := 10) (by decide) (by decide)) ?_
      refine Z.iload_n B dX1_rightedBy_24 (x := nI i) rfl ?_
      refine Z.aload_n B dX1_rightedBy_25 (v := .ref 20) rfl rfl ?_
      refine Z.iload_n B dX1_rightedBy_26 (x := nI i) rfl ?_
      refine Z.iconst B dX1_rightedBy_27 (v := nI 5) rfl ?_
      refine Z.callVI (σ := (zuX (zuX σ 25 (fi n (tf (zX σ 21) (zSc σ) (zLk σ) (zDr σ) true kd pa od a) (zX σ 25))) 26 (fi i (fun c => cn (zX σ 21) c 5) (zX σ 26)))) B (M' := mX1_comerNumber) (as := [.int (nI i), .int (nI 5)]) (st := [.int (nI i), .ref 26]) (v := .int ((fun c => cn (zX σ 21) c 5) i)) dX1_rightedBy_28 wX1_comerNumber iX1_comerNumber sX1_comerNumber kX1_95 (hl.n (k := 20) (by decide)) (hl.k (k := 20) (by decide)) (by decide) rfl rfl (t_X1_comerNumber (σ := (zuX (zuX σ 25 (fi n (tf (zX σ 21) (zSc σ) (zLk σ) (zDr σ) true kd pa od a) (zX σ 25))) 26 (fi i (fun c => cn (zX σ 21) c 5) (zX σ 26)))) H (c := i) (by omega) (by decide)) rfl rfl (by decide) (by decide) (Nat.le_of_ble_eq_true rfl) (by decide) (by decide) ?_
      refine Z.iast (σ := (zuX (zuX σ 25 (fi n (tf (zX σ 21) (zSc σ) (zLk σ) (zDr σ) true kd pa od a) (zX σ 25))) 26 (fi i (fun c => cn (zX σ 21) c 5) (zX σ 26)))) B dX1_rightedBy_31 (n := 8) (hl.n (k := 26) (by decide)) (hl.k (k := 26) (by decide)) (hl.l (k := 26) (by decide)) (by decide) (j := i) rfl (by omega) (τ := (zuX (zuX σ 25 (fi n (tf (zX σ 21) (zSc σ) (zLk σ) (zDr σ) true kd pa od a) (zX σ 25))) 26 (fi (i + 1) (fun c => cn (zX σ 21) c 5) (zX σ 26)))) (by rw [zX_self, zuX_uX, fi_s rfl]) ?_
      refine Z.iincN B dX1_rightedBy_32 (by decide) (a := i) rfl (L' := [(0, .ref 20), (1, .ref q), (2, .int (nI m)), (3, .int (nI (i + 1)))]) rfl ?_
      refine Z.goto B dX1_rightedBy_35 (tgt := 12) rfl ?_
      exact ih (i + 1) (by omega) (by omega)
  have h0 := hloop12 0 (Nat.zero_le _)
  have e0 : zX σ 26 = zX (zuX σ 25 (fi n (tf (zX σ 21) (zSc σ) (zLk σ) (zDr σ) true kd pa od a) (zX σ 25))) 26 := rfl
  rw [fi_0, e0, zuX_id] at h0
  exact h0

theorem t_X1_lostBy {σ : zSt} {n a y : Nat} (H : zHd σ n a y) {od : Nat → Nat} (ho : zOd σ a od) {q kd pa num : Nat} (hw : zWo σ q kd pa num) {k : Nat} (hk : k ≤ 8) (h0 : 0 < n) : Dt mX1_lostBy [.ref 20, .ref q, .int (nI k)] σ (some (.int (smm (nI k * (cn (zX σ 21) (ga (fun c => cn (zX σ 21) c 6) (n - 1)) 6)) (loF (zX σ 21) (tf (zX σ 21) (zSc σ) (zLk σ) (zDr σ) true kd pa od a) n k) n))) (zuX σ 25 (fi n (tf (zX σ 21) (zSc σ) (zLk σ) (zDr σ) true kd pa od a) (zX σ 25))) := by
  obtain ⟨hl, hn, hn8, ha, ha4, hy, hy8⟩ := id H
  refine Dt.of (by decide) (Nat.le_of_ble_eq_true rfl) fun κ B Rt => ?_
  show Z κ 0 0 σ 0 [(0, .ref 20), (1, .ref q), (2, .int (nI k))] []
  refine Z.iload_n B dX1_lostBy_0 (x := nI k) rfl ?_
  refine Z.aload_n B dX1_lostBy_1 (v := .ref 20) rfl rfl ?_
  refine Z.callVI (σ := σ) B (M' := mX1_bestSum) (as := []) (st := [.int (nI k)]) (v := .int (cn (zX σ 21) (ga (fun c => cn (zX σ 21) c 6) (n - 1)) 6)) dX1_lostBy_2 wX1_bestSum iX1_bestSum sX1_bestSum kX1_141 (hl.n (k := 20) (by decide)) (hl.k (k := 20) (by decide)) (by decide) rfl rfl (t_X1_bestSum (σ := σ) H h0) rfl rfl (by decide) (by decide) (Nat.le_of_ble_eq_true rfl) (by decide) (by decide) ?_
  refine Z.eqσ (τ := (zuX σ 25 (fi n (fun c => cn (zX σ 21) c 6) (zX σ 25)))) rfl ?_
  refine Z.imul B dX1_lostBy_5 ?_
  refine Z.istore_n B dX1_lostBy_6 (by decide) (L' := [(0, .ref 20), (1, .ref q), (2, .int (nI k)), (3, .int ((nI k) * (cn (zX σ 21) (ga (fun c => cn (zX σ 21) c 6) (n - 1)) 6)))]) rfl ?_
  refine Z.aload_n B dX1_lostBy_7 (v := .ref 20) rfl rfl ?_
  refine Z.aload_n B dX1_lostBy_8 (v := .ref 20) rfl rfl ?_
  refine Z.getR (σ := (zuX σ 25 (fi n (fun c => cn (zX σ 21) c 6) (zX σ 25)))) B fX1_31_1 dX1_lostBy_9 (hl.n (k := 20) (by decide)) (hl.k (k := 20) (by decide)) (by decide) (j := 25) (hl.r (k := 20) (f := 9) (by decide) (by decide)) ?_
  refine Z.aload_n B dX1_lostBy_12 (v := .ref q) rfl rfl ?_
  refine Z.iconst B dX1_lostBy_13 (v := nI 1) rfl ?_
  have etrue : nI 1 = zb true := rfl
  refine Z.callVN (σ := (zuX σ 25 (fi n (fun c => cn (zX σ 21) c 6) (zX σ 25)))) B (M' := mX1_fillTotals) (as := [.ref 25, .ref q, .int (zb true)]) (st := []) dX1_lostBy_14 wX1_fillTotals iX1_fillTotals sX1_fillTotals kX1_121 (hl.n (k := 20) (by decide)) (hl.k (k := 20) (by decide)) (by decide) rfl rfl (t_X1_fillTotals_25 (σ := (zuX σ 25 (fi n (fun c => cn (zX σ 21) c 6) (zX σ 25)))) H ho (hw.uX (by decide)) (sl := true)) rfl rfl (by decide) (by decide) (Nat.le_of_ble_eq_true rfl) (by decide) (by decide) ?_
  refine Z.eqσ (τ := (zuX σ 25 (fi n (tf (zX σ 21) (zSc σ) (zLk σ) (zDr σ) true kd pa od a) (zX σ 25)))) (by rw [zX_self, zuX_uX, fi_fi]; rfl) ?_
  refine Z.iconst B dX1_lostBy_17 (v := nI 0) rfl ?_
  refine Z.istore B dX1_lostBy_18 (by decide) (L' := [(0, .ref 20), (1, .ref q), (2, .int (nI k)), (3, .int ((nI k) * (cn (zX σ 21) (ga (fun c => cn (zX σ 21) c 6) (n - 1)) 6))), (4, .int (nI 0))]) rfl ?_
  have hloop20 : ∀ i : Nat, i ≤ n → Z κ 0 0 (zuX σ 25 (fi n (tf (zX σ 21) (zSc σ) (zLk σ) (zDr σ) true kd pa od a) (zX σ 25))) 20 [(0, .ref 20), (1, .ref q), (2, .int (nI k)), (3, .int (smm (nI k * (cn (zX σ 21) (ga (fun c => cn (zX σ 21) c 6) (n - 1)) 6)) (fun c => if rkN (fi n (tf (zX σ 21) (zSc σ) (zLk σ) (zDr σ) true kd pa od a) (zX σ 25)) n c < k then cn (zX σ 21) c 6 else nI 0) i)), (4, .int (nI i))] [] := by
    refine z_loop (fun i => n - i) (fun i ih hi => ?_)
    refine Z.iload B dX1_lostBy_20 (x := nI i) rfl ?_
    refine Z.aload_n B dX1_lostBy_22 (v := .ref 20) rfl rfl ?_
    refine Z.getI (σ := (zuX σ 25 (fi n (tf (zX σ 21) (zSc σ) (zLk σ) (zDr σ) true kd pa od a) (zX σ 25)))) B fX1_37_1 dX1_lostBy_23 (hl.n (k := 20) (by decide)) (hl.k (k := 20) (by decide)) (by decide) (v := nI n) hn ?_
    refine Z.icmp_geN B dX1_lostBy_26 (tgt := 64) rfl (by omega) (by omega) (fun h26 => ?_) (fun h26 => ?_)
    · skip
      obtain rfl : n = i := by omega
      refine Z.iload_n B dX1_lostBy_64 (x := smm (nI k * (cn (zX σ 21) (ga (fun c => cn (zX σ 21) c 6) (n - 1)) 6)) (fun c => if rkN (fi n (tf (zX σ 21) (zSc σ) (zLk σ) (zDr σ) true kd pa od a) (zX σ 25)) n c < k then cn (zX σ 21) c 6 else nI 0) n) rfl ?_
      refine Z.iret B Rt dX1_lostBy_65 (ty := .int) rfl rfl (by decide) (by decide) ?_
      exact ⟨by rw [smm_cong (g := (loF (zX σ 21) (tf (zX σ 21) (zSc σ) (zLk σ) (zDr σ) true kd pa od a) n k)) n fun i hi => by unfold loF; rw [rkN_fi hi]], rfl⟩
    · skip
      refine Z.iload_n B dX1_lostBy_29 (x := smm (nI k * (cn (zX σ 21) (ga (fun c => cn (zX σ 21) c 6) (n - 1)) 6)) (fun c => if rkN (fi n (tf (zX σ 21) (zSc σ) (zLk σ) (zDr σ) true kd pa od a) (zX σ 25)) n c < k then cn (zX σ 21) c 6 else nI 0) i) rfl ?_
      refine Z.aload_n B dX1_lostBy_30 (v := .ref 20) rfl rfl ?_
      refine Z.aload_n B dX1_lostBy_31 (v := .ref 20) rfl rfl ?_
      refine Z.getR (σ := (zuX σ 25 (fi n (tf (zX σ 21) (zSc σ) (zLk σ) (zDr σ) true kd pa od a) (zX σ 25)))) B fX1_31_1 dX1_lostBy_32 (hl.n (k := 20) (by decide)) (hl.k (k := 20) (by decide)) (by decide) (j := 25) (hl.r (k := 20) (f := 9) (by decide) (by decide)) ?_
      refine Z.iload B dX1_lostBy_35 (x := nI i) rfl ?_
      refine Z.callVI (σ := (zuX σ 25 (fi n (tf (zX σ 21) (zSc σ) (zLk σ) (zDr σ) true kd pa od a) (zX σ 25)))) B (M' := mX1_rank) (as := [.ref 25, .int (nI i)]) (st := [.int (smm (nI k * (cn (zX σ 21) (ga (fun c => cn (zX σ 21) c 6) (n - 1)) 6)) (fun c => if rkN (fi n (tf (zX σ 21) (zSc σ) (zLk σ) (zDr σ) true kd pa od a) (zX σ 25)) n c < k then cn (zX σ 21) c 6 else nI 0) i)]) (v := .int (nI (rkN (fi n (tf (zX σ 21) (zSc σ) (zLk σ) (zDr σ) true kd pa od a) (zX σ 25)) n i))) dX1_lostBy_37 wX1_rank iX1_rank sX1_rank kX1_137 (hl.n (k := 20) (by decide)) (hl.k (k := 20) (by decide)) (by decide) rfl rfl (t_X1_rank_25 (σ := (zuX σ 25 (fi n (tf (zX σ 21) (zSc σ) (zLk σ) (zDr σ) true kd pa od a) (zX σ 25)))) H (c := i) (by omega)) rfl rfl (by decide) (by decide) (Nat.le_of_ble_eq_true rfl) (by decide) (by decide) ?_
      refine Z.iload_n B dX1_lostBy_40 (x := nI k) rfl ?_
      have hr1 : rkN (fi n (tf (zX σ 21) (zSc σ) (zLk σ) (zDr σ) true kd pa od a) (zX σ 25)) n i ≤ n := rkN_le
      refine Z.icmp_geN B dX1_lostBy_41 (tgt := 55) rfl (by omega) (by omega) (fun h41 => ?_) (fun h41 => ?_)
      · skip
        have h41 : ¬ rkN (fi n (tf (zX σ 21) (zSc σ) (zLk σ) (zDr σ) true kd pa od a) (zX σ 25)) n i < k := by omega
        refine Z.iconst B dX1_lostBy_55 (v := nI 0) rfl ?_
        refine Z.isub B dX1_lostBy_56 ?_
        refine Z.istore_n B dX1_lostBy_57 (by decide) (L' := [(0, .ref 20), (1, .ref q), (2, .int (nI k)), (3, .int ((smm (nI k * (cn (zX σ 21) (ga (fun c => cn (zX σ 21) c 6) (n - 1)) 6)) (fun c => if rkN (fi n (tf (zX σ 21) (zSc σ) (zLk σ) (zDr σ) true kd pa od a) (zX σ 25)) n c < k then cn (zX σ 21) c 6 else nI 0) i) - (nI 0))), (4, .int (nI i))]) rfl ?_
        refine Z.iincN B dX1_lostBy_58 (by decide) (a := i) rfl (L' := [(0, .ref 20), (1, .ref q), (2, .int (nI k)), (3, .int ((smm (nI k * (cn (zX σ 21) (ga (fun c => cn (zX σ 21) c 6) (n - 1)) 6)) (fun c => if rkN (fi n (tf (zX σ 21) (zSc σ) (zLk σ) (zDr σ) true kd pa od a) (zX σ 25)) n c < k then cn (zX σ 21) c 6 else nI 0) i) - (nI 0))), (4, .int (nI (i + 1)))]) rfl ?_
        refine Z.goto B dX1_lostBy_61 (tgt := 20) rfl ?_
        have e := ih (i + 1) (by omega) (by omega)
        simp only [smm] at e
        first | (rw [if_pos h41] at e; exact e) | (rw [if_neg h41] at e; exact e)
      · skip
        have h41 : rkN (fi n (tf (zX σ 21) (zSc σ) (zLk σ) (zDr σ) true kd pa od a) (zX σ 25)) n i < k := by omega
        refine Z.aload_n B dX1_lostBy_44 (v := .ref 20) rfl rfl ?_
        refine Z.iload B dX1_lostBy_45 (x := nI i) rfl ?_
        refine Z.bipush B dX1_lostBy_47 (v := nI 6) rfl ?_
        refine Z.callVI (σ := (zuX σ 25 (fi n (tf (zX σ 21) (zSc σ) (zLk σ) (zDr σ) true kd pa od a) (zX σ 25)))) B (M' := mX1_comerNumber) (as := [.int (nI i), .int (nI 6)]) (st := [.int (smm (nI k * (cn (zX σ 21) (ga (fun c => cn (zX σ 21) c 6) (n - 1)) 6)) (fun c => if rkN (fi n (tf (zX σ 21) (zSc σ) (zLk σ) (zDr σ) true kd pa od a) (zX σ 25)) n c < k then cn (zX σ 21) c 6 else nI 0) i)]) (v := .int (cn (zX σ 21) i 6)) dX1_lostBy_49 wX1_comerNumber iX1_comerNumber sX1_comerNumber kX1_95 (hl.n (k := 20) (by decide)) (hl.k (k := 20) (by decide)) (by decide) rfl rfl (t_X1_comerNumber (σ := (zuX σ 25 (fi n (tf (zX σ 21) (zSc σ) (zLk σ) (zDr σ) true kd pa od a) (zX σ 25)))) H (c := i) (by omega) (by decide)) rfl rfl (by decide) (by decide) (Nat.le_of_ble_eq_true rfl) (by decide) (by decide) ?_
        refine Z.goto B dX1_lostBy_52 (tgt := 56) rfl ?_
        refine Z.isub B dX1_lostBy_56 ?_
        refine Z.istore_n B dX1_lostBy_57 (by decide) (L' := [(0, .ref 20), (1, .ref q), (2, .int (nI k)), (3, .int ((smm (nI k * (cn (zX σ 21) (ga (fun c => cn (zX σ 21) c 6) (n - 1)) 6)) (fun c => if rkN (fi n (tf (zX σ 21) (zSc σ) (zLk σ) (zDr σ) true kd pa od a) (zX σ 25)) n c < k then cn (zX σ 21) c 6 else nI 0) i) - (cn (zX σ 21) i 6))), (4, .int (nI i))]) rfl ?_
        refine Z.iincN B dX1_lostBy_58 (by decide) (a := i) rfl (L' := [(0, .ref 20), (1, .ref q), (2, .int (nI k)), (3, .int ((smm (nI k * (cn (zX σ 21) (ga (fun c => cn (zX σ 21) c 6) (n - 1)) 6)) (fun c => if rkN (fi n (tf (zX σ 21) (zSc σ) (zLk σ) (zDr σ) true kd pa od a) (zX σ 25)) n c < k then cn (zX σ 21) c 6 else nI 0) i) - (cn (zX σ 21) i 6))), (4, .int (nI (i + 1)))]) rfl ?_
        refine Z.goto B dX1_lostBy_61 (tgt := 20) rfl ?_
        have e := ih (i + 1) (by omega) (by omega)
        simp only [smm] at e
        first | (rw [if_pos h41] at e; exact e) | (rw [if_neg h41] at e; exact e)
  exact hloop20 0 (Nat.zero_le _)

theorem t_X1_headsOf {σ : zSt} {n a y : Nat} (H : zHd σ n a y) {od : Nat → Nat} (ho : zOd σ a od) {b p : Nat} (hp : p < a) (hb : od p = b) (hmin : ∀ j, j < p → od j ≠ b) : Dt mX1_headsOf [.ref 20, .int (nI b)] σ (some (.int (hH (nI 1000 * (if p = 0 then nI 10 else nI 10 - zDr σ b)) (dd (zDr σ) od) p (a - p - 1)))) σ := by
  obtain ⟨hl, hn, hn8, ha, ha4, hy, hy8⟩ := id H
  refine Dt.of (by decide) (Nat.le_of_ble_eq_true rfl) fun κ B Rt => ?_
  show Z κ 0 0 σ 0 [(0, .ref 20), (1, .int (nI b))] []
  refine Z.aload_n B dX1_headsOf_0 (v := .ref 20) rfl rfl ?_
  refine Z.iload_n B dX1_headsOf_1 (x := nI b) rfl ?_
  have hba : b < a := hb ▸ (ho p hp).2
  refine Z.callVI (σ := σ) B (M' := mX1_placeOf) (as := [.int (nI b)]) (st := []) (v := .int (nI p)) dX1_headsOf_2 wX1_placeOf iX1_placeOf sX1_placeOf kX1_92 (hl.n (k := 20) (by decide)) (hl.k (k := 20) (by decide)) (by decide) rfl rfl (t_X1_placeOf (σ := σ) H ho hp hb hmin) rfl rfl (by decide) (by decide) (Nat.le_of_ble_eq_true rfl) (by decide) (by decide) ?_
  refine Z.istore_n B dX1_headsOf_5 (by decide) (L' := [(0, .ref 20), (1, .int (nI b)), (2, .int (nI p))]) rfl ?_
  refine Z.sipush B dX1_headsOf_6 (v := nI 1000) rfl ?_
  refine Z.iload_n B dX1_headsOf_9 (x := nI p) rfl ?_
  refine Z.if_neN B dX1_headsOf_10 (tgt := 18) rfl (by omega) (fun h10 => ?_) (fun h10 => ?_)
  · skip
    refine Z.bipush B dX1_headsOf_18 (v := nI 10) rfl ?_
    refine Z.aload_n B dX1_headsOf_20 (v := .ref 20) rfl rfl ?_
    refine Z.iload_n B dX1_headsOf_21 (x := nI b) rfl ?_
    refine Z.iconst B dX1_headsOf_22 (v := nI 2) rfl ?_
    refine Z.callVI (σ := σ) B (M' := mX1_askerNumber) (as := [.int (nI b), .int (nI 2)]) (st := [.int (nI 10), .int (nI 1000)]) (v := .int (zDr σ b)) dX1_headsOf_23 wX1_askerNumber iX1_askerNumber sX1_askerNumber kX1_99 (hl.n (k := 20) (by decide)) (hl.k (k := 20) (by decide)) (by decide) rfl rfl (t_X1_askerNumber (σ := σ) H hba (by decide)) rfl rfl (by decide) (by decide) (Nat.le_of_ble_eq_true rfl) (by decide) (by decide) ?_
    refine Z.isub B dX1_headsOf_26 ?_
    refine Z.imulv B dX1_headsOf_27 (v := (nI 1000 * (if p = 0 then nI 10 else nI 10 - zDr σ b))) (by first | rw [if_pos h10] | rw [if_neg h10]) ?_
    refine Z.istore_n B dX1_headsOf_28 (by decide) (L' := [(0, .ref 20), (1, .int (nI b)), (2, .int (nI p)), (3, .int (nI 1000 * (if p = 0 then nI 10 else nI 10 - zDr σ b)))]) rfl ?_
    refine Z.iload_n B dX1_headsOf_29 (x := (nI 1000 * (if p = 0 then nI 10 else nI 10 - zDr σ b))) rfl ?_
    refine Z.istore B dX1_headsOf_30 (by decide) (L' := [(0, .ref 20), (1, .int (nI b)), (2, .int (nI p)), (3, .int (nI 1000 * (if p = 0 then nI 10 else nI 10 - zDr σ b))), (4, .int (nI 1000 * (if p = 0 then nI 10 else nI 10 - zDr σ b)))]) rfl ?_
    refine Z.iload_n B dX1_headsOf_32 (x := nI p) rfl ?_
    refine Z.iconst B dX1_headsOf_33 (v := nI 1) rfl ?_
    refine Z.iaddN B dX1_headsOf_34 (a := p) (b := 1) ?_
    refine Z.istore B dX1_headsOf_35 (by decide) (L' := [(0, .ref 20), (1, .int (nI b)), (2, .int (nI p)), (3, .int (nI 1000 * (if p = 0 then nI 10 else nI 10 - zDr σ b))), (4, .int (nI 1000 * (if p = 0 then nI 10 else nI 10 - zDr σ b))), (5, .int (nI (p + 1)))]) rfl ?_
    have hloop37 : ∀ k : Nat, k ≤ a - p - 1 → Z κ 0 0 σ 37 [(0, .ref 20), (1, .int (nI b)), (2, .int (nI p)), (3, .int (hS (nI 1000 * (if p = 0 then nI 10 else nI 10 - zDr σ b)) (dd (zDr σ) od) p k)), (4, .int (hH (nI 1000 * (if p = 0 then nI 10 else nI 10 - zDr σ b)) (dd (zDr σ) od) p k)), (5, .int (nI (p + 1 + k)))] [] := by
      refine z_loop (fun k => a - k) (fun k ih hk => ?_)
      refine Z.iload B dX1_headsOf_37 (x := nI (p + 1 + k)) rfl ?_
      refine Z.if_leN B dX1_headsOf_39 (tgt := 81) rfl (by omega) (fun h39 => by exfalso; first | omega | contradiction | simp_all) (fun h39 => ?_)
      refine Z.iload B dX1_headsOf_42 (x := nI (p + 1 + k)) rfl ?_
      refine Z.aload_n B dX1_headsOf_44 (v := .ref 20) rfl rfl ?_
      refine Z.getI (σ := σ) B fX1_41_1 dX1_headsOf_45 (hl.n (k := 20) (by decide)) (hl.k (k := 20) (by decide)) (by decide) (v := nI a) ha ?_
      refine Z.icmp_geN B dX1_headsOf_48 (tgt := 81) rfl (by omega) (by omega) (fun h48 => ?_) (fun h48 => ?_)
      · skip
        obtain rfl : (a - p - 1) = k := by omega
        refine Z.iload B dX1_headsOf_81 (x := hH (nI 1000 * (if p = 0 then nI 10 else nI 10 - zDr σ b)) (dd (zDr σ) od) p (a - p - 1)) rfl ?_
        refine Z.iret B Rt dX1_headsOf_83 (ty := .int) rfl rfl (by decide) (by decide) ?_
        exact ⟨rfl, rfl⟩
      · skip
        refine Z.iload_n B dX1_headsOf_51 (x := hS (nI 1000 * (if p = 0 then nI 10 else nI 10 - zDr σ b)) (dd (zDr σ) od) p k) rfl ?_
        refine Z.aload_n B dX1_headsOf_52 (v := .ref 20) rfl rfl ?_
        refine Z.aload_n B dX1_headsOf_53 (v := .ref 20) rfl rfl ?_
        refine Z.getR (σ := σ) B fX1_22_1 dX1_headsOf_54 (hl.n (k := 20) (by decide)) (hl.k (k := 20) (by decide)) (by decide) (j := 23) (hl.r (k := 20) (f := 4) (by decide) (by decide)) ?_
        refine Z.iload B dX1_headsOf_57 (x := nI (p + 1 + k)) rfl ?_
        refine Z.iald (σ := σ) B dX1_headsOf_59 (n := 4) (hl.n (k := 23) (by decide)) (hl.k (k := 23) (by decide)) (hl.l (k := 23) (by decide)) (by decide) (j := p + 1 + k) rfl (by omega) (v := nI (od (p + 1 + k))) (ho (p + 1 + k) (by omega)).1 ?_
        refine Z.iconst B dX1_headsOf_60 (v := nI 2) rfl ?_
        refine Z.callVI (σ := σ) B (M' := mX1_askerNumber) (as := [.int (nI (od (p + 1 + k))), .int (nI 2)]) (st := [.int (hS (nI 1000 * (if p = 0 then nI 10 else nI 10 - zDr σ b)) (dd (zDr σ) od) p k)]) (v := .int (zDr σ (od (p + 1 + k)))) dX1_headsOf_61 wX1_askerNumber iX1_askerNumber sX1_askerNumber kX1_99 (hl.n (k := 20) (by decide)) (hl.k (k := 20) (by decide)) (by decide) rfl rfl (t_X1_askerNumber (σ := σ) H (ho (p + 1 + k) (by omega)).2 (by decide)) rfl rfl (by decide) (by decide) (Nat.le_of_ble_eq_true rfl) (by decide) (by decide) ?_
        refine Z.imul B dX1_headsOf_64 ?_
        refine Z.bipush B dX1_headsOf_65 (v := nI 10) rfl ?_
        refine Z.idiv B dX1_headsOf_67 (by decide) ?_
        refine Z.istore_n B dX1_headsOf_68 (by decide) (L' := [(0, .ref 20), (1, .int (nI b)), (2, .int (nI p)), (3, .int (((hS (nI 1000 * (if p = 0 then nI 10 else nI 10 - zDr σ b)) (dd (zDr σ) od) p k) * (zDr σ (od (p + 1 + k)))) / (nI 10))), (4, .int (hH (nI 1000 * (if p = 0 then nI 10 else nI 10 - zDr σ b)) (dd (zDr σ) od) p k)), (5, .int (nI (p + 1 + k)))]) rfl ?_
        refine Z.iload B dX1_headsOf_69 (x := hH (nI 1000 * (if p = 0 then nI 10 else nI 10 - zDr σ b)) (dd (zDr σ) od) p k) rfl ?_
        refine Z.iload_n B dX1_headsOf_71 (x := (((hS (nI 1000 * (if p = 0 then nI 10 else nI 10 - zDr σ b)) (dd (zDr σ) od) p k) * (zDr σ (od (p + 1 + k)))) / (nI 10))) rfl ?_
        refine Z.iadd B dX1_headsOf_72 ?_
        refine Z.istore B dX1_headsOf_73 (by decide) (L' := [(0, .ref 20), (1, .int (nI b)), (2, .int (nI p)), (3, .int (((hS (nI 1000 * (if p = 0 then nI 10 else nI 10 - zDr σ b)) (dd (zDr σ) od) p k) * (zDr σ (od (p + 1 + k)))) / (nI 10))), (4, .int ((hH (nI 1000 * (if p = 0 then nI 10 else nI 10 - zDr σ b)) (dd (zDr σ) od) p k) + (((hS (nI 1000 * (if p = 0 then nI 10 else nI 10 - zDr σ b)) (dd (zDr σ) od) p k) * (zDr σ (od (p + 1 + k)))) / (nI 10)))), (5, .int (nI (p + 1 + k)))]) rfl ?_
        refine Z.iincN B dX1_headsOf_75 (by decide) (a := p + 1 + k) rfl (L' := [(0, .ref 20), (1, .int (nI b)), (2, .int (nI p)), (3, .int (((hS (nI 1000 * (if p = 0 then nI 10 else nI 10 - zDr σ b)) (dd (zDr σ) od) p k) * (zDr σ (od (p + 1 + k)))) / (nI 10))), (4, .int ((hH (nI 1000 * (if p = 0 then nI 10 else nI 10 - zDr σ b)) (dd (zDr σ) od) p k) + (((hS (nI 1000 * (if p = 0 then nI 10 else nI 10 - zDr σ b)) (dd (zDr σ) od) p k) * (zDr σ (od (p + 1 + k)))) / (nI 10)))), (5, .int (nI (p + 1 + k + 1)))]) rfl ?_
        refine Z.goto B dX1_headsOf_78 (tgt := 37) rfl ?_
        have e := ih (k + 1) (by omega) (by omega)
        exact e
    exact hloop37 0 (Nat.zero_le _)
  · skip
    refine Z.bipush B dX1_headsOf_13 (v := nI 10) rfl ?_
    refine Z.goto B dX1_headsOf_15 (tgt := 27) rfl ?_
    refine Z.imulv B dX1_headsOf_27 (v := (nI 1000 * (if p = 0 then nI 10 else nI 10 - zDr σ b))) (by first | rw [if_pos h10] | rw [if_neg h10]) ?_
    refine Z.istore_n B dX1_headsOf_28 (by decide) (L' := [(0, .ref 20), (1, .int (nI b)), (2, .int (nI p)), (3, .int (nI 1000 * (if p = 0 then nI 10 else nI 10 - zDr σ b)))]) rfl ?_
    refine Z.iload_n B dX1_headsOf_29 (x := (nI 1000 * (if p = 0 then nI 10 else nI 10 - zDr σ b))) rfl ?_
    refine Z.istore B dX1_headsOf_30 (by decide) (L' := [(0, .ref 20), (1, .int (nI b)), (2, .int (nI p)), (3, .int (nI 1000 * (if p = 0 then nI 10 else nI 10 - zDr σ b))), (4, .int (nI 1000 * (if p = 0 then nI 10 else nI 10 - zDr σ b)))]) rfl ?_
    refine Z.iload_n B dX1_headsOf_32 (x := nI p) rfl ?_
    refine Z.iconst B dX1_headsOf_33 (v := nI 1) rfl ?_
    refine Z.iaddN B dX1_headsOf_34 (a := p) (b := 1) ?_
    refine Z.istore B dX1_headsOf_35 (by decide) (L' := [(0, .ref 20), (1, .int (nI b)), (2, .int (nI p)), (3, .int (nI 1000 * (if p = 0 then nI 10 else nI 10 - zDr σ b))), (4, .int (nI 1000 * (if p = 0 then nI 10 else nI 10 - zDr σ b))), (5, .int (nI (p + 1)))]) rfl ?_
    have hloop37 : ∀ k : Nat, k ≤ a - p - 1 → Z κ 0 0 σ 37 [(0, .ref 20), (1, .int (nI b)), (2, .int (nI p)), (3, .int (hS (nI 1000 * (if p = 0 then nI 10 else nI 10 - zDr σ b)) (dd (zDr σ) od) p k)), (4, .int (hH (nI 1000 * (if p = 0 then nI 10 else nI 10 - zDr σ b)) (dd (zDr σ) od) p k)), (5, .int (nI (p + 1 + k)))] [] := by
      refine z_loop (fun k => a - k) (fun k ih hk => ?_)
      refine Z.iload B dX1_headsOf_37 (x := nI (p + 1 + k)) rfl ?_
      refine Z.if_leN B dX1_headsOf_39 (tgt := 81) rfl (by omega) (fun h39 => by exfalso; first | omega | contradiction | simp_all) (fun h39 => ?_)
      refine Z.iload B dX1_headsOf_42 (x := nI (p + 1 + k)) rfl ?_
      refine Z.aload_n B dX1_headsOf_44 (v := .ref 20) rfl rfl ?_
      refine Z.getI (σ := σ) B fX1_41_1 dX1_headsOf_45 (hl.n (k := 20) (by decide)) (hl.k (k := 20) (by decide)) (by decide) (v := nI a) ha ?_
      refine Z.icmp_geN B dX1_headsOf_48 (tgt := 81) rfl (by omega) (by omega) (fun h48 => ?_) (fun h48 => ?_)
      · skip
        obtain rfl : (a - p - 1) = k := by omega
        refine Z.iload B dX1_headsOf_81 (x := hH (nI 1000 * (if p = 0 then nI 10 else nI 10 - zDr σ b)) (dd (zDr σ) od) p (a - p - 1)) rfl ?_
        refine Z.iret B Rt dX1_headsOf_83 (ty := .int) rfl rfl (by decide) (by decide) ?_
        exact ⟨rfl, rfl⟩
      · skip
        refine Z.iload_n B dX1_headsOf_51 (x := hS (nI 1000 * (if p = 0 then nI 10 else nI 10 - zDr σ b)) (dd (zDr σ) od) p k) rfl ?_
        refine Z.aload_n B dX1_headsOf_52 (v := .ref 20) rfl rfl ?_
        refine Z.aload_n B dX1_headsOf_53 (v := .ref 20) rfl rfl ?_
        refine Z.getR (σ := σ) B fX1_22_1 dX1_headsOf_54 (hl.n (k := 20) (by decide)) (hl.k (k := 20) (by decide)) (by decide) (j := 23) (hl.r (k := 20) (f := 4) (by decide) (by decide)) ?_
        refine Z.iload B dX1_headsOf_57 (x := nI (p + 1 + k)) rfl ?_
        refine Z.iald (σ := σ) B dX1_headsOf_59 (n := 4) (hl.n (k := 23) (by decide)) (hl.k (k := 23) (by decide)) (hl.l (k := 23) (by decide)) (by decide) (j := p + 1 + k) rfl (by omega) (v := nI (od (p + 1 + k))) (ho (p + 1 + k) (by omega)).1 ?_
        refine Z.iconst B dX1_headsOf_60 (v := nI 2) rfl ?_
        refine Z.callVI (σ := σ) B (M' := mX1_askerNumber) (as := [.int (nI (od (p + 1 + k))), .int (nI 2)]) (st := [.int (hS (nI 1000 * (if p = 0 then nI 10 else nI 10 - zDr σ b)) (dd (zDr σ) od) p k)]) (v := .int (zDr σ (od (p + 1 + k)))) dX1_headsOf_61 wX1_askerNumber iX1_askerNumber sX1_askerNumber kX1_99 (hl.n (k := 20) (by decide)) (hl.k (k := 20) (by decide)) (by decide) rfl rfl (t_X1_askerNumber (σ := σ) H (ho (p + 1 + k) (by omega)).2 (by decide)) rfl rfl (by decide) (by decide) (Nat.le_of_ble_eq_true rfl) (by decide) (by decide) ?_
        refine Z.imul B dX1_headsOf_64 ?_
        refine Z.bipush B dX1_headsOf_65 (v := nI 10) rfl ?_
        refine Z.idiv B dX1_headsOf_67 (by decide) ?_
        refine Z.istore_n B dX1_headsOf_68 (by decide) (L' := [(0, .ref 20), (1, .int (nI b)), (2, .int (nI p)), (3, .int (((hS (nI 1000 * (if p = 0 then nI 10 else nI 10 - zDr σ b)) (dd (zDr σ) od) p k) * (zDr σ (od (p + 1 + k)))) / (nI 10))), (4, .int (hH (nI 1000 * (if p = 0 then nI 10 else nI 10 - zDr σ b)) (dd (zDr σ) od) p k)), (5, .int (nI (p + 1 + k)))]) rfl ?_
        refine Z.iload B dX1_headsOf_69 (x := hH (nI 1000 * (if p = 0 then nI 10 else nI 10 - zDr σ b)) (dd (zDr σ) od) p k) rfl ?_
        refine Z.iload_n B dX1_headsOf_71 (x := (((hS (nI 1000 * (if p = 0 then nI 10 else nI 10 - zDr σ b)) (dd (zDr σ) od) p k) * (zDr σ (od (p + 1 + k)))) / (nI 10))) rfl ?_
        refine Z.iadd B dX1_headsOf_72 ?_
        refine Z.istore B dX1_headsOf_73 (by decide) (L' := [(0, .ref 20), (1, .int (nI b)), (2, .int (nI p)), (3, .int (((hS (nI 1000 * (if p = 0 then nI 10 else nI 10 - zDr σ b)) (dd (zDr σ) od) p k) * (zDr σ (od (p + 1 + k)))) / (nI 10))), (4, .int ((hH (nI 1000 * (if p = 0 then nI 10 else nI 10 - zDr σ b)) (dd (zDr σ) od) p k) + (((hS (nI 1000 * (if p = 0 then nI 10 else nI 10 - zDr σ b)) (dd (zDr σ) od) p k) * (zDr σ (od (p + 1 + k)))) / (nI 10)))), (5, .int (nI (p + 1 + k)))]) rfl ?_
        refine Z.iincN B dX1_headsOf_75 (by decide) (a := p + 1 + k) rfl (L' := [(0, .ref 20), (1, .int (nI b)), (2, .int (nI p)), (3, .int (((hS (nI 1000 * (if p = 0 then nI 10 else nI 10 - zDr σ b)) (dd (zDr σ) od) p k) * (zDr σ (od (p + 1 + k)))) / (nI 10))), (4, .int ((hH (nI 1000 * (if p = 0 then nI 10 else nI 10 - zDr σ b)) (dd (zDr σ) od) p k) + (((hS (nI 1000 * (if p = 0 then nI 10 else nI 10 - zDr σ b)) (dd (zDr σ) od) p k) * (zDr σ (od (p + 1 + k)))) / (nI 10)))), (5, .int (nI (p + 1 + k + 1)))]) rfl ?_
        refine Z.goto B dX1_headsOf_78 (tgt := 37) rfl ?_
        have e := ih (k + 1) (by omega) (by omega)
        exact e
    exact hloop37 0 (Nat.zero_le _)

theorem t_X1_draw {σ : zSt} (hl : Lay σ) {n : Nat} (h0 : 0 < n) (h10 : n ≤ 10) : Dt mX1_draw [.ref 20, .int (nI n)] σ (some (.int (dv (nx (zX σ 20 8)) n))) (zuX σ 20 (upd (zX σ 20) 8 (nx (zX σ 20 8)))) := by
  refine Dt.of (by decide) (Nat.le_of_ble_eq_true rfl) fun κ B Rt => ?_
  show Z κ 0 0 σ 0 [(0, .ref 20), (1, .int (nI n))] []
  refine Z.aload_n B dX1_draw_0 (v := .ref 20) rfl rfl ?_
  refine Z.aload_n B dX1_draw_1 (v := .ref 20) rfl rfl ?_
  refine Z.getI (σ := σ) B fX1_47_1 dX1_draw_2 (hl.n (k := 20) (by decide)) (hl.k (k := 20) (by decide)) (by decide) (v := (zX σ 20 8)) rfl ?_
  refine Z.ldc B dX1_draw_5 (v := (1103515245 : Int32)) (zT_at 949 (by decide +kernel) rfl) ?_
  refine Z.imul B dX1_draw_7 ?_
  refine Z.sipush B dX1_draw_8 (v := nI 12345) rfl ?_
  refine Z.iadd B dX1_draw_11 ?_
  refine Z.putI (σ := σ) B fX1_47_1 (ty := .int) ⟨_, _, _, rfl, rfl, by decide +kernel⟩ dX1_draw_12 (hl.n (k := 20) (by decide)) (hl.k (k := 20) (by decide)) (by decide) rfl rfl (τ := (zuX σ 20 (upd (zX σ 20) 8 (((zX σ 20 8) * (1103515245 : Int32)) + (nI 12345))))) rfl ?_
  refine Z.iload_n B dX1_draw_15 (x := nI n) rfl ?_
  refine Z.if_leN B dX1_draw_16 (tgt := 31) rfl (by omega) (fun h16 => by exfalso; first | omega | contradiction | simp_all) (fun h16 => ?_)
  refine Z.aload_n B dX1_draw_19 (v := .ref 20) rfl rfl ?_
  refine Z.getI (σ := (zuX σ 20 (upd (zX σ 20) 8 (((zX σ 20 8) * (1103515245 : Int32)) + (nI 12345))))) B fX1_47_1 dX1_draw_20 (hl.n (k := 20) (by decide)) (hl.k (k := 20) (by decide)) (by decide) (v := (nx (zX σ 20 8))) (by simp only [zX_self, pk_us]; rfl) ?_
  refine Z.bipush B dX1_draw_23 (v := nI 16) rfl ?_
  refine Z.iushr B dX1_draw_25 ?_
  refine Z.iload_n B dX1_draw_26 (x := nI n) rfl ?_
  refine Z.irem B dX1_draw_27 (nI_ne0 h0 (by omega)) ?_
  refine Z.goto B dX1_draw_28 (tgt := 32) rfl ?_
  refine Z.iret B Rt dX1_draw_32 (ty := .int) rfl rfl (by decide) (by decide) ?_
  exact ⟨rfl, rfl⟩

theorem t_X1_addDrawnComer {σ : zSt} {n a y : Nat} (H : zHd σ n a y) (hn1 : n < 8) : Dt mX1_addDrawnComer [.ref 20] σ (none) (zuX (zuX σ 20 (upd (upd (zX σ 20) 8 (sq (zX σ 20 8) 6)) 2 (nI (n + 1)))) 21 (dw (zX σ 21) n (zX σ 20 8) 6)) := by
  obtain ⟨hl, hn, hn8, ha, ha4, hy, hy8⟩ := id H
  refine Dt.of (by decide) (Nat.le_of_ble_eq_true rfl) fun κ B Rt => ?_
  show Z κ 0 0 σ 0 [(0, .ref 20)] []
  refine Z.aload_n B dX1_addDrawnComer_0 (v := .ref 20) rfl rfl ?_
  refine Z.getI (σ := σ) B fX1_37_1 dX1_addDrawnComer_1 (hl.n (k := 20) (by decide)) (hl.k (k := 20) (by decide)) (by decide) (v := nI n) hn ?_
  refine Z.bipush B dX1_addDrawnComer_4 (v := nI 8) rfl ?_
  refine Z.icmp_geN B dX1_addDrawnComer_6 (tgt := 60) rfl (by omega) (by omega) (fun h6 => by exfalso; first | omega | contradiction | simp_all) (fun h6 => ?_)
  refine Z.aload_n B dX1_addDrawnComer_9 (v := .ref 20) rfl rfl ?_
  refine Z.getI (σ := σ) B fX1_37_1 dX1_addDrawnComer_10 (hl.n (k := 20) (by decide)) (hl.k (k := 20) (by decide)) (by decide) (v := nI n) hn ?_
  refine Z.bipush B dX1_addDrawnComer_13 (v := nI 6) rfl ?_
  refine Z.imulN B dX1_addDrawnComer_15 (a := n) (b := 6) ?_
  refine Z.istore_n B dX1_addDrawnComer_16 (by decide) (L' := [(0, .ref 20), (1, .int (nI (n * 6)))]) rfl ?_
  refine Z.iconst B dX1_addDrawnComer_17 (v := nI 0) rfl ?_
  refine Z.istore_n B dX1_addDrawnComer_18 (by decide) (L' := [(0, .ref 20), (1, .int (nI (n * 6))), (2, .int (nI 0))]) rfl ?_
  have hloop19 : ∀ i : Nat, i ≤ 6 → Z κ 0 0 (zuX (zuX σ 20 (upd (zX σ 20) 8 (sq (zX σ 20 8) i))) 21 (dw (zX σ 21) n (zX σ 20 8) i)) 19 [(0, .ref 20), (1, .int (nI (n * 6))), (2, .int (nI i))] [] := by
    refine z_loop (fun i => 6 - i) (fun i ih hi => ?_)
    refine Z.iload_n B dX1_addDrawnComer_19 (x := nI i) rfl ?_
    refine Z.bipush B dX1_addDrawnComer_20 (v := nI 6) rfl ?_
    refine Z.icmp_geN B dX1_addDrawnComer_22 (tgt := 50) rfl (by omega) (by omega) (fun h22 => ?_) (fun h22 => ?_)
    · skip
      obtain rfl : 6 = i := by omega
      refine Z.aload_n B dX1_addDrawnComer_50 (v := .ref 20) rfl rfl ?_
      refine Z.dup B dX1_addDrawnComer_51 rfl ?_
      have hn6 : zX (zuX (zuX σ 20 (upd (zX σ 20) 8 (sq (zX σ 20 8) 6))) 21 (dw (zX σ 21) n (zX σ 20 8) 6)) 20 2 = nI n := hn
      refine Z.getI (σ := (zuX (zuX σ 20 (upd (zX σ 20) 8 (sq (zX σ 20 8) 6))) 21 (dw (zX σ 21) n (zX σ 20 8) 6))) B fX1_37_1 dX1_addDrawnComer_52 (hl.n (k := 20) (by decide)) (hl.k (k := 20) (by decide)) (by decide) (v := nI n) hn6 ?_
      refine Z.iconst B dX1_addDrawnComer_55 (v := nI 1) rfl ?_
      refine Z.iaddN B dX1_addDrawnComer_56 (a := n) (b := 1) ?_
      refine Z.putI (σ := (zuX (zuX σ 20 (upd (zX σ 20) 8 (sq (zX σ 20 8) 6))) 21 (dw (zX σ 21) n (zX σ 20 8) 6))) B fX1_37_1 (ty := .int) ⟨_, _, _, rfl, rfl, by decide +kernel⟩ dX1_addDrawnComer_57 (hl.n (k := 20) (by decide)) (hl.k (k := 20) (by decide)) (by decide) rfl rfl (τ := (zuX (zuX σ 20 (upd (upd (zX σ 20) 8 (sq (zX σ 20 8) 6)) 2 (nI (n + 1)))) 21 (dw (zX σ 21) n (zX σ 20 8) 6))) (by rw [zuX_sw (by decide)]; rfl) ?_
      refine Z.vret B Rt dX1_addDrawnComer_60 rfl (by decide) (by decide) ?_
      exact ⟨rfl, rfl⟩
    · skip
      refine Z.aload_n B dX1_addDrawnComer_25 (v := .ref 20) rfl rfl ?_
      refine Z.getR (σ := (zuX (zuX σ 20 (upd (zX σ 20) 8 (sq (zX σ 20 8) i))) 21 (dw (zX σ 21) n (zX σ 20 8) i))) B fX1_15_1 dX1_addDrawnComer_26 (hl.n (k := 20) (by decide)) (hl.k (k := 20) (by decide)) (by decide) (j := 21) (hl.r (k := 20) (f := 1) (by decide) (by decide)) ?_
      refine Z.iload_n B dX1_addDrawnComer_29 (x := nI (n * 6)) rfl ?_
      refine Z.iload_n B dX1_addDrawnComer_30 (x := nI i) rfl ?_
      refine Z.iaddN B dX1_addDrawnComer_31 (a := n * 6) (b := i) ?_
      refine Z.aload_n B dX1_addDrawnComer_32 (v := .ref 20) rfl rfl ?_
      refine Z.getsN B (x := 0) zKon0 (by decide +kernel) dX1_addDrawnComer_33 ?_
      refine Z.iload_n B dX1_addDrawnComer_36 (x := nI i) rfl ?_
      refine Z.cld B (j := i) zKt0 dX1_addDrawnComer_37 (by decide) (by omega) (v := nI (mo i)) (mo_A (by omega)) ?_
      refine Z.iconst B dX1_addDrawnComer_38 (v := nI 1) rfl ?_
      refine Z.iaddN B dX1_addDrawnComer_39 (a := mo i) (b := 1) ?_
      have hmo : mo i ≤ 9 := mo_le
      refine Z.callVI (σ := (zuX (zuX σ 20 (upd (zX σ 20) 8 (sq (zX σ 20 8) i))) 21 (dw (zX σ 21) n (zX σ 20 8) i))) B (M' := mX1_draw) (as := [.int (nI ((mo i) + 1))]) (st := [.int (nI ((n * 6) + i)), .ref 21]) (v := .int (dv (sq (zX σ 20 8) (i + 1)) (mo i + 1))) dX1_addDrawnComer_40 wX1_draw iX1_draw sX1_draw kX1_87 (hl.n (k := 20) (by decide)) (hl.k (k := 20) (by decide)) (by decide) rfl rfl (t_X1_draw (σ := (zuX (zuX σ 20 (upd (zX σ 20) 8 (sq (zX σ 20 8) i))) 21 (dw (zX σ 21) n (zX σ 20 8) i))) hl (n := mo i + 1) (by omega) (by omega)) rfl rfl (by decide) (by decide) (Nat.le_of_ble_eq_true rfl) (by decide) (by decide) ?_
      refine Z.eqσ (τ := (zuX (zuX σ 20 (upd (zX σ 20) 8 (sq (zX σ 20 8) (i + 1)))) 21 (dw (zX σ 21) n (zX σ 20 8) i))) (by rw [show zX (zuX (zuX σ 20 (upd (zX σ 20) 8 (sq (zX σ 20 8) i))) 21 (dw (zX σ 21) n (zX σ 20 8) i)) 20 = upd (zX σ 20) 8 (sq (zX σ 20 8) i) from rfl, upd_upd, pk_us, zuX_sw (by decide)]; rfl) ?_
      refine Z.iast (σ := (zuX (zuX σ 20 (upd (zX σ 20) 8 (sq (zX σ 20 8) (i + 1)))) 21 (dw (zX σ 21) n (zX σ 20 8) i))) B dX1_addDrawnComer_43 (n := 48) (hl.n (k := 21) (by decide)) (hl.k (k := 21) (by decide)) (hl.l (k := 21) (by decide)) (by decide) (j := (n * 6) + i) rfl (by omega) (τ := (zuX (zuX σ 20 (upd (zX σ 20) 8 (sq (zX σ 20 8) (i + 1)))) 21 (dw (zX σ 21) n (zX σ 20 8) (i + 1)))) (by rw [zX_self, zuX_uX]; rfl) ?_
      refine Z.iincN B dX1_addDrawnComer_44 (by decide) (a := i) rfl (L' := [(0, .ref 20), (1, .int (nI (n * 6))), (2, .int (nI (i + 1)))]) rfl ?_
      refine Z.goto B dX1_addDrawnComer_47 (tgt := 19) rfl ?_
      exact ih (i + 1) (by omega) (by omega)
  have h0 := hloop19 0 (Nat.zero_le _)
  have e0 : dw (zX σ 21) n (zX σ 20 8) 0 = zX (zuX σ 20 (zX σ 20)) 21 := rfl
  have e1 : sq (zX σ 20 8) 0 = zX σ 20 8 := rfl
  rw [e1, upd_id, e0, zuX_id, zuX_id] at h0
  exact h0

theorem t_X1_addComer {σ : zSt} {n a y : Nat} (hl : Lay σ) (hn : zX σ 20 2 = nI n) (hn8 : n ≤ 8) (ha : zX σ 20 5 = nI a) (ha4 : a ≤ 4) (hy : zX σ 20 7 = nI y) (hy8 : y ≤ 8) (hn1 : n < 8) : Dt mX1_addComer [.ref 20, .ref 44] σ (some (.int (nI n))) (zuX (zuX σ 21 (va_cpy (zX σ 44) (zX σ 21) 0 (n * 6) 6)) 20 (upd (zX σ 20) 2 (nI (n + 1)))) := by
  refine Dt.of (by decide) (Nat.le_of_ble_eq_true rfl) fun κ B Rt => ?_
  show Z κ 0 0 σ 0 [(0, .ref 20), (1, .ref 44)] []
  refine Z.aload_n B dX1_addComer_0 (v := .ref 20) rfl rfl ?_
  refine Z.getI (σ := σ) B fX1_37_1 dX1_addComer_1 (hl.n (k := 20) (by decide)) (hl.k (k := 20) (by decide)) (by decide) (v := nI n) hn ?_
  refine Z.bipush B dX1_addComer_4 (v := nI 8) rfl ?_
  refine Z.icmp_geN B dX1_addComer_6 (tgt := 16) rfl (by omega) (by omega) (fun h6 => by exfalso; first | omega | contradiction | simp_all) (fun h6 => ?_)
  refine Z.aload_n B dX1_addComer_9 (v := .ref 44) rfl rfl ?_
  refine Z.alen (σ := σ) B dX1_addComer_10 (hl.n (k := 44) (by decide)) (t := 0) (hl.k (k := 44) (by decide)) (by decide) (n := 6) (hl.l (k := 44) (by decide)) (v := nI 6) rfl ?_
  refine Z.bipush B dX1_addComer_11 (v := nI 6) rfl ?_
  refine Z.icmp_geN B dX1_addComer_13 (tgt := 18) rfl (by omega) (by omega) (fun h13 => ?_) (fun h13 => by exfalso; first | omega | contradiction | simp_all)
  refine Z.aload_n B dX1_addComer_18 (v := .ref 44) rfl rfl ?_
  refine Z.iconst B dX1_addComer_19 (v := nI 0) rfl ?_
  refine Z.aload_n B dX1_addComer_20 (v := .ref 20) rfl rfl ?_
  refine Z.getR (σ := σ) B fX1_15_1 dX1_addComer_21 (hl.n (k := 20) (by decide)) (hl.k (k := 20) (by decide)) (by decide) (j := 21) (hl.r (k := 20) (f := 1) (by decide) (by decide)) ?_
  refine Z.aload_n B dX1_addComer_24 (v := .ref 20) rfl rfl ?_
  refine Z.getI (σ := σ) B fX1_37_1 dX1_addComer_25 (hl.n (k := 20) (by decide)) (hl.k (k := 20) (by decide)) (by decide) (v := nI n) hn ?_
  refine Z.bipush B dX1_addComer_28 (v := nI 6) rfl ?_
  refine Z.imulN B dX1_addComer_30 (a := n) (b := 6) ?_
  refine Z.bipush B dX1_addComer_31 (v := nI 6) rfl ?_
  refine Z.copyI (σ := σ) B (k := 44) (k2 := 21) (sp := 0) (dp := n * 6) (n := 6) (n1 := 6) (n2 := 48) dX1_addComer_33 kX1_50 (by decide) (Nat.le_of_ble_eq_true rfl) (hl.n (k := 44) (by decide)) (hl.k (k := 44) (by decide)) (hl.l (k := 44) (by decide)) (hl.n (k := 21) (by decide)) (hl.k (k := 21) (by decide)) (hl.l (k := 21) (by decide)) (by omega) (by omega) (by decide) (by decide) (τ := (zuX σ 21 (va_cpy (zX σ 44) (zX σ 21) 0 (n * 6) 6))) rfl ?_
  refine Z.aload_n B dX1_addComer_36 (v := .ref 20) rfl rfl ?_
  refine Z.dup B dX1_addComer_37 rfl ?_
  refine Z.getI (σ := (zuX σ 21 (va_cpy (zX σ 44) (zX σ 21) 0 (n * 6) 6))) B fX1_37_1 dX1_addComer_38 (hl.n (k := 20) (by decide)) (hl.k (k := 20) (by decide)) (by decide) (v := nI n) hn ?_
  refine Z.iconst B dX1_addComer_41 (v := nI 1) rfl ?_
  refine Z.iaddN B dX1_addComer_42 (a := n) (b := 1) ?_
  refine Z.putI (σ := (zuX σ 21 (va_cpy (zX σ 44) (zX σ 21) 0 (n * 6) 6))) B fX1_37_1 (ty := .int) ⟨_, _, _, rfl, rfl, by decide +kernel⟩ dX1_addComer_43 (hl.n (k := 20) (by decide)) (hl.k (k := 20) (by decide)) (by decide) rfl rfl (τ := (zuX (zuX σ 21 (va_cpy (zX σ 44) (zX σ 21) 0 (n * 6) 6)) 20 (upd (zX σ 20) 2 (nI (n + 1))))) rfl ?_
  refine Z.aload_n B dX1_addComer_46 (v := .ref 20) rfl rfl ?_
  refine Z.getI (σ := (zuX (zuX σ 21 (va_cpy (zX σ 44) (zX σ 21) 0 (n * 6) 6)) 20 (upd (zX σ 20) 2 (nI (n + 1))))) B fX1_37_1 dX1_addComer_47 (hl.n (k := 20) (by decide)) (hl.k (k := 20) (by decide)) (by decide) (v := nI (n + 1)) (by simp only [zX_self, pk_us]) ?_
  refine Z.iconst B dX1_addComer_50 (v := nI 1) rfl ?_
  refine Z.isubv B dX1_addComer_51 (v := nI n) (by rw [pk_sub (by omega)]; rfl) ?_
  refine Z.iret B Rt dX1_addComer_52 (ty := .int) rfl rfl (by decide) (by decide) ?_
  exact ⟨rfl, rfl⟩

theorem t_X1_addAsker {σ : zSt} {n a y : Nat} (hl : Lay σ) (hn : zX σ 20 2 = nI n) (hn8 : n ≤ 8) (ha : zX σ 20 5 = nI a) (ha4 : a ≤ 4) (hy : zX σ 20 7 = nI y) (hy8 : y ≤ 8) {s l d : Int32} (ha1 : a < 4) : Dt mX1_addAsker [.ref 20, .int s, .int l, .int d] σ (some (.int (nI a))) (zuX (zuX (zuX σ 22 (upd (upd (upd (zX σ 22) (a * 3) s) (a * 3 + 1) l) (a * 3 + 2) d)) 23 (upd (zX σ 23) a (nI a))) 20 (upd (zX σ 20) 5 (nI (a + 1)))) := by
  refine Dt.of (by decide) (Nat.le_of_ble_eq_true rfl) fun κ B Rt => ?_
  show Z κ 0 0 σ 0 [(0, .ref 20), (1, .int s), (2, .int l), (3, .int d)] []
  refine Z.aload_n B dX1_addAsker_0 (v := .ref 20) rfl rfl ?_
  refine Z.getI (σ := σ) B fX1_41_1 dX1_addAsker_1 (hl.n (k := 20) (by decide)) (hl.k (k := 20) (by decide)) (by decide) (v := nI a) ha ?_
  refine Z.iconst B dX1_addAsker_4 (v := nI 4) rfl ?_
  refine Z.icmp_ltN B dX1_addAsker_5 (tgt := 10) rfl (by omega) (by omega) (fun h5 => ?_) (fun h5 => by exfalso; first | omega | contradiction | simp_all)
  refine Z.aload_n B dX1_addAsker_10 (v := .ref 20) rfl rfl ?_
  refine Z.getI (σ := σ) B fX1_41_1 dX1_addAsker_11 (hl.n (k := 20) (by decide)) (hl.k (k := 20) (by decide)) (by decide) (v := nI a) ha ?_
  refine Z.iconst B dX1_addAsker_14 (v := nI 3) rfl ?_
  refine Z.imulN B dX1_addAsker_15 (a := a) (b := 3) ?_
  refine Z.istore B dX1_addAsker_16 (by decide) (L' := [(0, .ref 20), (1, .int s), (2, .int l), (3, .int d), (4, .int (nI (a * 3)))]) rfl ?_
  refine Z.aload_n B dX1_addAsker_18 (v := .ref 20) rfl rfl ?_
  refine Z.getR (σ := σ) B fX1_19_1 dX1_addAsker_19 (hl.n (k := 20) (by decide)) (hl.k (k := 20) (by decide)) (by decide) (j := 22) (hl.r (k := 20) (f := 3) (by decide) (by decide)) ?_
  refine Z.iload B dX1_addAsker_22 (x := nI (a * 3)) rfl ?_
  refine Z.iconst B dX1_addAsker_24 (v := nI 0) rfl ?_
  refine Z.iaddN B dX1_addAsker_25 (a := a * 3) (b := 0) ?_
  refine Z.iload_n B dX1_addAsker_26 (x := s) rfl ?_
  refine Z.iast (σ := σ) B dX1_addAsker_27 (n := 12) (hl.n (k := 22) (by decide)) (hl.k (k := 22) (by decide)) (hl.l (k := 22) (by decide)) (by decide) (j := (a * 3) + 0) rfl (by omega) (τ := (zuX σ 22 (upd (zX σ 22) (a * 3) s))) rfl ?_
  refine Z.aload_n B dX1_addAsker_28 (v := .ref 20) rfl rfl ?_
  refine Z.getR (σ := (zuX σ 22 (upd (zX σ 22) (a * 3) s))) B fX1_19_1 dX1_addAsker_29 (hl.n (k := 20) (by decide)) (hl.k (k := 20) (by decide)) (by decide) (j := 22) (hl.r (k := 20) (f := 3) (by decide) (by decide)) ?_
  refine Z.iload B dX1_addAsker_32 (x := nI (a * 3)) rfl ?_
  refine Z.iconst B dX1_addAsker_34 (v := nI 1) rfl ?_
  refine Z.iaddN B dX1_addAsker_35 (a := a * 3) (b := 1) ?_
  refine Z.iload_n B dX1_addAsker_36 (x := l) rfl ?_
  refine Z.iast (σ := (zuX σ 22 (upd (zX σ 22) (a * 3) s))) B dX1_addAsker_37 (n := 12) (hl.n (k := 22) (by decide)) (hl.k (k := 22) (by decide)) (hl.l (k := 22) (by decide)) (by decide) (j := (a * 3) + 1) rfl (by omega) (τ := (zuX σ 22 (upd (upd (zX σ 22) (a * 3) s) ((a * 3) + 1) l))) (by simp only [zX_self, zuX_uX]) ?_
  refine Z.aload_n B dX1_addAsker_38 (v := .ref 20) rfl rfl ?_
  refine Z.getR (σ := (zuX σ 22 (upd (upd (zX σ 22) (a * 3) s) ((a * 3) + 1) l))) B fX1_19_1 dX1_addAsker_39 (hl.n (k := 20) (by decide)) (hl.k (k := 20) (by decide)) (by decide) (j := 22) (hl.r (k := 20) (f := 3) (by decide) (by decide)) ?_
  refine Z.iload B dX1_addAsker_42 (x := nI (a * 3)) rfl ?_
  refine Z.iconst B dX1_addAsker_44 (v := nI 2) rfl ?_
  refine Z.iaddN B dX1_addAsker_45 (a := a * 3) (b := 2) ?_
  refine Z.iload_n B dX1_addAsker_46 (x := d) rfl ?_
  refine Z.iast (σ := (zuX σ 22 (upd (upd (zX σ 22) (a * 3) s) ((a * 3) + 1) l))) B dX1_addAsker_47 (n := 12) (hl.n (k := 22) (by decide)) (hl.k (k := 22) (by decide)) (hl.l (k := 22) (by decide)) (by decide) (j := (a * 3) + 2) rfl (by omega) (τ := (zuX σ 22 (upd (upd (upd (zX σ 22) (a * 3) s) ((a * 3) + 1) l) ((a * 3) + 2) d))) (by simp only [zX_self, zuX_uX]) ?_
  refine Z.aload_n B dX1_addAsker_48 (v := .ref 20) rfl rfl ?_
  refine Z.getR (σ := (zuX σ 22 (upd (upd (upd (zX σ 22) (a * 3) s) ((a * 3) + 1) l) ((a * 3) + 2) d))) B fX1_22_1 dX1_addAsker_49 (hl.n (k := 20) (by decide)) (hl.k (k := 20) (by decide)) (by decide) (j := 23) (hl.r (k := 20) (f := 4) (by decide) (by decide)) ?_
  refine Z.aload_n B dX1_addAsker_52 (v := .ref 20) rfl rfl ?_
  refine Z.getI (σ := (zuX σ 22 (upd (upd (upd (zX σ 22) (a * 3) s) ((a * 3) + 1) l) ((a * 3) + 2) d))) B fX1_41_1 dX1_addAsker_53 (hl.n (k := 20) (by decide)) (hl.k (k := 20) (by decide)) (by decide) (v := nI a) ha ?_
  refine Z.aload_n B dX1_addAsker_56 (v := .ref 20) rfl rfl ?_
  refine Z.getI (σ := (zuX σ 22 (upd (upd (upd (zX σ 22) (a * 3) s) ((a * 3) + 1) l) ((a * 3) + 2) d))) B fX1_41_1 dX1_addAsker_57 (hl.n (k := 20) (by decide)) (hl.k (k := 20) (by decide)) (by decide) (v := nI a) ha ?_
  refine Z.iast (σ := (zuX σ 22 (upd (upd (upd (zX σ 22) (a * 3) s) ((a * 3) + 1) l) ((a * 3) + 2) d))) B dX1_addAsker_60 (n := 4) (hl.n (k := 23) (by decide)) (hl.k (k := 23) (by decide)) (hl.l (k := 23) (by decide)) (by decide) (j := a) rfl (by omega) (τ := (zuX (zuX σ 22 (upd (upd (upd (zX σ 22) (a * 3) s) ((a * 3) + 1) l) ((a * 3) + 2) d)) 23 (upd (zX σ 23) a (nI a)))) rfl ?_
  refine Z.aload_n B dX1_addAsker_61 (v := .ref 20) rfl rfl ?_
  refine Z.dup B dX1_addAsker_62 rfl ?_
  refine Z.getI (σ := (zuX (zuX σ 22 (upd (upd (upd (zX σ 22) (a * 3) s) ((a * 3) + 1) l) ((a * 3) + 2) d)) 23 (upd (zX σ 23) a (nI a)))) B fX1_41_1 dX1_addAsker_63 (hl.n (k := 20) (by decide)) (hl.k (k := 20) (by decide)) (by decide) (v := nI a) ha ?_
  refine Z.iconst B dX1_addAsker_66 (v := nI 1) rfl ?_
  refine Z.iaddN B dX1_addAsker_67 (a := a) (b := 1) ?_
  refine Z.putI (σ := (zuX (zuX σ 22 (upd (upd (upd (zX σ 22) (a * 3) s) ((a * 3) + 1) l) ((a * 3) + 2) d)) 23 (upd (zX σ 23) a (nI a)))) B fX1_41_1 (ty := .int) ⟨_, _, _, rfl, rfl, by decide +kernel⟩ dX1_addAsker_68 (hl.n (k := 20) (by decide)) (hl.k (k := 20) (by decide)) (by decide) rfl rfl (τ := (zuX (zuX (zuX σ 22 (upd (upd (upd (zX σ 22) (a * 3) s) ((a * 3) + 1) l) ((a * 3) + 2) d)) 23 (upd (zX σ 23) a (nI a))) 20 (upd (zX σ 20) 5 (nI (a + 1))))) rfl ?_
  refine Z.aload_n B dX1_addAsker_71 (v := .ref 20) rfl rfl ?_
  refine Z.getI (σ := (zuX (zuX (zuX σ 22 (upd (upd (upd (zX σ 22) (a * 3) s) ((a * 3) + 1) l) ((a * 3) + 2) d)) 23 (upd (zX σ 23) a (nI a))) 20 (upd (zX σ 20) 5 (nI (a + 1))))) B fX1_41_1 dX1_addAsker_72 (hl.n (k := 20) (by decide)) (hl.k (k := 20) (by decide)) (by decide) (v := nI (a + 1)) (by simp only [zX_self, pk_us]) ?_
  refine Z.iconst B dX1_addAsker_75 (v := nI 1) rfl ?_
  refine Z.isubv B dX1_addAsker_76 (v := nI a) (by rw [pk_sub (by omega)]; rfl) ?_
  refine Z.iret B Rt dX1_addAsker_77 (ty := .int) rfl rfl (by decide) (by decide) ?_
  exact ⟨rfl, rfl⟩

theorem t_X1_hasRoomFor_0_1 {σ : zSt} {n a y : Nat} (hl : Lay σ) (hn : zX σ 20 2 = nI n) (hn8 : n ≤ 8) (ha : zX σ 20 5 = nI a) (ha4 : a ≤ 4) (hy : zX σ 20 7 = nI y) (hy8 : y ≤ 8)(hw : n < 8) : Dt mX1_hasRoomFor [.ref 20, .int (nI 0)] σ (some (.int (nI 1))) σ := by
  refine Dt.of (by decide) (Nat.le_of_ble_eq_true rfl) fun κ B Rt => ?_
  show Z κ 0 0 σ 0 [(0, .ref 20), (1, .int (nI 0))] []
  refine Z.iload_n B dX1_hasRoomFor_0 (x := nI 0) rfl ?_
  refine Z.tabIn B dX1_hasRoomFor_1 (by decide) (by decide) (off := 27) (by decide) (tgt := 28) rfl ?_
  refine Z.aload_n B dX1_hasRoomFor_28 (v := .ref 20) rfl rfl ?_
  refine Z.getI (σ := σ) B fX1_37_1 dX1_hasRoomFor_29 (hl.n (k := 20) (by decide)) (hl.k (k := 20) (by decide)) (by decide) (v := nI n) hn ?_
  refine Z.bipush B dX1_hasRoomFor_32 (v := nI 8) rfl ?_
  refine Z.icmp_geN B dX1_hasRoomFor_34 (tgt := 41) rfl (by omega) (by omega) (fun h34 => by exfalso; first | omega | contradiction | simp_all) (fun h34 => ?_)
  refine Z.iconst B dX1_hasRoomFor_37 (v := nI 1) rfl ?_
  refine Z.goto B dX1_hasRoomFor_38 (tgt := 42) rfl ?_
  refine Z.iret B Rt dX1_hasRoomFor_42 (ty := .boolean) rfl rfl (by decide) (by decide) ?_
  exact ⟨rfl, rfl⟩

theorem t_X1_hasRoomFor_0_0 {σ : zSt} {n a y : Nat} (hl : Lay σ) (hn : zX σ 20 2 = nI n) (hn8 : n ≤ 8) (ha : zX σ 20 5 = nI a) (ha4 : a ≤ 4) (hy : zX σ 20 7 = nI y) (hy8 : y ≤ 8)(hw : n = 8) : Dt mX1_hasRoomFor [.ref 20, .int (nI 0)] σ (some (.int (nI 0))) σ := by
  refine Dt.of (by decide) (Nat.le_of_ble_eq_true rfl) fun κ B Rt => ?_
  show Z κ 0 0 σ 0 [(0, .ref 20), (1, .int (nI 0))] []
  refine Z.iload_n B dX1_hasRoomFor_0 (x := nI 0) rfl ?_
  refine Z.tabIn B dX1_hasRoomFor_1 (by decide) (by decide) (off := 27) (by decide) (tgt := 28) rfl ?_
  refine Z.aload_n B dX1_hasRoomFor_28 (v := .ref 20) rfl rfl ?_
  refine Z.getI (σ := σ) B fX1_37_1 dX1_hasRoomFor_29 (hl.n (k := 20) (by decide)) (hl.k (k := 20) (by decide)) (by decide) (v := nI n) hn ?_
  refine Z.bipush B dX1_hasRoomFor_32 (v := nI 8) rfl ?_
  refine Z.icmp_geN B dX1_hasRoomFor_34 (tgt := 41) rfl (by omega) (by omega) (fun h34 => ?_) (fun h34 => by exfalso; first | omega | contradiction | simp_all)
  refine Z.iconst B dX1_hasRoomFor_41 (v := nI 0) rfl ?_
  refine Z.iret B Rt dX1_hasRoomFor_42 (ty := .boolean) rfl rfl (by decide) (by decide) ?_
  exact ⟨rfl, rfl⟩

theorem t_X1_hasRoomFor_1_1 {σ : zSt} {n a y : Nat} (hl : Lay σ) (hn : zX σ 20 2 = nI n) (hn8 : n ≤ 8) (ha : zX σ 20 5 = nI a) (ha4 : a ≤ 4) (hy : zX σ 20 7 = nI y) (hy8 : y ≤ 8)(hw : a < 4) : Dt mX1_hasRoomFor [.ref 20, .int (nI 1)] σ (some (.int (nI 1))) σ := by
  refine Dt.of (by decide) (Nat.le_of_ble_eq_true rfl) fun κ B Rt => ?_
  show Z κ 0 0 σ 0 [(0, .ref 20), (1, .int (nI 1))] []
  refine Z.iload_n B dX1_hasRoomFor_0 (x := nI 1) rfl ?_
  refine Z.tabIn B dX1_hasRoomFor_1 (by decide) (by decide) (off := 42) (by decide) (tgt := 43) rfl ?_
  refine Z.aload_n B dX1_hasRoomFor_43 (v := .ref 20) rfl rfl ?_
  refine Z.getI (σ := σ) B fX1_41_1 dX1_hasRoomFor_44 (hl.n (k := 20) (by decide)) (hl.k (k := 20) (by decide)) (by decide) (v := nI a) ha ?_
  refine Z.iconst B dX1_hasRoomFor_47 (v := nI 4) rfl ?_
  refine Z.icmp_geN B dX1_hasRoomFor_48 (tgt := 55) rfl (by omega) (by omega) (fun h48 => by exfalso; first | omega | contradiction | simp_all) (fun h48 => ?_)
  refine Z.iconst B dX1_hasRoomFor_51 (v := nI 1) rfl ?_
  refine Z.goto B dX1_hasRoomFor_52 (tgt := 56) rfl ?_
  refine Z.iret B Rt dX1_hasRoomFor_56 (ty := .boolean) rfl rfl (by decide) (by decide) ?_
  exact ⟨rfl, rfl⟩

theorem t_X1_hasRoomFor_1_0 {σ : zSt} {n a y : Nat} (hl : Lay σ) (hn : zX σ 20 2 = nI n) (hn8 : n ≤ 8) (ha : zX σ 20 5 = nI a) (ha4 : a ≤ 4) (hy : zX σ 20 7 = nI y) (hy8 : y ≤ 8)(hw : a = 4) : Dt mX1_hasRoomFor [.ref 20, .int (nI 1)] σ (some (.int (nI 0))) σ := by
  refine Dt.of (by decide) (Nat.le_of_ble_eq_true rfl) fun κ B Rt => ?_
  show Z κ 0 0 σ 0 [(0, .ref 20), (1, .int (nI 1))] []
  refine Z.iload_n B dX1_hasRoomFor_0 (x := nI 1) rfl ?_
  refine Z.tabIn B dX1_hasRoomFor_1 (by decide) (by decide) (off := 42) (by decide) (tgt := 43) rfl ?_
  refine Z.aload_n B dX1_hasRoomFor_43 (v := .ref 20) rfl rfl ?_
  refine Z.getI (σ := σ) B fX1_41_1 dX1_hasRoomFor_44 (hl.n (k := 20) (by decide)) (hl.k (k := 20) (by decide)) (by decide) (v := nI a) ha ?_
  refine Z.iconst B dX1_hasRoomFor_47 (v := nI 4) rfl ?_
  refine Z.icmp_geN B dX1_hasRoomFor_48 (tgt := 55) rfl (by omega) (by omega) (fun h48 => ?_) (fun h48 => by exfalso; first | omega | contradiction | simp_all)
  refine Z.iconst B dX1_hasRoomFor_55 (v := nI 0) rfl ?_
  refine Z.iret B Rt dX1_hasRoomFor_56 (ty := .boolean) rfl rfl (by decide) (by decide) ?_
  exact ⟨rfl, rfl⟩

theorem t_X1_hasRoomFor_2_1 {σ : zSt} {n a y : Nat} (hl : Lay σ) (hn : zX σ 20 2 = nI n) (hn8 : n ≤ 8) (ha : zX σ 20 5 = nI a) (ha4 : a ≤ 4) (hy : zX σ 20 7 = nI y) (hy8 : y ≤ 8)(hw : y < 8) : Dt mX1_hasRoomFor [.ref 20, .int (nI 2)] σ (some (.int (nI 1))) σ := by
  refine Dt.of (by decide) (Nat.le_of_ble_eq_true rfl) fun κ B Rt => ?_
  show Z κ 0 0 σ 0 [(0, .ref 20), (1, .int (nI 2))] []
  refine Z.iload_n B dX1_hasRoomFor_0 (x := nI 2) rfl ?_
  refine Z.tabIn B dX1_hasRoomFor_1 (by decide) (by decide) (off := 56) (by decide) (tgt := 57) rfl ?_
  refine Z.aload_n B dX1_hasRoomFor_57 (v := .ref 20) rfl rfl ?_
  refine Z.getI (σ := σ) B fX1_44_1 dX1_hasRoomFor_58 (hl.n (k := 20) (by decide)) (hl.k (k := 20) (by decide)) (by decide) (v := nI y) hy ?_
  refine Z.bipush B dX1_hasRoomFor_61 (v := nI 8) rfl ?_
  refine Z.icmp_geN B dX1_hasRoomFor_63 (tgt := 70) rfl (by omega) (by omega) (fun h63 => by exfalso; first | omega | contradiction | simp_all) (fun h63 => ?_)
  refine Z.iconst B dX1_hasRoomFor_66 (v := nI 1) rfl ?_
  refine Z.goto B dX1_hasRoomFor_67 (tgt := 71) rfl ?_
  refine Z.iret B Rt dX1_hasRoomFor_71 (ty := .boolean) rfl rfl (by decide) (by decide) ?_
  exact ⟨rfl, rfl⟩

theorem t_X1_hasRoomFor_2_0 {σ : zSt} {n a y : Nat} (hl : Lay σ) (hn : zX σ 20 2 = nI n) (hn8 : n ≤ 8) (ha : zX σ 20 5 = nI a) (ha4 : a ≤ 4) (hy : zX σ 20 7 = nI y) (hy8 : y ≤ 8)(hw : y = 8) : Dt mX1_hasRoomFor [.ref 20, .int (nI 2)] σ (some (.int (nI 0))) σ := by
  refine Dt.of (by decide) (Nat.le_of_ble_eq_true rfl) fun κ B Rt => ?_
  show Z κ 0 0 σ 0 [(0, .ref 20), (1, .int (nI 2))] []
  refine Z.iload_n B dX1_hasRoomFor_0 (x := nI 2) rfl ?_
  refine Z.tabIn B dX1_hasRoomFor_1 (by decide) (by decide) (off := 56) (by decide) (tgt := 57) rfl ?_
  refine Z.aload_n B dX1_hasRoomFor_57 (v := .ref 20) rfl rfl ?_
  refine Z.getI (σ := σ) B fX1_44_1 dX1_hasRoomFor_58 (hl.n (k := 20) (by decide)) (hl.k (k := 20) (by decide)) (by decide) (v := nI y) hy ?_
  refine Z.bipush B dX1_hasRoomFor_61 (v := nI 8) rfl ?_
  refine Z.icmp_geN B dX1_hasRoomFor_63 (tgt := 70) rfl (by omega) (by omega) (fun h63 => ?_) (fun h63 => by exfalso; first | omega | contradiction | simp_all)
  refine Z.iconst B dX1_hasRoomFor_70 (v := nI 0) rfl ?_
  refine Z.iret B Rt dX1_hasRoomFor_71 (ty := .boolean) rfl rfl (by decide) (by decide) ?_
  exact ⟨rfl, rfl⟩

theorem t_X1_hasRoomFor_3_1 {σ : zSt} {n a y : Nat} (hl : Lay σ) (hn : zX σ 20 2 = nI n) (hn8 : n ≤ 8) (ha : zX σ 20 5 = nI a) (ha4 : a ≤ 4) (hy : zX σ 20 7 = nI y) (hy8 : y ≤ 8) : Dt mX1_hasRoomFor [.ref 20, .int (nI 3)] σ (some (.int (nI 1))) σ := by
  refine Dt.of (by decide) (Nat.le_of_ble_eq_true rfl) fun κ B Rt => ?_
  show Z κ 0 0 σ 0 [(0, .ref 20), (1, .int (nI 3))] []
  refine Z.iload_n B dX1_hasRoomFor_0 (x := nI 3) rfl ?_
  refine Z.tabOut B dX1_hasRoomFor_1 (by decide) (tgt := 72) rfl ?_
  refine Z.iconst B dX1_hasRoomFor_72 (v := nI 1) rfl ?_
  refine Z.iret B Rt dX1_hasRoomFor_73 (ty := .boolean) rfl rfl (by decide) (by decide) ?_
  exact ⟨rfl, rfl⟩

theorem t_X1_askerCount_h {σ : zSt} {n a y : Nat} (hl : Lay σ) (hn : zX σ 20 2 = nI n) (hn8 : n ≤ 8) (ha : zX σ 20 5 = nI a) (ha4 : a ≤ 4) (hy : zX σ 20 7 = nI y) (hy8 : y ≤ 8) : Dt mX1_askerCount [.ref 20] σ (some (.int (nI a))) σ := by
  refine Dt.of (by decide) (Nat.le_of_ble_eq_true rfl) fun κ B Rt => ?_
  show Z κ 0 0 σ 0 [(0, .ref 20)] []
  refine Z.aload_n B dX1_askerCount_0 (v := .ref 20) rfl rfl ?_
  refine Z.getI (σ := σ) B fX1_41_1 dX1_askerCount_1 (hl.n (k := 20) (by decide)) (hl.k (k := 20) (by decide)) (by decide) (v := nI a) ha ?_
  refine Z.iret B Rt dX1_askerCount_4 (ty := .int) rfl rfl (by decide) (by decide) ?_
  exact ⟨rfl, rfl⟩

theorem t_X1_putFirst {σ : zSt} {n a y : Nat} (hl : Lay σ) (hn : zX σ 20 2 = nI n) (hn8 : n ≤ 8) (ha : zX σ 20 5 = nI a) (ha4 : a ≤ 4) (hy : zX σ 20 7 = nI y) (hy8 : y ≤ 8) {od : Nat → Nat} (ho : ∀ i, i < a → zX σ 23 i = nI (od i) ∧ od i < a) {p x : Nat} (hp : p < a) (hx : od p = x) (hmin : ∀ j, j < p → od j ≠ x) : Dt mX1_putFirst [.ref 20, .int (nI x)] σ (some (.int (nI p))) (zuX σ 23 (pf p x (zX σ 23))) := by
  refine Dt.of (by decide) (Nat.le_of_ble_eq_true rfl) fun κ B Rt => ?_
  show Z κ 0 0 σ 0 [(0, .ref 20), (1, .int (nI x))] []
  refine Z.aload_n B dX1_putFirst_0 (v := .ref 20) rfl rfl ?_
  refine Z.iload_n B dX1_putFirst_1 (x := nI x) rfl ?_
  have hx4 : x < a := hx ▸ (ho p hp).2
  refine Z.callVI (σ := σ) B (M' := mX1_placeOf) (as := [.int (nI x)]) (st := []) (v := .int (nI p)) dX1_putFirst_2 wX1_placeOf iX1_placeOf sX1_placeOf kX1_92 (hl.n (k := 20) (by decide)) (hl.k (k := 20) (by decide)) (by decide) rfl rfl (t_X1_placeOf (σ := σ) ⟨hl, hn, hn8, ha, ha4, hy, hy8⟩ ho hp hx hmin) rfl rfl (by decide) (by decide) (Nat.le_of_ble_eq_true rfl) (by decide) (by decide) ?_
  refine Z.istore_n B dX1_putFirst_5 (by decide) (L' := [(0, .ref 20), (1, .int (nI x)), (2, .int (nI p))]) rfl ?_
  refine Z.iload_n B dX1_putFirst_6 (x := nI p) rfl ?_
  refine Z.iconst B dX1_putFirst_7 (v := (-1)) rfl ?_
  refine Z.icmp_ne B dX1_putFirst_8 (tgt := 13) rfl (fun h8 => ?_) (fun h8 => absurd h8 (zm1 (by omega)))
  refine Z.iload_n B dX1_putFirst_13 (x := nI p) rfl ?_
  refine Z.istore_n B dX1_putFirst_14 (by decide) (L' := [(0, .ref 20), (1, .int (nI x)), (2, .int (nI p)), (3, .int (nI p))]) rfl ?_
  have hloop15 : ∀ k : Nat, k ≤ p → Z κ 0 0 (zuX σ 23 (pg k p (zX σ 23))) 15 [(0, .ref 20), (1, .int (nI x)), (2, .int (nI p)), (3, .int (nI k))] [] := by
    refine z_loop (fun k => k) (fun k ih hk => ?_)
    refine Z.iload_n B dX1_putFirst_15 (x := nI k) rfl ?_
    refine Z.if_leN B dX1_putFirst_16 (tgt := 39) rfl (by omega) (fun h16 => ?_) (fun h16 => ?_)
    · skip
      obtain rfl : 0 = k := by omega
      refine Z.aload_n B dX1_putFirst_39 (v := .ref 20) rfl rfl ?_
      refine Z.getR (σ := (zuX σ 23 (pg 0 p (zX σ 23)))) B fX1_22_1 dX1_putFirst_40 (hl.n (k := 20) (by decide)) (hl.k (k := 20) (by decide)) (by decide) (j := 23) (hl.r (k := 20) (f := 4) (by decide) (by decide)) ?_
      refine Z.iconst B dX1_putFirst_43 (v := nI 0) rfl ?_
      refine Z.iload_n B dX1_putFirst_44 (x := nI x) rfl ?_
      refine Z.iast (σ := (zuX σ 23 (pg 0 p (zX σ 23)))) B dX1_putFirst_45 (n := 4) (hl.n (k := 23) (by decide)) (hl.k (k := 23) (by decide)) (hl.l (k := 23) (by decide)) (by decide) (j := 0) rfl (by omega) (τ := (zuX σ 23 (pf p x (zX σ 23)))) (by rw [zX_self, zuX_uX]; rfl) ?_
      refine Z.iload_n B dX1_putFirst_46 (x := nI p) rfl ?_
      refine Z.iret B Rt dX1_putFirst_47 (ty := .int) rfl rfl (by decide) (by decide) ?_
      exact ⟨rfl, rfl⟩
    · skip
      refine Z.aload_n B dX1_putFirst_19 (v := .ref 20) rfl rfl ?_
      refine Z.getR (σ := (zuX σ 23 (pg k p (zX σ 23)))) B fX1_22_1 dX1_putFirst_20 (hl.n (k := 20) (by decide)) (hl.k (k := 20) (by decide)) (by decide) (j := 23) (hl.r (k := 20) (f := 4) (by decide) (by decide)) ?_
      refine Z.iload_n B dX1_putFirst_23 (x := nI k) rfl ?_
      refine Z.aload_n B dX1_putFirst_24 (v := .ref 20) rfl rfl ?_
      refine Z.getR (σ := (zuX σ 23 (pg k p (zX σ 23)))) B fX1_22_1 dX1_putFirst_25 (hl.n (k := 20) (by decide)) (hl.k (k := 20) (by decide)) (by decide) (j := 23) (hl.r (k := 20) (f := 4) (by decide) (by decide)) ?_
      refine Z.iload_n B dX1_putFirst_28 (x := nI k) rfl ?_
      refine Z.iconst B dX1_putFirst_29 (v := nI 1) rfl ?_
      refine Z.isubN B dX1_putFirst_30 (a := k) (b := 1) (by omega) ?_
      refine Z.iald (σ := (zuX σ 23 (pg k p (zX σ 23)))) B dX1_putFirst_31 (n := 4) (hl.n (k := 23) (by decide)) (hl.k (k := 23) (by decide)) (hl.l (k := 23) (by decide)) (by decide) (j := k - 1) rfl (by omega) (v := ((pg k p (zX σ 23)) (k - 1))) rfl ?_
      refine Z.iast (σ := (zuX σ 23 (pg k p (zX σ 23)))) B dX1_putFirst_32 (n := 4) (hl.n (k := 23) (by decide)) (hl.k (k := 23) (by decide)) (hl.l (k := 23) (by decide)) (by decide) (j := k) rfl (by omega) (τ := (zuX σ 23 (pg (k - 1) p (zX σ 23)))) (by rw [zX_self, zuX_uX, pg_s h16 hk]) ?_
      refine Z.iinc B dX1_putFirst_33 (by decide) (x := nI k) rfl (v := nI (k - 1)) (nI_dec2 h16) (L' := [(0, .ref 20), (1, .int (nI x)), (2, .int (nI p)), (3, .int (nI (k - 1)))]) rfl ?_
      refine Z.goto B dX1_putFirst_36 (tgt := 15) rfl ?_
      exact ih (k - 1) (by omega) (by omega)
  have h0 := hloop15 p (Nat.le_refl _)
  rw [pg_0, zuX_id] at h0
  exact h0

theorem t_X1_addComer_d {σ : zSt} {n a y : Nat} (hl : Lay σ) (hn : zX σ 35 2 = nI n) (hn8 : n ≤ 8) (ha : zX σ 35 5 = nI a) (ha4 : a ≤ 4) (hy : zX σ 35 7 = nI y) (hy8 : y ≤ 8) (hn1 : n < 8) : Dt mX1_addComer [.ref 35, .ref 42] σ (some (.int (nI n))) (zuX (zuX σ 36 (va_cpy (zX σ 42) (zX σ 36) 0 (n * 6) 6)) 35 (upd (zX σ 35) 2 (nI (n + 1)))) := by
  refine Dt.of (by decide) (Nat.le_of_ble_eq_true rfl) fun κ B Rt => ?_
  show Z κ 0 0 σ 0 [(0, .ref 35), (1, .ref 42)] []
  refine Z.aload_n B dX1_addComer_0 (v := .ref 35) rfl rfl ?_
  refine Z.getI (σ := σ) B fX1_37_1 dX1_addComer_1 (hl.n (k := 35) (by decide)) (hl.k (k := 35) (by decide)) (by decide) (v := nI n) hn ?_
  refine Z.bipush B dX1_addComer_4 (v := nI 8) rfl ?_
  refine Z.icmp_geN B dX1_addComer_6 (tgt := 16) rfl (by omega) (by omega) (fun h6 => by exfalso; first | omega | contradiction | simp_all) (fun h6 => ?_)
  refine Z.aload_n B dX1_addComer_9 (v := .ref 42) rfl rfl ?_
  refine Z.alen (σ := σ) B dX1_addComer_10 (hl.n (k := 42) (by decide)) (t := 0) (hl.k (k := 42) (by decide)) (by decide) (n := 6) (hl.l (k := 42) (by decide)) (v := nI 6) rfl ?_
  refine Z.bipush B dX1_addComer_11 (v := nI 6) rfl ?_
  refine Z.icmp_geN B dX1_addComer_13 (tgt := 18) rfl (by omega) (by omega) (fun h13 => ?_) (fun h13 => by exfalso; first | omega | contradiction | simp_all)
  refine Z.aload_n B dX1_addComer_18 (v := .ref 42) rfl rfl ?_
  refine Z.iconst B dX1_addComer_19 (v := nI 0) rfl ?_
  refine Z.aload_n B dX1_addComer_20 (v := .ref 35) rfl rfl ?_
  refine Z.getR (σ := σ) B fX1_15_1 dX1_addComer_21 (hl.n (k := 35) (by decide)) (hl.k (k := 35) (by decide)) (by decide) (j := 36) (hl.r (k := 35) (f := 1) (by decide) (by decide)) ?_
  refine Z.aload_n B dX1_addComer_24 (v := .ref 35) rfl rfl ?_
  refine Z.getI (σ := σ) B fX1_37_1 dX1_addComer_25 (hl.n (k := 35) (by decide)) (hl.k (k := 35) (by decide)) (by decide) (v := nI n) hn ?_
  refine Z.bipush B dX1_addComer_28 (v := nI 6) rfl ?_
  refine Z.imulN B dX1_addComer_30 (a := n) (b := 6) ?_
  refine Z.bipush B dX1_addComer_31 (v := nI 6) rfl ?_
  refine Z.copyI (σ := σ) B (k := 42) (k2 := 36) (sp := 0) (dp := n * 6) (n := 6) (n1 := 6) (n2 := 48) dX1_addComer_33 kX1_50 (by decide) (Nat.le_of_ble_eq_true rfl) (hl.n (k := 42) (by decide)) (hl.k (k := 42) (by decide)) (hl.l (k := 42) (by decide)) (hl.n (k := 36) (by decide)) (hl.k (k := 36) (by decide)) (hl.l (k := 36) (by decide)) (by omega) (by omega) (by decide) (by decide) (τ := (zuX σ 36 (va_cpy (zX σ 42) (zX σ 36) 0 (n * 6) 6))) rfl ?_
  refine Z.aload_n B dX1_addComer_36 (v := .ref 35) rfl rfl ?_
  refine Z.dup B dX1_addComer_37 rfl ?_
  refine Z.getI (σ := (zuX σ 36 (va_cpy (zX σ 42) (zX σ 36) 0 (n * 6) 6))) B fX1_37_1 dX1_addComer_38 (hl.n (k := 35) (by decide)) (hl.k (k := 35) (by decide)) (by decide) (v := nI n) hn ?_
  refine Z.iconst B dX1_addComer_41 (v := nI 1) rfl ?_
  refine Z.iaddN B dX1_addComer_42 (a := n) (b := 1) ?_
  refine Z.putI (σ := (zuX σ 36 (va_cpy (zX σ 42) (zX σ 36) 0 (n * 6) 6))) B fX1_37_1 (ty := .int) ⟨_, _, _, rfl, rfl, by decide +kernel⟩ dX1_addComer_43 (hl.n (k := 35) (by decide)) (hl.k (k := 35) (by decide)) (by decide) rfl rfl (τ := (zuX (zuX σ 36 (va_cpy (zX σ 42) (zX σ 36) 0 (n * 6) 6)) 35 (upd (zX σ 35) 2 (nI (n + 1))))) rfl ?_
  refine Z.aload_n B dX1_addComer_46 (v := .ref 35) rfl rfl ?_
  refine Z.getI (σ := (zuX (zuX σ 36 (va_cpy (zX σ 42) (zX σ 36) 0 (n * 6) 6)) 35 (upd (zX σ 35) 2 (nI (n + 1))))) B fX1_37_1 dX1_addComer_47 (hl.n (k := 35) (by decide)) (hl.k (k := 35) (by decide)) (by decide) (v := nI (n + 1)) (by simp only [zX_self, pk_us]) ?_
  refine Z.iconst B dX1_addComer_50 (v := nI 1) rfl ?_
  refine Z.isubv B dX1_addComer_51 (v := nI n) (by rw [pk_sub (by omega)]; rfl) ?_
  refine Z.iret B Rt dX1_addComer_52 (ty := .int) rfl rfl (by decide) (by decide) ?_
  exact ⟨rfl, rfl⟩

theorem t_X1_addAsker_d {σ : zSt} {n a y : Nat} (hl : Lay σ) (hn : zX σ 35 2 = nI n) (hn8 : n ≤ 8) (ha : zX σ 35 5 = nI a) (ha4 : a ≤ 4) (hy : zX σ 35 7 = nI y) (hy8 : y ≤ 8) {s l d : Int32} (ha1 : a < 4) : Dt mX1_addAsker [.ref 35, .int s, .int l, .int d] σ (some (.int (nI a))) (zuX (zuX (zuX σ 37 (upd (upd (upd (zX σ 37) (a * 3) s) (a * 3 + 1) l) (a * 3 + 2) d)) 38 (upd (zX σ 38) a (nI a))) 35 (upd (zX σ 35) 5 (nI (a + 1)))) := by
  refine Dt.of (by decide) (Nat.le_of_ble_eq_true rfl) fun κ B Rt => ?_
  show Z κ 0 0 σ 0 [(0, .ref 35), (1, .int s), (2, .int l), (3, .int d)] []
  refine Z.aload_n B dX1_addAsker_0 (v := .ref 35) rfl rfl ?_
  refine Z.getI (σ := σ) B fX1_41_1 dX1_addAsker_1 (hl.n (k := 35) (by decide)) (hl.k (k := 35) (by decide)) (by decide) (v := nI a) ha ?_
  refine Z.iconst B dX1_addAsker_4 (v := nI 4) rfl ?_
  refine Z.icmp_ltN B dX1_addAsker_5 (tgt := 10) rfl (by omega) (by omega) (fun h5 => ?_) (fun h5 => by exfalso; first | omega | contradiction | simp_all)
  refine Z.aload_n B dX1_addAsker_10 (v := .ref 35) rfl rfl ?_
  refine Z.getI (σ := σ) B fX1_41_1 dX1_addAsker_11 (hl.n (k := 35) (by decide)) (hl.k (k := 35) (by decide)) (by decide) (v := nI a) ha ?_
  refine Z.iconst B dX1_addAsker_14 (v := nI 3) rfl ?_
  refine Z.imulN B dX1_addAsker_15 (a := a) (b := 3) ?_
  refine Z.istore B dX1_addAsker_16 (by decide) (L' := [(0, .ref 35), (1, .int s), (2, .int l), (3, .int d), (4, .int (nI (a * 3)))]) rfl ?_
  refine Z.aload_n B dX1_addAsker_18 (v := .ref 35) rfl rfl ?_
  refine Z.getR (σ := σ) B fX1_19_1 dX1_addAsker_19 (hl.n (k := 35) (by decide)) (hl.k (k := 35) (by decide)) (by decide) (j := 37) (hl.r (k := 35) (f := 3) (by decide) (by decide)) ?_
  refine Z.iload B dX1_addAsker_22 (x := nI (a * 3)) rfl ?_
  refine Z.iconst B dX1_addAsker_24 (v := nI 0) rfl ?_
  refine Z.iaddN B dX1_addAsker_25 (a := a * 3) (b := 0) ?_
  refine Z.iload_n B dX1_addAsker_26 (x := s) rfl ?_
  refine Z.iast (σ := σ) B dX1_addAsker_27 (n := 12) (hl.n (k := 37) (by decide)) (hl.k (k := 37) (by decide)) (hl.l (k := 37) (by decide)) (by decide) (j := (a * 3) + 0) rfl (by omega) (τ := (zuX σ 37 (upd (zX σ 37) (a * 3) s))) rfl ?_
  refine Z.aload_n B dX1_addAsker_28 (v := .ref 35) rfl rfl ?_
  refine Z.getR (σ := (zuX σ 37 (upd (zX σ 37) (a * 3) s))) B fX1_19_1 dX1_addAsker_29 (hl.n (k := 35) (by decide)) (hl.k (k := 35) (by decide)) (by decide) (j := 37) (hl.r (k := 35) (f := 3) (by decide) (by decide)) ?_
  refine Z.iload B dX1_addAsker_32 (x := nI (a * 3)) rfl ?_
  refine Z.iconst B dX1_addAsker_34 (v := nI 1) rfl ?_
  refine Z.iaddN B dX1_addAsker_35 (a := a * 3) (b := 1) ?_
  refine Z.iload_n B dX1_addAsker_36 (x := l) rfl ?_
  refine Z.iast (σ := (zuX σ 37 (upd (zX σ 37) (a * 3) s))) B dX1_addAsker_37 (n := 12) (hl.n (k := 37) (by decide)) (hl.k (k := 37) (by decide)) (hl.l (k := 37) (by decide)) (by decide) (j := (a * 3) + 1) rfl (by omega) (τ := (zuX σ 37 (upd (upd (zX σ 37) (a * 3) s) ((a * 3) + 1) l))) (by simp only [zX_self, zuX_uX]) ?_
  refine Z.aload_n B dX1_addAsker_38 (v := .ref 35) rfl rfl ?_
  refine Z.getR (σ := (zuX σ 37 (upd (upd (zX σ 37) (a * 3) s) ((a * 3) + 1) l))) B fX1_19_1 dX1_addAsker_39 (hl.n (k := 35) (by decide)) (hl.k (k := 35) (by decide)) (by decide) (j := 37) (hl.r (k := 35) (f := 3) (by decide) (by decide)) ?_
  refine Z.iload B dX1_addAsker_42 (x := nI (a * 3)) rfl ?_
  refine Z.iconst B dX1_addAsker_44 (v := nI 2) rfl ?_
  refine Z.iaddN B dX1_addAsker_45 (a := a * 3) (b := 2) ?_
  refine Z.iload_n B dX1_addAsker_46 (x := d) rfl ?_
  refine Z.iast (σ := (zuX σ 37 (upd (upd (zX σ 37) (a * 3) s) ((a * 3) + 1) l))) B dX1_addAsker_47 (n := 12) (hl.n (k := 37) (by decide)) (hl.k (k := 37) (by decide)) (hl.l (k := 37) (by decide)) (by decide) (j := (a * 3) + 2) rfl (by omega) (τ := (zuX σ 37 (upd (upd (upd (zX σ 37) (a * 3) s) ((a * 3) + 1) l) ((a * 3) + 2) d))) (by simp only [zX_self, zuX_uX]) ?_
  refine Z.aload_n B dX1_addAsker_48 (v := .ref 35) rfl rfl ?_
  refine Z.getR (σ := (zuX σ 37 (upd (upd (upd (zX σ 37) (a * 3) s) ((a * 3) + 1) l) ((a * 3) + 2) d))) B fX1_22_1 dX1_addAsker_49 (hl.n (k := 35) (by decide)) (hl.k (k := 35) (by decide)) (by decide) (j := 38) (hl.r (k := 35) (f := 4) (by decide) (by decide)) ?_
  refine Z.aload_n B dX1_addAsker_52 (v := .ref 35) rfl rfl ?_
  refine Z.getI (σ := (zuX σ 37 (upd (upd (upd (zX σ 37) (a * 3) s) ((a * 3) + 1) l) ((a * 3) + 2) d))) B fX1_41_1 dX1_addAsker_53 (hl.n (k := 35) (by decide)) (hl.k (k := 35) (by decide)) (by decide) (v := nI a) ha ?_
  refine Z.aload_n B dX1_addAsker_56 (v := .ref 35) rfl rfl ?_
  refine Z.getI (σ := (zuX σ 37 (upd (upd (upd (zX σ 37) (a * 3) s) ((a * 3) + 1) l) ((a * 3) + 2) d))) B fX1_41_1 dX1_addAsker_57 (hl.n (k := 35) (by decide)) (hl.k (k := 35) (by decide)) (by decide) (v := nI a) ha ?_
  refine Z.iast (σ := (zuX σ 37 (upd (upd (upd (zX σ 37) (a * 3) s) ((a * 3) + 1) l) ((a * 3) + 2) d))) B dX1_addAsker_60 (n := 4) (hl.n (k := 38) (by decide)) (hl.k (k := 38) (by decide)) (hl.l (k := 38) (by decide)) (by decide) (j := a) rfl (by omega) (τ := (zuX (zuX σ 37 (upd (upd (upd (zX σ 37) (a * 3) s) ((a * 3) + 1) l) ((a * 3) + 2) d)) 38 (upd (zX σ 38) a (nI a)))) rfl ?_
  refine Z.aload_n B dX1_addAsker_61 (v := .ref 35) rfl rfl ?_
  refine Z.dup B dX1_addAsker_62 rfl ?_
  refine Z.getI (σ := (zuX (zuX σ 37 (upd (upd (upd (zX σ 37) (a * 3) s) ((a * 3) + 1) l) ((a * 3) + 2) d)) 38 (upd (zX σ 38) a (nI a)))) B fX1_41_1 dX1_addAsker_63 (hl.n (k := 35) (by decide)) (hl.k (k := 35) (by decide)) (by decide) (v := nI a) ha ?_
  refine Z.iconst B dX1_addAsker_66 (v := nI 1) rfl ?_
  refine Z.iaddN B dX1_addAsker_67 (a := a) (b := 1) ?_
  refine Z.putI (σ := (zuX (zuX σ 37 (upd (upd (upd (zX σ 37) (a * 3) s) ((a * 3) + 1) l) ((a * 3) + 2) d)) 38 (upd (zX σ 38) a (nI a)))) B fX1_41_1 (ty := .int) ⟨_, _, _, rfl, rfl, by decide +kernel⟩ dX1_addAsker_68 (hl.n (k := 35) (by decide)) (hl.k (k := 35) (by decide)) (by decide) rfl rfl (τ := (zuX (zuX (zuX σ 37 (upd (upd (upd (zX σ 37) (a * 3) s) ((a * 3) + 1) l) ((a * 3) + 2) d)) 38 (upd (zX σ 38) a (nI a))) 35 (upd (zX σ 35) 5 (nI (a + 1))))) rfl ?_
  refine Z.aload_n B dX1_addAsker_71 (v := .ref 35) rfl rfl ?_
  refine Z.getI (σ := (zuX (zuX (zuX σ 37 (upd (upd (upd (zX σ 37) (a * 3) s) ((a * 3) + 1) l) ((a * 3) + 2) d)) 38 (upd (zX σ 38) a (nI a))) 35 (upd (zX σ 35) 5 (nI (a + 1))))) B fX1_41_1 dX1_addAsker_72 (hl.n (k := 35) (by decide)) (hl.k (k := 35) (by decide)) (by decide) (v := nI (a + 1)) (by simp only [zX_self, pk_us]) ?_
  refine Z.iconst B dX1_addAsker_75 (v := nI 1) rfl ?_
  refine Z.isubv B dX1_addAsker_76 (v := nI a) (by rw [pk_sub (by omega)]; rfl) ?_
  refine Z.iret B Rt dX1_addAsker_77 (ty := .int) rfl rfl (by decide) (by decide) ?_
  exact ⟨rfl, rfl⟩

theorem t_X1_hasRoomFor_d_0_1 {σ : zSt} {n a y : Nat} (hl : Lay σ) (hn : zX σ 35 2 = nI n) (hn8 : n ≤ 8) (ha : zX σ 35 5 = nI a) (ha4 : a ≤ 4) (hy : zX σ 35 7 = nI y) (hy8 : y ≤ 8)(hw : n < 8) : Dt mX1_hasRoomFor [.ref 35, .int (nI 0)] σ (some (.int (nI 1))) σ := by
  refine Dt.of (by decide) (Nat.le_of_ble_eq_true rfl) fun κ B Rt => ?_
  show Z κ 0 0 σ 0 [(0, .ref 35), (1, .int (nI 0))] []
  refine Z.iload_n B dX1_hasRoomFor_0 (x := nI 0) rfl ?_
  refine Z.tabIn B dX1_hasRoomFor_1 (by decide) (by decide) (off := 27) (by decide) (tgt := 28) rfl ?_
  refine Z.aload_n B dX1_hasRoomFor_28 (v := .ref 35) rfl rfl ?_
  refine Z.getI (σ := σ) B fX1_37_1 dX1_hasRoomFor_29 (hl.n (k := 35) (by decide)) (hl.k (k := 35) (by decide)) (by decide) (v := nI n) hn ?_
  refine Z.bipush B dX1_hasRoomFor_32 (v := nI 8) rfl ?_
  refine Z.icmp_geN B dX1_hasRoomFor_34 (tgt := 41) rfl (by omega) (by omega) (fun h34 => by exfalso; first | omega | contradiction | simp_all) (fun h34 => ?_)
  refine Z.iconst B dX1_hasRoomFor_37 (v := nI 1) rfl ?_
  refine Z.goto B dX1_hasRoomFor_38 (tgt := 42) rfl ?_
  refine Z.iret B Rt dX1_hasRoomFor_42 (ty := .boolean) rfl rfl (by decide) (by decide) ?_
  exact ⟨rfl, rfl⟩

theorem t_X1_hasRoomFor_d_0_0 {σ : zSt} {n a y : Nat} (hl : Lay σ) (hn : zX σ 35 2 = nI n) (hn8 : n ≤ 8) (ha : zX σ 35 5 = nI a) (ha4 : a ≤ 4) (hy : zX σ 35 7 = nI y) (hy8 : y ≤ 8)(hw : n = 8) : Dt mX1_hasRoomFor [.ref 35, .int (nI 0)] σ (some (.int (nI 0))) σ := by
  refine Dt.of (by decide) (Nat.le_of_ble_eq_true rfl) fun κ B Rt => ?_
  show Z κ 0 0 σ 0 [(0, .ref 35), (1, .int (nI 0))] []
  refine Z.iload_n B dX1_hasRoomFor_0 (x := nI 0) rfl ?_
  refine Z.tabIn B dX1_hasRoomFor_1 (by decide) (by decide) (off := 27) (by decide) (tgt := 28) rfl ?_
  refine Z.aload_n B dX1_hasRoomFor_28 (v := .ref 35) rfl rfl ?_
  refine Z.getI (σ := σ) B fX1_37_1 dX1_hasRoomFor_29 (hl.n (k := 35) (by decide)) (hl.k (k := 35) (by decide)) (by decide) (v := nI n) hn ?_
  refine Z.bipush B dX1_hasRoomFor_32 (v := nI 8) rfl ?_
  refine Z.icmp_geN B dX1_hasRoomFor_34 (tgt := 41) rfl (by omega) (by omega) (fun h34 => ?_) (fun h34 => by exfalso; first | omega | contradiction | simp_all)
  refine Z.iconst B dX1_hasRoomFor_41 (v := nI 0) rfl ?_
  refine Z.iret B Rt dX1_hasRoomFor_42 (ty := .boolean) rfl rfl (by decide) (by decide) ?_
  exact ⟨rfl, rfl⟩

theorem t_X1_hasRoomFor_d_1_1 {σ : zSt} {n a y : Nat} (hl : Lay σ) (hn : zX σ 35 2 = nI n) (hn8 : n ≤ 8) (ha : zX σ 35 5 = nI a) (ha4 : a ≤ 4) (hy : zX σ 35 7 = nI y) (hy8 : y ≤ 8)(hw : a < 4) : Dt mX1_hasRoomFor [.ref 35, .int (nI 1)] σ (some (.int (nI 1))) σ := by
  refine Dt.of (by decide) (Nat.le_of_ble_eq_true rfl) fun κ B Rt => ?_
  show Z κ 0 0 σ 0 [(0, .ref 35), (1, .int (nI 1))] []
  refine Z.iload_n B dX1_hasRoomFor_0 (x := nI 1) rfl ?_
  refine Z.tabIn B dX1_hasRoomFor_1 (by decide) (by decide) (off := 42) (by decide) (tgt := 43) rfl ?_
  refine Z.aload_n B dX1_hasRoomFor_43 (v := .ref 35) rfl rfl ?_
  refine Z.getI (σ := σ) B fX1_41_1 dX1_hasRoomFor_44 (hl.n (k := 35) (by decide)) (hl.k (k := 35) (by decide)) (by decide) (v := nI a) ha ?_
  refine Z.iconst B dX1_hasRoomFor_47 (v := nI 4) rfl ?_
  refine Z.icmp_geN B dX1_hasRoomFor_48 (tgt := 55) rfl (by omega) (by omega) (fun h48 => by exfalso; first | omega | contradiction | simp_all) (fun h48 => ?_)
  refine Z.iconst B dX1_hasRoomFor_51 (v := nI 1) rfl ?_
  refine Z.goto B dX1_hasRoomFor_52 (tgt := 56) rfl ?_
  refine Z.iret B Rt dX1_hasRoomFor_56 (ty := .boolean) rfl rfl (by decide) (by decide) ?_
  exact ⟨rfl, rfl⟩

theorem t_X1_hasRoomFor_d_1_0 {σ : zSt} {n a y : Nat} (hl : Lay σ) (hn : zX σ 35 2 = nI n) (hn8 : n ≤ 8) (ha : zX σ 35 5 = nI a) (ha4 : a ≤ 4) (hy : zX σ 35 7 = nI y) (hy8 : y ≤ 8)(hw : a = 4) : Dt mX1_hasRoomFor [.ref 35, .int (nI 1)] σ (some (.int (nI 0))) σ := by
  refine Dt.of (by decide) (Nat.le_of_ble_eq_true rfl) fun κ B Rt => ?_
  show Z κ 0 0 σ 0 [(0, .ref 35), (1, .int (nI 1))] []
  refine Z.iload_n B dX1_hasRoomFor_0 (x := nI 1) rfl ?_
  refine Z.tabIn B dX1_hasRoomFor_1 (by decide) (by decide) (off := 42) (by decide) (tgt := 43) rfl ?_
  refine Z.aload_n B dX1_hasRoomFor_43 (v := .ref 35) rfl rfl ?_
  refine Z.getI (σ := σ) B fX1_41_1 dX1_hasRoomFor_44 (hl.n (k := 35) (by decide)) (hl.k (k := 35) (by decide)) (by decide) (v := nI a) ha ?_
  refine Z.iconst B dX1_hasRoomFor_47 (v := nI 4) rfl ?_
  refine Z.icmp_geN B dX1_hasRoomFor_48 (tgt := 55) rfl (by omega) (by omega) (fun h48 => ?_) (fun h48 => by exfalso; first | omega | contradiction | simp_all)
  refine Z.iconst B dX1_hasRoomFor_55 (v := nI 0) rfl ?_
  refine Z.iret B Rt dX1_hasRoomFor_56 (ty := .boolean) rfl rfl (by decide) (by decide) ?_
  exact ⟨rfl, rfl⟩

theorem t_X1_hasRoomFor_d_2_1 {σ : zSt} {n a y : Nat} (hl : Lay σ) (hn : zX σ 35 2 = nI n) (hn8 : n ≤ 8) (ha : zX σ 35 5 = nI a) (ha4 : a ≤ 4) (hy : zX σ 35 7 = nI y) (hy8 : y ≤ 8)(hw : y < 8) : Dt mX1_hasRoomFor [.ref 35, .int (nI 2)] σ (some (.int (nI 1))) σ := by
  refine Dt.of (by decide) (Nat.le_of_ble_eq_true rfl) fun κ B Rt => ?_
  show Z κ 0 0 σ 0 [(0, .ref 35), (1, .int (nI 2))] []
  refine Z.iload_n B dX1_hasRoomFor_0 (x := nI 2) rfl ?_
  refine Z.tabIn B dX1_hasRoomFor_1 (by decide) (by decide) (off := 56) (by decide) (tgt := 57) rfl ?_
  refine Z.aload_n B dX1_hasRoomFor_57 (v := .ref 35) rfl rfl ?_
  refine Z.getI (σ := σ) B fX1_44_1 dX1_hasRoomFor_58 (hl.n (k := 35) (by decide)) (hl.k (k := 35) (by decide)) (by decide) (v := nI y) hy ?_
  refine Z.bipush B dX1_hasRoomFor_61 (v := nI 8) rfl ?_
  refine Z.icmp_geN B dX1_hasRoomFor_63 (tgt := 70) rfl (by omega) (by omega) (fun h63 => by exfalso; first | omega | contradiction | simp_all) (fun h63 => ?_)
  refine Z.iconst B dX1_hasRoomFor_66 (v := nI 1) rfl ?_
  refine Z.goto B dX1_hasRoomFor_67 (tgt := 71) rfl ?_
  refine Z.iret B Rt dX1_hasRoomFor_71 (ty := .boolean) rfl rfl (by decide) (by decide) ?_
  exact ⟨rfl, rfl⟩

theorem t_X1_hasRoomFor_d_2_0 {σ : zSt} {n a y : Nat} (hl : Lay σ) (hn : zX σ 35 2 = nI n) (hn8 : n ≤ 8) (ha : zX σ 35 5 = nI a) (ha4 : a ≤ 4) (hy : zX σ 35 7 = nI y) (hy8 : y ≤ 8)(hw : y = 8) : Dt mX1_hasRoomFor [.ref 35, .int (nI 2)] σ (some (.int (nI 0))) σ := by
  refine Dt.of (by decide) (Nat.le_of_ble_eq_true rfl) fun κ B Rt => ?_
  show Z κ 0 0 σ 0 [(0, .ref 35), (1, .int (nI 2))] []
  refine Z.iload_n B dX1_hasRoomFor_0 (x := nI 2) rfl ?_
  refine Z.tabIn B dX1_hasRoomFor_1 (by decide) (by decide) (off := 56) (by decide) (tgt := 57) rfl ?_
  refine Z.aload_n B dX1_hasRoomFor_57 (v := .ref 35) rfl rfl ?_
  refine Z.getI (σ := σ) B fX1_44_1 dX1_hasRoomFor_58 (hl.n (k := 35) (by decide)) (hl.k (k := 35) (by decide)) (by decide) (v := nI y) hy ?_
  refine Z.bipush B dX1_hasRoomFor_61 (v := nI 8) rfl ?_
  refine Z.icmp_geN B dX1_hasRoomFor_63 (tgt := 70) rfl (by omega) (by omega) (fun h63 => ?_) (fun h63 => by exfalso; first | omega | contradiction | simp_all)
  refine Z.iconst B dX1_hasRoomFor_70 (v := nI 0) rfl ?_
  refine Z.iret B Rt dX1_hasRoomFor_71 (ty := .boolean) rfl rfl (by decide) (by decide) ?_
  exact ⟨rfl, rfl⟩

theorem t_X1_hasRoomFor_d_3_1 {σ : zSt} {n a y : Nat} (hl : Lay σ) (hn : zX σ 35 2 = nI n) (hn8 : n ≤ 8) (ha : zX σ 35 5 = nI a) (ha4 : a ≤ 4) (hy : zX σ 35 7 = nI y) (hy8 : y ≤ 8) : Dt mX1_hasRoomFor [.ref 35, .int (nI 3)] σ (some (.int (nI 1))) σ := by
  refine Dt.of (by decide) (Nat.le_of_ble_eq_true rfl) fun κ B Rt => ?_
  show Z κ 0 0 σ 0 [(0, .ref 35), (1, .int (nI 3))] []
  refine Z.iload_n B dX1_hasRoomFor_0 (x := nI 3) rfl ?_
  refine Z.tabOut B dX1_hasRoomFor_1 (by decide) (tgt := 72) rfl ?_
  refine Z.iconst B dX1_hasRoomFor_72 (v := nI 1) rfl ?_
  refine Z.iret B Rt dX1_hasRoomFor_73 (ty := .boolean) rfl rfl (by decide) (by decide) ?_
  exact ⟨rfl, rfl⟩

theorem t_X1_askerCount_h_d {σ : zSt} {n a y : Nat} (hl : Lay σ) (hn : zX σ 35 2 = nI n) (hn8 : n ≤ 8) (ha : zX σ 35 5 = nI a) (ha4 : a ≤ 4) (hy : zX σ 35 7 = nI y) (hy8 : y ≤ 8) : Dt mX1_askerCount [.ref 35] σ (some (.int (nI a))) σ := by
  refine Dt.of (by decide) (Nat.le_of_ble_eq_true rfl) fun κ B Rt => ?_
  show Z κ 0 0 σ 0 [(0, .ref 35)] []
  refine Z.aload_n B dX1_askerCount_0 (v := .ref 35) rfl rfl ?_
  refine Z.getI (σ := σ) B fX1_41_1 dX1_askerCount_1 (hl.n (k := 35) (by decide)) (hl.k (k := 35) (by decide)) (by decide) (v := nI a) ha ?_
  refine Z.iret B Rt dX1_askerCount_4 (ty := .int) rfl rfl (by decide) (by decide) ?_
  exact ⟨rfl, rfl⟩

theorem t_X1_placeOf_d {σ : zSt} {n a y : Nat} (hl : Lay σ) (hn : zX σ 35 2 = nI n) (hn8 : n ≤ 8) (ha : zX σ 35 5 = nI a) (ha4 : a ≤ 4) (hy : zX σ 35 7 = nI y) (hy8 : y ≤ 8) {od : Nat → Nat} (ho : ∀ i, i < a → zX σ 38 i = nI (od i) ∧ od i < a) {p x : Nat} (hp : p < a) (hx : od p = x) (hmin : ∀ j, j < p → od j ≠ x) : Dt mX1_placeOf [.ref 35, .int (nI x)] σ (some (.int (nI p))) σ := by
  refine Dt.of (by decide) (Nat.le_of_ble_eq_true rfl) fun κ B Rt => ?_
  show Z κ 0 0 σ 0 [(0, .ref 35), (1, .int (nI x))] []
  have hx4 : x < a := hx ▸ (ho p hp).2
  refine Z.iconst B dX1_placeOf_0 (v := nI 0) rfl ?_
  refine Z.istore_n B dX1_placeOf_1 (by decide) (L' := [(0, .ref 35), (1, .int (nI x)), (2, .int (nI 0))]) rfl ?_
  have hloop2 : ∀ i : Nat, i ≤ p → Z κ 0 0 σ 2 [(0, .ref 35), (1, .int (nI x)), (2, .int (nI i))] [] := by
    refine z_loop (fun i => p - i) (fun i ih hi => ?_)
    refine Z.iload_n B dX1_placeOf_2 (x := nI i) rfl ?_
    refine Z.aload_n B dX1_placeOf_3 (v := .ref 35) rfl rfl ?_
    refine Z.getI (σ := σ) B fX1_41_1 dX1_placeOf_4 (hl.n (k := 35) (by decide)) (hl.k (k := 35) (by decide)) (by decide) (v := nI a) ha ?_
    refine Z.icmp_geN B dX1_placeOf_7 (tgt := 28) rfl (by omega) (by omega) (fun h7 => by exfalso; first | omega | contradiction | simp_all) (fun h7 => ?_)
    refine Z.aload_n B dX1_placeOf_10 (v := .ref 35) rfl rfl ?_
    refine Z.getR (σ := σ) B fX1_22_1 dX1_placeOf_11 (hl.n (k := 35) (by decide)) (hl.k (k := 35) (by decide)) (by decide) (j := 38) (hl.r (k := 35) (f := 4) (by decide) (by decide)) ?_
    refine Z.iload_n B dX1_placeOf_14 (x := nI i) rfl ?_
    refine Z.iald (σ := σ) B dX1_placeOf_15 (n := 4) (hl.n (k := 38) (by decide)) (hl.k (k := 38) (by decide)) (hl.l (k := 38) (by decide)) (by decide) (j := i) rfl (by omega) (v := nI (od i)) (ho i (by omega)).1 ?_
    refine Z.iload_n B dX1_placeOf_16 (x := nI x) rfl ?_
    have ho2 := (ho i (by omega)).2
    refine Z.icmp_neN B dX1_placeOf_17 (tgt := 22) rfl (by omega) (by omega) (fun h17 => ?_) (fun h17 => ?_)
    · skip
      have hne : i ≠ p := fun e => h17 (by rw [e]; exact hx)
      refine Z.iincN B dX1_placeOf_22 (by decide) (a := i) rfl (L' := [(0, .ref 35), (1, .int (nI x)), (2, .int (nI (i + 1)))]) rfl ?_
      refine Z.goto B dX1_placeOf_25 (tgt := 2) rfl ?_
      exact ih (i + 1) (by omega) (by have := hmin i; omega)
    · skip
      obtain rfl : i = p := Nat.le_antisymm hi (Nat.le_of_not_lt fun h => hmin i h h17)
      refine Z.iload_n B dX1_placeOf_20 (x := nI i) rfl ?_
      refine Z.iret B Rt dX1_placeOf_21 (ty := .int) rfl rfl (by decide) (by decide) ?_
      exact ⟨rfl, rfl⟩
  exact hloop2 0 (Nat.zero_le _)

theorem t_X1_putFirst_d {σ : zSt} {n a y : Nat} (hl : Lay σ) (hn : zX σ 35 2 = nI n) (hn8 : n ≤ 8) (ha : zX σ 35 5 = nI a) (ha4 : a ≤ 4) (hy : zX σ 35 7 = nI y) (hy8 : y ≤ 8) {od : Nat → Nat} (ho : ∀ i, i < a → zX σ 38 i = nI (od i) ∧ od i < a) {p x : Nat} (hp : p < a) (hx : od p = x) (hmin : ∀ j, j < p → od j ≠ x) : Dt mX1_putFirst [.ref 35, .int (nI x)] σ (some (.int (nI p))) (zuX σ 38 (pf p x (zX σ 38))) := by
  refine Dt.of (by decide) (Nat.le_of_ble_eq_true rfl) fun κ B Rt => ?_
  show Z κ 0 0 σ 0 [(0, .ref 35), (1, .int (nI x))] []
  refine Z.aload_n B dX1_putFirst_0 (v := .ref 35) rfl rfl ?_
  refine Z.iload_n B dX1_putFirst_1 (x := nI x) rfl ?_
  have hx4 : x < a := hx ▸ (ho p hp).2
  refine Z.callVI (σ := σ) B (M' := mX1_placeOf) (as := [.int (nI x)]) (st := []) (v := .int (nI p)) dX1_putFirst_2 wX1_placeOf iX1_placeOf sX1_placeOf kX1_92 (hl.n (k := 35) (by decide)) (hl.k (k := 35) (by decide)) (by decide) rfl rfl (t_X1_placeOf_d (σ := σ) hl hn hn8 ha ha4 hy hy8 ho hp hx hmin) rfl rfl (by decide) (by decide) (Nat.le_of_ble_eq_true rfl) (by decide) (by decide) ?_
  refine Z.istore_n B dX1_putFirst_5 (by decide) (L' := [(0, .ref 35), (1, .int (nI x)), (2, .int (nI p))]) rfl ?_
  refine Z.iload_n B dX1_putFirst_6 (x := nI p) rfl ?_
  refine Z.iconst B dX1_putFirst_7 (v := (-1)) rfl ?_
  refine Z.icmp_ne B dX1_putFirst_8 (tgt := 13) rfl (fun h8 => ?_) (fun h8 => absurd h8 (zm1 (by omega)))
  refine Z.iload_n B dX1_putFirst_13 (x := nI p) rfl ?_
  refine Z.istore_n B dX1_putFirst_14 (by decide) (L' := [(0, .ref 35), (1, .int (nI x)), (2, .int (nI p)), (3, .int (nI p))]) rfl ?_
  have hloop15 : ∀ k : Nat, k ≤ p → Z κ 0 0 (zuX σ 38 (pg k p (zX σ 38))) 15 [(0, .ref 35), (1, .int (nI x)), (2, .int (nI p)), (3, .int (nI k))] [] := by
    refine z_loop (fun k => k) (fun k ih hk => ?_)
    refine Z.iload_n B dX1_putFirst_15 (x := nI k) rfl ?_
    refine Z.if_leN B dX1_putFirst_16 (tgt := 39) rfl (by omega) (fun h16 => ?_) (fun h16 => ?_)
    · skip
      obtain rfl : 0 = k := by omega
      refine Z.aload_n B dX1_putFirst_39 (v := .ref 35) rfl rfl ?_
      refine Z.getR (σ := (zuX σ 38 (pg 0 p (zX σ 38)))) B fX1_22_1 dX1_putFirst_40 (hl.n (k := 35) (by decide)) (hl.k (k := 35) (by decide)) (by decide) (j := 38) (hl.r (k := 35) (f := 4) (by decide) (by decide)) ?_
      refine Z.iconst B dX1_putFirst_43 (v := nI 0) rfl ?_
      refine Z.iload_n B dX1_putFirst_44 (x := nI x) rfl ?_
      refine Z.iast (σ := (zuX σ 38 (pg 0 p (zX σ 38)))) B dX1_putFirst_45 (n := 4) (hl.n (k := 38) (by decide)) (hl.k (k := 38) (by decide)) (hl.l (k := 38) (by decide)) (by decide) (j := 0) rfl (by omega) (τ := (zuX σ 38 (pf p x (zX σ 38)))) (by rw [zX_self, zuX_uX]; rfl) ?_
      refine Z.iload_n B dX1_putFirst_46 (x := nI p) rfl ?_
      refine Z.iret B Rt dX1_putFirst_47 (ty := .int) rfl rfl (by decide) (by decide) ?_
      exact ⟨rfl, rfl⟩
    · skip
      refine Z.aload_n B dX1_putFirst_19 (v := .ref 35) rfl rfl ?_
      refine Z.getR (σ := (zuX σ 38 (pg k p (zX σ 38)))) B fX1_22_1 dX1_putFirst_20 (hl.n (k := 35) (by decide)) (hl.k (k := 35) (by decide)) (by decide) (j := 38) (hl.r (k := 35) (f := 4) (by decide) (by decide)) ?_
      refine Z.iload_n B dX1_putFirst_23 (x := nI k) rfl ?_
      refine Z.aload_n B dX1_putFirst_24 (v := .ref 35) rfl rfl ?_
      refine Z.getR (σ := (zuX σ 38 (pg k p (zX σ 38)))) B fX1_22_1 dX1_putFirst_25 (hl.n (k := 35) (by decide)) (hl.k (k := 35) (by decide)) (by decide) (j := 38) (hl.r (k := 35) (f := 4) (by decide) (by decide)) ?_
      refine Z.iload_n B dX1_putFirst_28 (x := nI k) rfl ?_
      refine Z.iconst B dX1_putFirst_29 (v := nI 1) rfl ?_
      refine Z.isubN B dX1_putFirst_30 (a := k) (b := 1) (by omega) ?_
      refine Z.iald (σ := (zuX σ 38 (pg k p (zX σ 38)))) B dX1_putFirst_31 (n := 4) (hl.n (k := 38) (by decide)) (hl.k (k := 38) (by decide)) (hl.l (k := 38) (by decide)) (by decide) (j := k - 1) rfl (by omega) (v := ((pg k p (zX σ 38)) (k - 1))) rfl ?_
      refine Z.iast (σ := (zuX σ 38 (pg k p (zX σ 38)))) B dX1_putFirst_32 (n := 4) (hl.n (k := 38) (by decide)) (hl.k (k := 38) (by decide)) (hl.l (k := 38) (by decide)) (by decide) (j := k) rfl (by omega) (τ := (zuX σ 38 (pg (k - 1) p (zX σ 38)))) (by rw [zX_self, zuX_uX, pg_s h16 hk]) ?_
      refine Z.iinc B dX1_putFirst_33 (by decide) (x := nI k) rfl (v := nI (k - 1)) (nI_dec2 h16) (L' := [(0, .ref 35), (1, .int (nI x)), (2, .int (nI p)), (3, .int (nI (k - 1)))]) rfl ?_
      refine Z.goto B dX1_putFirst_36 (tgt := 15) rfl ?_
      exact ih (k - 1) (by omega) (by omega)
  have h0 := hloop15 p (Nat.le_refl _)
  rw [pg_0, zuX_id] at h0
  exact h0

theorem t_X1_takeOver_35_20 {σ : zSt} (hl : Lay σ) (h1 : ∀ k, 48 ≤ k → zX σ 36 k = zX σ 21 k) (h2 : ∀ k, 12 ≤ k → zX σ 37 k = zX σ 22 k) (h3 : ∀ k, 4 ≤ k → zX σ 38 k = zX σ 23 k) (h4 : ∀ k, 8 ≤ k → zR σ 39 k = zR σ 24 k) (hW : ∀ k, k < 8 → ∀ q, zR σ 24 k = some q → 66 ≤ q ∧ q < zN σ ∧ zIsW (zK σ q)) : Dt mX1_takeOver [.ref 35, .ref 20] σ (none) (zuX (zuR (zuX (zuX (zuX σ 36 (zX σ 21)) 37 (zX σ 22)) 38 (zX σ 23)) 39 (zR σ 24)) 35 (upd (upd (upd (upd (zX σ 35) 2 (zX σ 20 2)) 5 (zX σ 20 5)) 7 (zX σ 20 7)) 8 (zX σ 20 8))) := by
  refine Dt.of (by decide) (Nat.le_of_ble_eq_true rfl) fun κ B Rt => ?_
  show Z κ 0 0 σ 0 [(0, .ref 35), (1, .ref 20)] []
  refine Z.aload_n B dX1_takeOver_0 (v := .ref 20) rfl rfl ?_
  refine Z.getR (σ := σ) B fX1_15_1 dX1_takeOver_1 (hl.n (k := 20) (by decide)) (hl.k (k := 20) (by decide)) (by decide) (j := 21) (hl.r (k := 20) (f := 1) (by decide) (by decide)) ?_
  refine Z.iconst B dX1_takeOver_4 (v := nI 0) rfl ?_
  refine Z.aload_n B dX1_takeOver_5 (v := .ref 35) rfl rfl ?_
  refine Z.getR (σ := σ) B fX1_15_1 dX1_takeOver_6 (hl.n (k := 35) (by decide)) (hl.k (k := 35) (by decide)) (by decide) (j := 36) (hl.r (k := 35) (f := 1) (by decide) (by decide)) ?_
  refine Z.iconst B dX1_takeOver_9 (v := nI 0) rfl ?_
  refine Z.aload_n B dX1_takeOver_10 (v := .ref 35) rfl rfl ?_
  refine Z.getR (σ := σ) B fX1_15_1 dX1_takeOver_11 (hl.n (k := 35) (by decide)) (hl.k (k := 35) (by decide)) (by decide) (j := 36) (hl.r (k := 35) (f := 1) (by decide) (by decide)) ?_
  refine Z.alen (σ := σ) B dX1_takeOver_14 (hl.n (k := 36) (by decide)) (t := 0) (hl.k (k := 36) (by decide)) (by decide) (n := 48) (hl.l (k := 36) (by decide)) (v := nI 48) rfl ?_
  refine Z.copyI (σ := σ) B (k := 21) (k2 := 36) (sp := 0) (dp := 0) (n := 48) (n1 := 48) (n2 := 48) dX1_takeOver_15 kX1_50 (by decide) (Nat.le_of_ble_eq_true rfl) (hl.n (k := 21) (by decide)) (hl.k (k := 21) (by decide)) (hl.l (k := 21) (by decide)) (hl.n (k := 36) (by decide)) (hl.k (k := 36) (by decide)) (hl.l (k := 36) (by decide)) (by omega) (by omega) (by decide) (by decide) (τ := (zuX σ 36 (zX σ 21))) (by rw [cpy_fi h1]) ?_
  refine Z.aload_n B dX1_takeOver_18 (v := .ref 20) rfl rfl ?_
  refine Z.getR (σ := (zuX σ 36 (zX σ 21))) B fX1_19_1 dX1_takeOver_19 (hl.n (k := 20) (by decide)) (hl.k (k := 20) (by decide)) (by decide) (j := 22) (hl.r (k := 20) (f := 3) (by decide) (by decide)) ?_
  refine Z.iconst B dX1_takeOver_22 (v := nI 0) rfl ?_
  refine Z.aload_n B dX1_takeOver_23 (v := .ref 35) rfl rfl ?_
  refine Z.getR (σ := (zuX σ 36 (zX σ 21))) B fX1_19_1 dX1_takeOver_24 (hl.n (k := 35) (by decide)) (hl.k (k := 35) (by decide)) (by decide) (j := 37) (hl.r (k := 35) (f := 3) (by decide) (by decide)) ?_
  refine Z.iconst B dX1_takeOver_27 (v := nI 0) rfl ?_
  refine Z.aload_n B dX1_takeOver_28 (v := .ref 35) rfl rfl ?_
  refine Z.getR (σ := (zuX σ 36 (zX σ 21))) B fX1_19_1 dX1_takeOver_29 (hl.n (k := 35) (by decide)) (hl.k (k := 35) (by decide)) (by decide) (j := 37) (hl.r (k := 35) (f := 3) (by decide) (by decide)) ?_
  refine Z.alen (σ := (zuX σ 36 (zX σ 21))) B dX1_takeOver_32 (hl.n (k := 37) (by decide)) (t := 0) (hl.k (k := 37) (by decide)) (by decide) (n := 12) (hl.l (k := 37) (by decide)) (v := nI 12) rfl ?_
  refine Z.copyI (σ := (zuX σ 36 (zX σ 21))) B (k := 22) (k2 := 37) (sp := 0) (dp := 0) (n := 12) (n1 := 12) (n2 := 12) dX1_takeOver_33 kX1_50 (by decide) (Nat.le_of_ble_eq_true rfl) (hl.n (k := 22) (by decide)) (hl.k (k := 22) (by decide)) (hl.l (k := 22) (by decide)) (hl.n (k := 37) (by decide)) (hl.k (k := 37) (by decide)) (hl.l (k := 37) (by decide)) (by omega) (by omega) (by decide) (by decide) (τ := (zuX (zuX σ 36 (zX σ 21)) 37 (zX σ 22))) (congrArg (zuX _ _) (cpy_fi h2)) ?_
  refine Z.aload_n B dX1_takeOver_36 (v := .ref 20) rfl rfl ?_
  refine Z.getR (σ := (zuX (zuX σ 36 (zX σ 21)) 37 (zX σ 22))) B fX1_22_1 dX1_takeOver_37 (hl.n (k := 20) (by decide)) (hl.k (k := 20) (by decide)) (by decide) (j := 23) (hl.r (k := 20) (f := 4) (by decide) (by decide)) ?_
  refine Z.iconst B dX1_takeOver_40 (v := nI 0) rfl ?_
  refine Z.aload_n B dX1_takeOver_41 (v := .ref 35) rfl rfl ?_
  refine Z.getR (σ := (zuX (zuX σ 36 (zX σ 21)) 37 (zX σ 22))) B fX1_22_1 dX1_takeOver_42 (hl.n (k := 35) (by decide)) (hl.k (k := 35) (by decide)) (by decide) (j := 38) (hl.r (k := 35) (f := 4) (by decide) (by decide)) ?_
  refine Z.iconst B dX1_takeOver_45 (v := nI 0) rfl ?_
  refine Z.aload_n B dX1_takeOver_46 (v := .ref 35) rfl rfl ?_
  refine Z.getR (σ := (zuX (zuX σ 36 (zX σ 21)) 37 (zX σ 22))) B fX1_22_1 dX1_takeOver_47 (hl.n (k := 35) (by decide)) (hl.k (k := 35) (by decide)) (by decide) (j := 38) (hl.r (k := 35) (f := 4) (by decide) (by decide)) ?_
  refine Z.alen (σ := (zuX (zuX σ 36 (zX σ 21)) 37 (zX σ 22))) B dX1_takeOver_50 (hl.n (k := 38) (by decide)) (t := 0) (hl.k (k := 38) (by decide)) (by decide) (n := 4) (hl.l (k := 38) (by decide)) (v := nI 4) rfl ?_
  refine Z.copyI (σ := (zuX (zuX σ 36 (zX σ 21)) 37 (zX σ 22))) B (k := 23) (k2 := 38) (sp := 0) (dp := 0) (n := 4) (n1 := 4) (n2 := 4) dX1_takeOver_51 kX1_50 (by decide) (Nat.le_of_ble_eq_true rfl) (hl.n (k := 23) (by decide)) (hl.k (k := 23) (by decide)) (hl.l (k := 23) (by decide)) (hl.n (k := 38) (by decide)) (hl.k (k := 38) (by decide)) (hl.l (k := 38) (by decide)) (by omega) (by omega) (by decide) (by decide) (τ := (zuX (zuX (zuX σ 36 (zX σ 21)) 37 (zX σ 22)) 38 (zX σ 23))) (congrArg (zuX _ _) (cpy_fi h3)) ?_
  refine Z.iconst B dX1_takeOver_54 (v := nI 0) rfl ?_
  refine Z.istore_n B dX1_takeOver_55 (by decide) (L' := [(0, .ref 35), (1, .ref 20), (2, .int (nI 0))]) rfl ?_
  have hloop56 : ∀ i : Nat, i ≤ 8 → Z κ 0 0 (zuR (zuX (zuX (zuX σ 36 (zX σ 21)) 37 (zX σ 22)) 38 (zX σ 23)) 39 (fiR i (zR σ 24) (zR σ 39))) 56 [(0, .ref 35), (1, .ref 20), (2, .int (nI i))] [] := by
    refine z_loop (fun i => 8 - i) (fun i ih hi => ?_)
    refine Z.iload_n B dX1_takeOver_56 (x := nI i) rfl ?_
    refine Z.aload_n B dX1_takeOver_57 (v := .ref 35) rfl rfl ?_
    refine Z.getR (σ := (zuR (zuX (zuX (zuX σ 36 (zX σ 21)) 37 (zX σ 22)) 38 (zX σ 23)) 39 (fiR i (zR σ 24) (zR σ 39)))) B fX1_27_1 dX1_takeOver_58 (hl.n (k := 35) (by decide)) (hl.k (k := 35) (by decide)) (by decide) (j := 39) (hl.r (k := 35) (f := 6) (by decide) (by decide)) ?_
    refine Z.alen (σ := (zuR (zuX (zuX (zuX σ 36 (zX σ 21)) 37 (zX σ 22)) 38 (zX σ 23)) 39 (fiR i (zR σ 24) (zR σ 39)))) B dX1_takeOver_61 (hl.n (k := 39) (by decide)) (t := 3) (hl.k (k := 39) (by decide)) (by decide) (n := 8) (hl.l (k := 39) (by decide)) (v := nI 8) rfl ?_
    refine Z.icmp_geN B dX1_takeOver_62 (tgt := 83) rfl (by omega) (by omega) (fun h62 => ?_) (fun h62 => ?_)
    · skip
      obtain rfl : 8 = i := by omega
      rw [fiR_8 h4]
      refine Z.aload_n B dX1_takeOver_83 (v := .ref 35) rfl rfl ?_
      refine Z.aload_n B dX1_takeOver_84 (v := .ref 20) rfl rfl ?_
      refine Z.getI (σ := (zuR (zuX (zuX (zuX σ 36 (zX σ 21)) 37 (zX σ 22)) 38 (zX σ 23)) 39 (zR σ 24))) B fX1_37_1 dX1_takeOver_85 (hl.n (k := 20) (by decide)) (hl.k (k := 20) (by decide)) (by decide) (v := (zX σ 20 2)) rfl ?_
      refine Z.putI (σ := (zuR (zuX (zuX (zuX σ 36 (zX σ 21)) 37 (zX σ 22)) 38 (zX σ 23)) 39 (zR σ 24))) B fX1_37_1 (ty := .int) ⟨_, _, _, rfl, rfl, by decide +kernel⟩ dX1_takeOver_88 (hl.n (k := 35) (by decide)) (hl.k (k := 35) (by decide)) (by decide) rfl rfl (τ := (zuX (zuR (zuX (zuX (zuX σ 36 (zX σ 21)) 37 (zX σ 22)) 38 (zX σ 23)) 39 (zR σ 24)) 35 (upd (zX σ 35) 2 (zX σ 20 2)))) rfl ?_
      refine Z.aload_n B dX1_takeOver_91 (v := .ref 35) rfl rfl ?_
      refine Z.aload_n B dX1_takeOver_92 (v := .ref 20) rfl rfl ?_
      refine Z.getI (σ := (zuX (zuR (zuX (zuX (zuX σ 36 (zX σ 21)) 37 (zX σ 22)) 38 (zX σ 23)) 39 (zR σ 24)) 35 (upd (zX σ 35) 2 (zX σ 20 2)))) B fX1_41_1 dX1_takeOver_93 (hl.n (k := 20) (by decide)) (hl.k (k := 20) (by decide)) (by decide) (v := (zX σ 20 5)) rfl ?_
      refine Z.putI (σ := (zuX (zuR (zuX (zuX (zuX σ 36 (zX σ 21)) 37 (zX σ 22)) 38 (zX σ 23)) 39 (zR σ 24)) 35 (upd (zX σ 35) 2 (zX σ 20 2)))) B fX1_41_1 (ty := .int) ⟨_, _, _, rfl, rfl, by decide +kernel⟩ dX1_takeOver_96 (hl.n (k := 35) (by decide)) (hl.k (k := 35) (by decide)) (by decide) rfl rfl (τ := (zuX (zuR (zuX (zuX (zuX σ 36 (zX σ 21)) 37 (zX σ 22)) 38 (zX σ 23)) 39 (zR σ 24)) 35 (upd (upd (zX σ 35) 2 (zX σ 20 2)) 5 (zX σ 20 5)))) (by simp only [zX_self, zuX_uX]) ?_
      refine Z.aload_n B dX1_takeOver_99 (v := .ref 35) rfl rfl ?_
      refine Z.aload_n B dX1_takeOver_100 (v := .ref 20) rfl rfl ?_
      refine Z.getI (σ := (zuX (zuR (zuX (zuX (zuX σ 36 (zX σ 21)) 37 (zX σ 22)) 38 (zX σ 23)) 39 (zR σ 24)) 35 (upd (upd (zX σ 35) 2 (zX σ 20 2)) 5 (zX σ 20 5)))) B fX1_44_1 dX1_takeOver_101 (hl.n (k := 20) (by decide)) (hl.k (k := 20) (by decide)) (by decide) (v := (zX σ 20 7)) rfl ?_
      refine Z.putI (σ := (zuX (zuR (zuX (zuX (zuX σ 36 (zX σ 21)) 37 (zX σ 22)) 38 (zX σ 23)) 39 (zR σ 24)) 35 (upd (upd (zX σ 35) 2 (zX σ 20 2)) 5 (zX σ 20 5)))) B fX1_44_1 (ty := .int) ⟨_, _, _, rfl, rfl, by decide +kernel⟩ dX1_takeOver_104 (hl.n (k := 35) (by decide)) (hl.k (k := 35) (by decide)) (by decide) rfl rfl (τ := (zuX (zuR (zuX (zuX (zuX σ 36 (zX σ 21)) 37 (zX σ 22)) 38 (zX σ 23)) 39 (zR σ 24)) 35 (upd (upd (upd (zX σ 35) 2 (zX σ 20 2)) 5 (zX σ 20 5)) 7 (zX σ 20 7)))) (by simp only [zX_self, zuX_uX]) ?_
      refine Z.aload_n B dX1_takeOver_107 (v := .ref 35) rfl rfl ?_
      refine Z.aload_n B dX1_takeOver_108 (v := .ref 20) rfl rfl ?_
      refine Z.getI (σ := (zuX (zuR (zuX (zuX (zuX σ 36 (zX σ 21)) 37 (zX σ 22)) 38 (zX σ 23)) 39 (zR σ 24)) 35 (upd (upd (upd (zX σ 35) 2 (zX σ 20 2)) 5 (zX σ 20 5)) 7 (zX σ 20 7)))) B fX1_47_1 dX1_takeOver_109 (hl.n (k := 20) (by decide)) (hl.k (k := 20) (by decide)) (by decide) (v := (zX σ 20 8)) rfl ?_
      refine Z.putI (σ := (zuX (zuR (zuX (zuX (zuX σ 36 (zX σ 21)) 37 (zX σ 22)) 38 (zX σ 23)) 39 (zR σ 24)) 35 (upd (upd (upd (zX σ 35) 2 (zX σ 20 2)) 5 (zX σ 20 5)) 7 (zX σ 20 7)))) B fX1_47_1 (ty := .int) ⟨_, _, _, rfl, rfl, by decide +kernel⟩ dX1_takeOver_112 (hl.n (k := 35) (by decide)) (hl.k (k := 35) (by decide)) (by decide) rfl rfl (τ := (zuX (zuR (zuX (zuX (zuX σ 36 (zX σ 21)) 37 (zX σ 22)) 38 (zX σ 23)) 39 (zR σ 24)) 35 (upd (upd (upd (upd (zX σ 35) 2 (zX σ 20 2)) 5 (zX σ 20 5)) 7 (zX σ 20 7)) 8 (zX σ 20 8)))) (by simp only [zX_self, zuX_uX]) ?_
      refine Z.vret B Rt dX1_takeOver_115 rfl (by decide) (by decide) ?_
      exact ⟨rfl, rfl⟩
    · skip
      refine Z.aload_n B dX1_takeOver_65 (v := .ref 35) rfl rfl ?_
      refine Z.getR (σ := (zuR (zuX (zuX (zuX σ 36 (zX σ 21)) 37 (zX σ 22)) 38 (zX σ 23)) 39 (fiR i (zR σ 24) (zR σ 39)))) B fX1_27_1 dX1_takeOver_66 (hl.n (k := 35) (by decide)) (hl.k (k := 35) (by decide)) (by decide) (j := 39) (hl.r (k := 35) (f := 6) (by decide) (by decide)) ?_
      refine Z.iload_n B dX1_takeOver_69 (x := nI i) rfl ?_
      refine Z.aload_n B dX1_takeOver_70 (v := .ref 20) rfl rfl ?_
      refine Z.getR (σ := (zuR (zuX (zuX (zuX σ 36 (zX σ 21)) 37 (zX σ 22)) 38 (zX σ 23)) 39 (fiR i (zR σ 24) (zR σ 39)))) B fX1_27_1 dX1_takeOver_71 (hl.n (k := 20) (by decide)) (hl.k (k := 20) (by decide)) (by decide) (j := 24) (hl.r (k := 20) (f := 6) (by decide) (by decide)) ?_
      refine Z.iload_n B dX1_takeOver_74 (x := nI i) rfl ?_
      rcases hq : zR σ 24 i with _ | q
      · skip
        refine Z.aldYN (σ := (zuR (zuX (zuX (zuX σ 36 (zX σ 21)) 37 (zX σ 22)) 38 (zX σ 23)) 39 (fiR i (zR σ 24) (zR σ 39)))) B dX1_takeOver_75 (n := 8) (hl.n (k := 24) (by decide)) (hl.k (k := 24) (by decide)) (hl.l (k := 24) (by decide)) (by decide) (j := i) rfl (by omega) hq ?_
        refine Z.astN (σ := (zuR (zuX (zuX (zuX σ 36 (zX σ 21)) 37 (zX σ 22)) 38 (zX σ 23)) 39 (fiR i (zR σ 24) (zR σ 39)))) B (n := 8) dX1_takeOver_76 (hl.n (k := 39) (by decide)) (hl.k (k := 39) (by decide)) (hl.l (k := 39) (by decide)) (by decide) (j := i) rfl (by omega) (τ := (zuR (zuX (zuX (zuX σ 36 (zX σ 21)) 37 (zX σ 22)) 38 (zX σ 23)) 39 (fiR (i + 1) (zR σ 24) (zR σ 39)))) (by rw [zR_self, zuR_uR, fiR_s hq]) ?_
        refine Z.iincN B dX1_takeOver_77 (by decide) (a := i) rfl (L' := [(0, .ref 35), (1, .ref 20), (2, .int (nI (i + 1)))]) rfl ?_
        refine Z.goto B dX1_takeOver_80 (tgt := 56) rfl ?_
        exact ih (i + 1) (by omega) (by omega)
      · skip
        refine Z.aldY (σ := (zuR (zuX (zuX (zuX σ 36 (zX σ 21)) 37 (zX σ 22)) 38 (zX σ 23)) 39 (fiR i (zR σ 24) (zR σ 39)))) B dX1_takeOver_75 (n := 8) (hl.n (k := 24) (by decide)) (hl.k (k := 24) (by decide)) (hl.l (k := 24) (by decide)) (by decide) (j := i) rfl (by omega) (q := q) hq ?_
        refine Z.astY (σ := (zuR (zuX (zuX (zuX σ 36 (zX σ 21)) 37 (zX σ 22)) 38 (zX σ 23)) 39 (fiR i (zR σ 24) (zR σ 39)))) B (n := 8) (q := q) dX1_takeOver_76 (hl.n (k := 39) (by decide)) (hl.k (k := 39) (by decide)) (hl.l (k := 39) (by decide)) (by decide) (j := i) rfl (by omega) (hW i (by omega) q hq).2.1 rfl (hW i (by omega) q hq).2.2 (τ := (zuR (zuX (zuX (zuX σ 36 (zX σ 21)) 37 (zX σ 22)) 38 (zX σ 23)) 39 (fiR (i + 1) (zR σ 24) (zR σ 39)))) (by rw [zR_self, zuR_uR, fiR_s hq]) ?_
        refine Z.iincN B dX1_takeOver_77 (by decide) (a := i) rfl (L' := [(0, .ref 35), (1, .ref 20), (2, .int (nI (i + 1)))]) rfl ?_
        refine Z.goto B dX1_takeOver_80 (tgt := 56) rfl ?_
        exact ih (i + 1) (by omega) (by omega)
  have h0 := hloop56 0 (Nat.zero_le _)
  rw [fiR_0] at h0
  refine Z.eqσ ?_ h0
  exact (zuR_id (σ := (zuX (zuX (zuX σ 36 (zX σ 21)) 37 (zX σ 22)) 38 (zX σ 23)))).symm

theorem t_X1_takeOver_20_35 {σ : zSt} (hl : Lay σ) (h1 : ∀ k, 48 ≤ k → zX σ 21 k = zX σ 36 k) (h2 : ∀ k, 12 ≤ k → zX σ 22 k = zX σ 37 k) (h3 : ∀ k, 4 ≤ k → zX σ 23 k = zX σ 38 k) (h4 : ∀ k, 8 ≤ k → zR σ 24 k = zR σ 39 k) (hW : ∀ k, k < 8 → ∀ q, zR σ 39 k = some q → 66 ≤ q ∧ q < zN σ ∧ zIsW (zK σ q)) : Dt mX1_takeOver [.ref 20, .ref 35] σ (none) (zuX (zuR (zuX (zuX (zuX σ 21 (zX σ 36)) 22 (zX σ 37)) 23 (zX σ 38)) 24 (zR σ 39)) 20 (upd (upd (upd (upd (zX σ 20) 2 (zX σ 35 2)) 5 (zX σ 35 5)) 7 (zX σ 35 7)) 8 (zX σ 35 8))) := by
  refine Dt.of (by decide) (Nat.le_of_ble_eq_true rfl) fun κ B Rt => ?_
  show Z κ 0 0 σ 0 [(0, .ref 20), (1, .ref 35)] []
  refine Z.aload_n B dX1_takeOver_0 (v := .ref 35) rfl rfl ?_
  refine Z.getR (σ := σ) B fX1_15_1 dX1_takeOver_1 (hl.n (k := 35) (by decide)) (hl.k (k := 35) (by decide)) (by decide) (j := 36) (hl.r (k := 35) (f := 1) (by decide) (by decide)) ?_
  refine Z.iconst B dX1_takeOver_4 (v := nI 0) rfl ?_
  refine Z.aload_n B dX1_takeOver_5 (v := .ref 20) rfl rfl ?_
  refine Z.getR (σ := σ) B fX1_15_1 dX1_takeOver_6 (hl.n (k := 20) (by decide)) (hl.k (k := 20) (by decide)) (by decide) (j := 21) (hl.r (k := 20) (f := 1) (by decide) (by decide)) ?_
  refine Z.iconst B dX1_takeOver_9 (v := nI 0) rfl ?_
  refine Z.aload_n B dX1_takeOver_10 (v := .ref 20) rfl rfl ?_
  refine Z.getR (σ := σ) B fX1_15_1 dX1_takeOver_11 (hl.n (k := 20) (by decide)) (hl.k (k := 20) (by decide)) (by decide) (j := 21) (hl.r (k := 20) (f := 1) (by decide) (by decide)) ?_
  refine Z.alen (σ := σ) B dX1_takeOver_14 (hl.n (k := 21) (by decide)) (t := 0) (hl.k (k := 21) (by decide)) (by decide) (n := 48) (hl.l (k := 21) (by decide)) (v := nI 48) rfl ?_
  refine Z.copyI (σ := σ) B (k := 36) (k2 := 21) (sp := 0) (dp := 0) (n := 48) (n1 := 48) (n2 := 48) dX1_takeOver_15 kX1_50 (by decide) (Nat.le_of_ble_eq_true rfl) (hl.n (k := 36) (by decide)) (hl.k (k := 36) (by decide)) (hl.l (k := 36) (by decide)) (hl.n (k := 21) (by decide)) (hl.k (k := 21) (by decide)) (hl.l (k := 21) (by decide)) (by omega) (by omega) (by decide) (by decide) (τ := (zuX σ 21 (zX σ 36))) (by rw [cpy_fi h1]) ?_
  refine Z.aload_n B dX1_takeOver_18 (v := .ref 35) rfl rfl ?_
  refine Z.getR (σ := (zuX σ 21 (zX σ 36))) B fX1_19_1 dX1_takeOver_19 (hl.n (k := 35) (by decide)) (hl.k (k := 35) (by decide)) (by decide) (j := 37) (hl.r (k := 35) (f := 3) (by decide) (by decide)) ?_
  refine Z.iconst B dX1_takeOver_22 (v := nI 0) rfl ?_
  refine Z.aload_n B dX1_takeOver_23 (v := .ref 20) rfl rfl ?_
  refine Z.getR (σ := (zuX σ 21 (zX σ 36))) B fX1_19_1 dX1_takeOver_24 (hl.n (k := 20) (by decide)) (hl.k (k := 20) (by decide)) (by decide) (j := 22) (hl.r (k := 20) (f := 3) (by decide) (by decide)) ?_
  refine Z.iconst B dX1_takeOver_27 (v := nI 0) rfl ?_
  refine Z.aload_n B dX1_takeOver_28 (v := .ref 20) rfl rfl ?_
  refine Z.getR (σ := (zuX σ 21 (zX σ 36))) B fX1_19_1 dX1_takeOver_29 (hl.n (k := 20) (by decide)) (hl.k (k := 20) (by decide)) (by decide) (j := 22) (hl.r (k := 20) (f := 3) (by decide) (by decide)) ?_
  refine Z.alen (σ := (zuX σ 21 (zX σ 36))) B dX1_takeOver_32 (hl.n (k := 22) (by decide)) (t := 0) (hl.k (k := 22) (by decide)) (by decide) (n := 12) (hl.l (k := 22) (by decide)) (v := nI 12) rfl ?_
  refine Z.copyI (σ := (zuX σ 21 (zX σ 36))) B (k := 37) (k2 := 22) (sp := 0) (dp := 0) (n := 12) (n1 := 12) (n2 := 12) dX1_takeOver_33 kX1_50 (by decide) (Nat.le_of_ble_eq_true rfl) (hl.n (k := 37) (by decide)) (hl.k (k := 37) (by decide)) (hl.l (k := 37) (by decide)) (hl.n (k := 22) (by decide)) (hl.k (k := 22) (by decide)) (hl.l (k := 22) (by decide)) (by omega) (by omega) (by decide) (by decide) (τ := (zuX (zuX σ 21 (zX σ 36)) 22 (zX σ 37))) (congrArg (zuX _ _) (cpy_fi h2)) ?_
  refine Z.aload_n B dX1_takeOver_36 (v := .ref 35) rfl rfl ?_
  refine Z.getR (σ := (zuX (zuX σ 21 (zX σ 36)) 22 (zX σ 37))) B fX1_22_1 dX1_takeOver_37 (hl.n (k := 35) (by decide)) (hl.k (k := 35) (by decide)) (by decide) (j := 38) (hl.r (k := 35) (f := 4) (by decide) (by decide)) ?_
  refine Z.iconst B dX1_takeOver_40 (v := nI 0) rfl ?_
  refine Z.aload_n B dX1_takeOver_41 (v := .ref 20) rfl rfl ?_
  refine Z.getR (σ := (zuX (zuX σ 21 (zX σ 36)) 22 (zX σ 37))) B fX1_22_1 dX1_takeOver_42 (hl.n (k := 20) (by decide)) (hl.k (k := 20) (by decide)) (by decide) (j := 23) (hl.r (k := 20) (f := 4) (by decide) (by decide)) ?_
  refine Z.iconst B dX1_takeOver_45 (v := nI 0) rfl ?_
  refine Z.aload_n B dX1_takeOver_46 (v := .ref 20) rfl rfl ?_
  refine Z.getR (σ := (zuX (zuX σ 21 (zX σ 36)) 22 (zX σ 37))) B fX1_22_1 dX1_takeOver_47 (hl.n (k := 20) (by decide)) (hl.k (k := 20) (by decide)) (by decide) (j := 23) (hl.r (k := 20) (f := 4) (by decide) (by decide)) ?_
  refine Z.alen (σ := (zuX (zuX σ 21 (zX σ 36)) 22 (zX σ 37))) B dX1_takeOver_50 (hl.n (k := 23) (by decide)) (t := 0) (hl.k (k := 23) (by decide)) (by decide) (n := 4) (hl.l (k := 23) (by decide)) (v := nI 4) rfl ?_
  refine Z.copyI (σ := (zuX (zuX σ 21 (zX σ 36)) 22 (zX σ 37))) B (k := 38) (k2 := 23) (sp := 0) (dp := 0) (n := 4) (n1 := 4) (n2 := 4) dX1_takeOver_51 kX1_50 (by decide) (Nat.le_of_ble_eq_true rfl) (hl.n (k := 38) (by decide)) (hl.k (k := 38) (by decide)) (hl.l (k := 38) (by decide)) (hl.n (k := 23) (by decide)) (hl.k (k := 23) (by decide)) (hl.l (k := 23) (by decide)) (by omega) (by omega) (by decide) (by decide) (τ := (zuX (zuX (zuX σ 21 (zX σ 36)) 22 (zX σ 37)) 23 (zX σ 38))) (congrArg (zuX _ _) (cpy_fi h3)) ?_
  refine Z.iconst B dX1_takeOver_54 (v := nI 0) rfl ?_
  refine Z.istore_n B dX1_takeOver_55 (by decide) (L' := [(0, .ref 20), (1, .ref 35), (2, .int (nI 0))]) rfl ?_
  have hloop56 : ∀ i : Nat, i ≤ 8 → Z κ 0 0 (zuR (zuX (zuX (zuX σ 21 (zX σ 36)) 22 (zX σ 37)) 23 (zX σ 38)) 24 (fiR i (zR σ 39) (zR σ 24))) 56 [(0, .ref 20), (1, .ref 35), (2, .int (nI i))] [] := by
    refine z_loop (fun i => 8 - i) (fun i ih hi => ?_)
    refine Z.iload_n B dX1_takeOver_56 (x := nI i) rfl ?_
    refine Z.aload_n B dX1_takeOver_57 (v := .ref 20) rfl rfl ?_
    refine Z.getR (σ := (zuR (zuX (zuX (zuX σ 21 (zX σ 36)) 22 (zX σ 37)) 23 (zX σ 38)) 24 (fiR i (zR σ 39) (zR σ 24)))) B fX1_27_1 dX1_takeOver_58 (hl.n (k := 20) (by decide)) (hl.k (k := 20) (by decide)) (by decide) (j := 24) (hl.r (k := 20) (f := 6) (by decide) (by decide)) ?_
    refine Z.alen (σ := (zuR (zuX (zuX (zuX σ 21 (zX σ 36)) 22 (zX σ 37)) 23 (zX σ 38)) 24 (fiR i (zR σ 39) (zR σ 24)))) B dX1_takeOver_61 (hl.n (k := 24) (by decide)) (t := 3) (hl.k (k := 24) (by decide)) (by decide) (n := 8) (hl.l (k := 24) (by decide)) (v := nI 8) rfl ?_
    refine Z.icmp_geN B dX1_takeOver_62 (tgt := 83) rfl (by omega) (by omega) (fun h62 => ?_) (fun h62 => ?_)
    · skip
      obtain rfl : 8 = i := by omega
      rw [fiR_8 h4]
      refine Z.aload_n B dX1_takeOver_83 (v := .ref 20) rfl rfl ?_
      refine Z.aload_n B dX1_takeOver_84 (v := .ref 35) rfl rfl ?_
      refine Z.getI (σ := (zuR (zuX (zuX (zuX σ 21 (zX σ 36)) 22 (zX σ 37)) 23 (zX σ 38)) 24 (zR σ 39))) B fX1_37_1 dX1_takeOver_85 (hl.n (k := 35) (by decide)) (hl.k (k := 35) (by decide)) (by decide) (v := (zX σ 35 2)) rfl ?_
      refine Z.putI (σ := (zuR (zuX (zuX (zuX σ 21 (zX σ 36)) 22 (zX σ 37)) 23 (zX σ 38)) 24 (zR σ 39))) B fX1_37_1 (ty := .int) ⟨_, _, _, rfl, rfl, by decide +kernel⟩ dX1_takeOver_88 (hl.n (k := 20) (by decide)) (hl.k (k := 20) (by decide)) (by decide) rfl rfl (τ := (zuX (zuR (zuX (zuX (zuX σ 21 (zX σ 36)) 22 (zX σ 37)) 23 (zX σ 38)) 24 (zR σ 39)) 20 (upd (zX σ 20) 2 (zX σ 35 2)))) rfl ?_
      refine Z.aload_n B dX1_takeOver_91 (v := .ref 20) rfl rfl ?_
      refine Z.aload_n B dX1_takeOver_92 (v := .ref 35) rfl rfl ?_
      refine Z.getI (σ := (zuX (zuR (zuX (zuX (zuX σ 21 (zX σ 36)) 22 (zX σ 37)) 23 (zX σ 38)) 24 (zR σ 39)) 20 (upd (zX σ 20) 2 (zX σ 35 2)))) B fX1_41_1 dX1_takeOver_93 (hl.n (k := 35) (by decide)) (hl.k (k := 35) (by decide)) (by decide) (v := (zX σ 35 5)) rfl ?_
      refine Z.putI (σ := (zuX (zuR (zuX (zuX (zuX σ 21 (zX σ 36)) 22 (zX σ 37)) 23 (zX σ 38)) 24 (zR σ 39)) 20 (upd (zX σ 20) 2 (zX σ 35 2)))) B fX1_41_1 (ty := .int) ⟨_, _, _, rfl, rfl, by decide +kernel⟩ dX1_takeOver_96 (hl.n (k := 20) (by decide)) (hl.k (k := 20) (by decide)) (by decide) rfl rfl (τ := (zuX (zuR (zuX (zuX (zuX σ 21 (zX σ 36)) 22 (zX σ 37)) 23 (zX σ 38)) 24 (zR σ 39)) 20 (upd (upd (zX σ 20) 2 (zX σ 35 2)) 5 (zX σ 35 5)))) (by simp only [zX_self, zuX_uX]) ?_
      refine Z.aload_n B dX1_takeOver_99 (v := .ref 20) rfl rfl ?_
      refine Z.aload_n B dX1_takeOver_100 (v := .ref 35) rfl rfl ?_
      refine Z.getI (σ := (zuX (zuR (zuX (zuX (zuX σ 21 (zX σ 36)) 22 (zX σ 37)) 23 (zX σ 38)) 24 (zR σ 39)) 20 (upd (upd (zX σ 20) 2 (zX σ 35 2)) 5 (zX σ 35 5)))) B fX1_44_1 dX1_takeOver_101 (hl.n (k := 35) (by decide)) (hl.k (k := 35) (by decide)) (by decide) (v := (zX σ 35 7)) rfl ?_
      refine Z.putI (σ := (zuX (zuR (zuX (zuX (zuX σ 21 (zX σ 36)) 22 (zX σ 37)) 23 (zX σ 38)) 24 (zR σ 39)) 20 (upd (upd (zX σ 20) 2 (zX σ 35 2)) 5 (zX σ 35 5)))) B fX1_44_1 (ty := .int) ⟨_, _, _, rfl, rfl, by decide +kernel⟩ dX1_takeOver_104 (hl.n (k := 20) (by decide)) (hl.k (k := 20) (by decide)) (by decide) rfl rfl (τ := (zuX (zuR (zuX (zuX (zuX σ 21 (zX σ 36)) 22 (zX σ 37)) 23 (zX σ 38)) 24 (zR σ 39)) 20 (upd (upd (upd (zX σ 20) 2 (zX σ 35 2)) 5 (zX σ 35 5)) 7 (zX σ 35 7)))) (by simp only [zX_self, zuX_uX]) ?_
      refine Z.aload_n B dX1_takeOver_107 (v := .ref 20) rfl rfl ?_
      refine Z.aload_n B dX1_takeOver_108 (v := .ref 35) rfl rfl ?_
      refine Z.getI (σ := (zuX (zuR (zuX (zuX (zuX σ 21 (zX σ 36)) 22 (zX σ 37)) 23 (zX σ 38)) 24 (zR σ 39)) 20 (upd (upd (upd (zX σ 20) 2 (zX σ 35 2)) 5 (zX σ 35 5)) 7 (zX σ 35 7)))) B fX1_47_1 dX1_takeOver_109 (hl.n (k := 35) (by decide)) (hl.k (k := 35) (by decide)) (by decide) (v := (zX σ 35 8)) rfl ?_
      refine Z.putI (σ := (zuX (zuR (zuX (zuX (zuX σ 21 (zX σ 36)) 22 (zX σ 37)) 23 (zX σ 38)) 24 (zR σ 39)) 20 (upd (upd (upd (zX σ 20) 2 (zX σ 35 2)) 5 (zX σ 35 5)) 7 (zX σ 35 7)))) B fX1_47_1 (ty := .int) ⟨_, _, _, rfl, rfl, by decide +kernel⟩ dX1_takeOver_112 (hl.n (k := 20) (by decide)) (hl.k (k := 20) (by decide)) (by decide) rfl rfl (τ := (zuX (zuR (zuX (zuX (zuX σ 21 (zX σ 36)) 22 (zX σ 37)) 23 (zX σ 38)) 24 (zR σ 39)) 20 (upd (upd (upd (upd (zX σ 20) 2 (zX σ 35 2)) 5 (zX σ 35 5)) 7 (zX σ 35 7)) 8 (zX σ 35 8)))) (by simp only [zX_self, zuX_uX]) ?_
      refine Z.vret B Rt dX1_takeOver_115 rfl (by decide) (by decide) ?_
      exact ⟨rfl, rfl⟩
    · skip
      refine Z.aload_n B dX1_takeOver_65 (v := .ref 20) rfl rfl ?_
      refine Z.getR (σ := (zuR (zuX (zuX (zuX σ 21 (zX σ 36)) 22 (zX σ 37)) 23 (zX σ 38)) 24 (fiR i (zR σ 39) (zR σ 24)))) B fX1_27_1 dX1_takeOver_66 (hl.n (k := 20) (by decide)) (hl.k (k := 20) (by decide)) (by decide) (j := 24) (hl.r (k := 20) (f := 6) (by decide) (by decide)) ?_
      refine Z.iload_n B dX1_takeOver_69 (x := nI i) rfl ?_
      refine Z.aload_n B dX1_takeOver_70 (v := .ref 35) rfl rfl ?_
      refine Z.getR (σ := (zuR (zuX (zuX (zuX σ 21 (zX σ 36)) 22 (zX σ 37)) 23 (zX σ 38)) 24 (fiR i (zR σ 39) (zR σ 24)))) B fX1_27_1 dX1_takeOver_71 (hl.n (k := 35) (by decide)) (hl.k (k := 35) (by decide)) (by decide) (j := 39) (hl.r (k := 35) (f := 6) (by decide) (by decide)) ?_
      refine Z.iload_n B dX1_takeOver_74 (x := nI i) rfl ?_
      rcases hq : zR σ 39 i with _ | q
      · skip
        refine Z.aldYN (σ := (zuR (zuX (zuX (zuX σ 21 (zX σ 36)) 22 (zX σ 37)) 23 (zX σ 38)) 24 (fiR i (zR σ 39) (zR σ 24)))) B dX1_takeOver_75 (n := 8) (hl.n (k := 39) (by decide)) (hl.k (k := 39) (by decide)) (hl.l (k := 39) (by decide)) (by decide) (j := i) rfl (by omega) hq ?_
        refine Z.astN (σ := (zuR (zuX (zuX (zuX σ 21 (zX σ 36)) 22 (zX σ 37)) 23 (zX σ 38)) 24 (fiR i (zR σ 39) (zR σ 24)))) B (n := 8) dX1_takeOver_76 (hl.n (k := 24) (by decide)) (hl.k (k := 24) (by decide)) (hl.l (k := 24) (by decide)) (by decide) (j := i) rfl (by omega) (τ := (zuR (zuX (zuX (zuX σ 21 (zX σ 36)) 22 (zX σ 37)) 23 (zX σ 38)) 24 (fiR (i + 1) (zR σ 39) (zR σ 24)))) (by rw [zR_self, zuR_uR, fiR_s hq]) ?_
        refine Z.iincN B dX1_takeOver_77 (by decide) (a := i) rfl (L' := [(0, .ref 20), (1, .ref 35), (2, .int (nI (i + 1)))]) rfl ?_
        refine Z.goto B dX1_takeOver_80 (tgt := 56) rfl ?_
        exact ih (i + 1) (by omega) (by omega)
      · skip
        refine Z.aldY (σ := (zuR (zuX (zuX (zuX σ 21 (zX σ 36)) 22 (zX σ 37)) 23 (zX σ 38)) 24 (fiR i (zR σ 39) (zR σ 24)))) B dX1_takeOver_75 (n := 8) (hl.n (k := 39) (by decide)) (hl.k (k := 39) (by decide)) (hl.l (k := 39) (by decide)) (by decide) (j := i) rfl (by omega) (q := q) hq ?_
        refine Z.astY (σ := (zuR (zuX (zuX (zuX σ 21 (zX σ 36)) 22 (zX σ 37)) 23 (zX σ 38)) 24 (fiR i (zR σ 39) (zR σ 24)))) B (n := 8) (q := q) dX1_takeOver_76 (hl.n (k := 24) (by decide)) (hl.k (k := 24) (by decide)) (hl.l (k := 24) (by decide)) (by decide) (j := i) rfl (by omega) (hW i (by omega) q hq).2.1 rfl (hW i (by omega) q hq).2.2 (τ := (zuR (zuX (zuX (zuX σ 21 (zX σ 36)) 22 (zX σ 37)) 23 (zX σ 38)) 24 (fiR (i + 1) (zR σ 39) (zR σ 24)))) (by rw [zR_self, zuR_uR, fiR_s hq]) ?_
        refine Z.iincN B dX1_takeOver_77 (by decide) (a := i) rfl (L' := [(0, .ref 20), (1, .ref 35), (2, .int (nI (i + 1)))]) rfl ?_
        refine Z.goto B dX1_takeOver_80 (tgt := 56) rfl ?_
        exact ih (i + 1) (by omega) (by omega)
  have h0 := hloop56 0 (Nat.zero_le _)
  rw [fiR_0] at h0
  refine Z.eqσ ?_ h0
  exact (zuR_id (σ := (zuX (zuX (zuX σ 21 (zX σ 36)) 22 (zX σ 37)) 23 (zX σ 38)))).symm

theorem t_X1_takeOver_27_20 {σ : zSt} (hl : Lay σ) (h1 : ∀ k, 48 ≤ k → zX σ 28 k = zX σ 21 k) (h2 : ∀ k, 12 ≤ k → zX σ 29 k = zX σ 22 k) (h3 : ∀ k, 4 ≤ k → zX σ 30 k = zX σ 23 k) (h4 : ∀ k, 8 ≤ k → zR σ 31 k = zR σ 24 k) (hW : ∀ k, k < 8 → ∀ q, zR σ 24 k = some q → 66 ≤ q ∧ q < zN σ ∧ zIsW (zK σ q)) : Dt mX1_takeOver [.ref 27, .ref 20] σ (none) (zuX (zuR (zuX (zuX (zuX σ 28 (zX σ 21)) 29 (zX σ 22)) 30 (zX σ 23)) 31 (zR σ 24)) 27 (upd (upd (upd (upd (zX σ 27) 2 (zX σ 20 2)) 5 (zX σ 20 5)) 7 (zX σ 20 7)) 8 (zX σ 20 8))) := by
  refine Dt.of (by decide) (Nat.le_of_ble_eq_true rfl) fun κ B Rt => ?_
  show Z κ 0 0 σ 0 [(0, .ref 27), (1, .ref 20)] []
  refine Z.aload_n B dX1_takeOver_0 (v := .ref 20) rfl rfl ?_
  refine Z.getR (σ := σ) B fX1_15_1 dX1_takeOver_1 (hl.n (k := 20) (by decide)) (hl.k (k := 20) (by decide)) (by decide) (j := 21) (hl.r (k := 20) (f := 1) (by decide) (by decide)) ?_
  refine Z.iconst B dX1_takeOver_4 (v := nI 0) rfl ?_
  refine Z.aload_n B dX1_takeOver_5 (v := .ref 27) rfl rfl ?_
  refine Z.getR (σ := σ) B fX1_15_1 dX1_takeOver_6 (hl.n (k := 27) (by decide)) (hl.k (k := 27) (by decide)) (by decide) (j := 28) (hl.r (k := 27) (f := 1) (by decide) (by decide)) ?_
  refine Z.iconst B dX1_takeOver_9 (v := nI 0) rfl ?_
  refine Z.aload_n B dX1_takeOver_10 (v := .ref 27) rfl rfl ?_
  refine Z.getR (σ := σ) B fX1_15_1 dX1_takeOver_11 (hl.n (k := 27) (by decide)) (hl.k (k := 27) (by decide)) (by decide) (j := 28) (hl.r (k := 27) (f := 1) (by decide) (by decide)) ?_
  refine Z.alen (σ := σ) B dX1_takeOver_14 (hl.n (k := 28) (by decide)) (t := 0) (hl.k (k := 28) (by decide)) (by decide) (n := 48) (hl.l (k := 28) (by decide)) (v := nI 48) rfl ?_
  refine Z.copyI (σ := σ) B (k := 21) (k2 := 28) (sp := 0) (dp := 0) (n := 48) (n1 := 48) (n2 := 48) dX1_takeOver_15 kX1_50 (by decide) (Nat.le_of_ble_eq_true rfl) (hl.n (k := 21) (by decide)) (hl.k (k := 21) (by decide)) (hl.l (k := 21) (by decide)) (hl.n (k := 28) (by decide)) (hl.k (k := 28) (by decide)) (hl.l (k := 28) (by decide)) (by omega) (by omega) (by decide) (by decide) (τ := (zuX σ 28 (zX σ 21))) (by rw [cpy_fi h1]) ?_
  refine Z.aload_n B dX1_takeOver_18 (v := .ref 20) rfl rfl ?_
  refine Z.getR (σ := (zuX σ 28 (zX σ 21))) B fX1_19_1 dX1_takeOver_19 (hl.n (k := 20) (by decide)) (hl.k (k := 20) (by decide)) (by decide) (j := 22) (hl.r (k := 20) (f := 3) (by decide) (by decide)) ?_
  refine Z.iconst B dX1_takeOver_22 (v := nI 0) rfl ?_
  refine Z.aload_n B dX1_takeOver_23 (v := .ref 27) rfl rfl ?_
  refine Z.getR (σ := (zuX σ 28 (zX σ 21))) B fX1_19_1 dX1_takeOver_24 (hl.n (k := 27) (by decide)) (hl.k (k := 27) (by decide)) (by decide) (j := 29) (hl.r (k := 27) (f := 3) (by decide) (by decide)) ?_
  refine Z.iconst B dX1_takeOver_27 (v := nI 0) rfl ?_
  refine Z.aload_n B dX1_takeOver_28 (v := .ref 27) rfl rfl ?_
  refine Z.getR (σ := (zuX σ 28 (zX σ 21))) B fX1_19_1 dX1_takeOver_29 (hl.n (k := 27) (by decide)) (hl.k (k := 27) (by decide)) (by decide) (j := 29) (hl.r (k := 27) (f := 3) (by decide) (by decide)) ?_
  refine Z.alen (σ := (zuX σ 28 (zX σ 21))) B dX1_takeOver_32 (hl.n (k := 29) (by decide)) (t := 0) (hl.k (k := 29) (by decide)) (by decide) (n := 12) (hl.l (k := 29) (by decide)) (v := nI 12) rfl ?_
  refine Z.copyI (σ := (zuX σ 28 (zX σ 21))) B (k := 22) (k2 := 29) (sp := 0) (dp := 0) (n := 12) (n1 := 12) (n2 := 12) dX1_takeOver_33 kX1_50 (by decide) (Nat.le_of_ble_eq_true rfl) (hl.n (k := 22) (by decide)) (hl.k (k := 22) (by decide)) (hl.l (k := 22) (by decide)) (hl.n (k := 29) (by decide)) (hl.k (k := 29) (by decide)) (hl.l (k := 29) (by decide)) (by omega) (by omega) (by decide) (by decide) (τ := (zuX (zuX σ 28 (zX σ 21)) 29 (zX σ 22))) (congrArg (zuX _ _) (cpy_fi h2)) ?_
  refine Z.aload_n B dX1_takeOver_36 (v := .ref 20) rfl rfl ?_
  refine Z.getR (σ := (zuX (zuX σ 28 (zX σ 21)) 29 (zX σ 22))) B fX1_22_1 dX1_takeOver_37 (hl.n (k := 20) (by decide)) (hl.k (k := 20) (by decide)) (by decide) (j := 23) (hl.r (k := 20) (f := 4) (by decide) (by decide)) ?_
  refine Z.iconst B dX1_takeOver_40 (v := nI 0) rfl ?_
  refine Z.aload_n B dX1_takeOver_41 (v := .ref 27) rfl rfl ?_
  refine Z.getR (σ := (zuX (zuX σ 28 (zX σ 21)) 29 (zX σ 22))) B fX1_22_1 dX1_takeOver_42 (hl.n (k := 27) (by decide)) (hl.k (k := 27) (by decide)) (by decide) (j := 30) (hl.r (k := 27) (f := 4) (by decide) (by decide)) ?_
  refine Z.iconst B dX1_takeOver_45 (v := nI 0) rfl ?_
  refine Z.aload_n B dX1_takeOver_46 (v := .ref 27) rfl rfl ?_
  refine Z.getR (σ := (zuX (zuX σ 28 (zX σ 21)) 29 (zX σ 22))) B fX1_22_1 dX1_takeOver_47 (hl.n (k := 27) (by decide)) (hl.k (k := 27) (by decide)) (by decide) (j := 30) (hl.r (k := 27) (f := 4) (by decide) (by decide)) ?_
  refine Z.alen (σ := (zuX (zuX σ 28 (zX σ 21)) 29 (zX σ 22))) B dX1_takeOver_50 (hl.n (k := 30) (by decide)) (t := 0) (hl.k (k := 30) (by decide)) (by decide) (n := 4) (hl.l (k := 30) (by decide)) (v := nI 4) rfl ?_
  refine Z.copyI (σ := (zuX (zuX σ 28 (zX σ 21)) 29 (zX σ 22))) B (k := 23) (k2 := 30) (sp := 0) (dp := 0) (n := 4) (n1 := 4) (n2 := 4) dX1_takeOver_51 kX1_50 (by decide) (Nat.le_of_ble_eq_true rfl) (hl.n (k := 23) (by decide)) (hl.k (k := 23) (by decide)) (hl.l (k := 23) (by decide)) (hl.n (k := 30) (by decide)) (hl.k (k := 30) (by decide)) (hl.l (k := 30) (by decide)) (by omega) (by omega) (by decide) (by decide) (τ := (zuX (zuX (zuX σ 28 (zX σ 21)) 29 (zX σ 22)) 30 (zX σ 23))) (congrArg (zuX _ _) (cpy_fi h3)) ?_
  refine Z.iconst B dX1_takeOver_54 (v := nI 0) rfl ?_
  refine Z.istore_n B dX1_takeOver_55 (by decide) (L' := [(0, .ref 27), (1, .ref 20), (2, .int (nI 0))]) rfl ?_
  have hloop56 : ∀ i : Nat, i ≤ 8 → Z κ 0 0 (zuR (zuX (zuX (zuX σ 28 (zX σ 21)) 29 (zX σ 22)) 30 (zX σ 23)) 31 (fiR i (zR σ 24) (zR σ 31))) 56 [(0, .ref 27), (1, .ref 20), (2, .int (nI i))] [] := by
    refine z_loop (fun i => 8 - i) (fun i ih hi => ?_)
    refine Z.iload_n B dX1_takeOver_56 (x := nI i) rfl ?_
    refine Z.aload_n B dX1_takeOver_57 (v := .ref 27) rfl rfl ?_
    refine Z.getR (σ := (zuR (zuX (zuX (zuX σ 28 (zX σ 21)) 29 (zX σ 22)) 30 (zX σ 23)) 31 (fiR i (zR σ 24) (zR σ 31)))) B fX1_27_1 dX1_takeOver_58 (hl.n (k := 27) (by decide)) (hl.k (k := 27) (by decide)) (by decide) (j := 31) (hl.r (k := 27) (f := 6) (by decide) (by decide)) ?_
    refine Z.alen (σ := (zuR (zuX (zuX (zuX σ 28 (zX σ 21)) 29 (zX σ 22)) 30 (zX σ 23)) 31 (fiR i (zR σ 24) (zR σ 31)))) B dX1_takeOver_61 (hl.n (k := 31) (by decide)) (t := 3) (hl.k (k := 31) (by decide)) (by decide) (n := 8) (hl.l (k := 31) (by decide)) (v := nI 8) rfl ?_
    refine Z.icmp_geN B dX1_takeOver_62 (tgt := 83) rfl (by omega) (by omega) (fun h62 => ?_) (fun h62 => ?_)
    · skip
      obtain rfl : 8 = i := by omega
      rw [fiR_8 h4]
      refine Z.aload_n B dX1_takeOver_83 (v := .ref 27) rfl rfl ?_
      refine Z.aload_n B dX1_takeOver_84 (v := .ref 20) rfl rfl ?_
      refine Z.getI (σ := (zuR (zuX (zuX (zuX σ 28 (zX σ 21)) 29 (zX σ 22)) 30 (zX σ 23)) 31 (zR σ 24))) B fX1_37_1 dX1_takeOver_85 (hl.n (k := 20) (by decide)) (hl.k (k := 20) (by decide)) (by decide) (v := (zX σ 20 2)) rfl ?_
      refine Z.putI (σ := (zuR (zuX (zuX (zuX σ 28 (zX σ 21)) 29 (zX σ 22)) 30 (zX σ 23)) 31 (zR σ 24))) B fX1_37_1 (ty := .int) ⟨_, _, _, rfl, rfl, by decide +kernel⟩ dX1_takeOver_88 (hl.n (k := 27) (by decide)) (hl.k (k := 27) (by decide)) (by decide) rfl rfl (τ := (zuX (zuR (zuX (zuX (zuX σ 28 (zX σ 21)) 29 (zX σ 22)) 30 (zX σ 23)) 31 (zR σ 24)) 27 (upd (zX σ 27) 2 (zX σ 20 2)))) rfl ?_
      refine Z.aload_n B dX1_takeOver_91 (v := .ref 27) rfl rfl ?_
      refine Z.aload_n B dX1_takeOver_92 (v := .ref 20) rfl rfl ?_
      refine Z.getI (σ := (zuX (zuR (zuX (zuX (zuX σ 28 (zX σ 21)) 29 (zX σ 22)) 30 (zX σ 23)) 31 (zR σ 24)) 27 (upd (zX σ 27) 2 (zX σ 20 2)))) B fX1_41_1 dX1_takeOver_93 (hl.n (k := 20) (by decide)) (hl.k (k := 20) (by decide)) (by decide) (v := (zX σ 20 5)) rfl ?_
      refine Z.putI (σ := (zuX (zuR (zuX (zuX (zuX σ 28 (zX σ 21)) 29 (zX σ 22)) 30 (zX σ 23)) 31 (zR σ 24)) 27 (upd (zX σ 27) 2 (zX σ 20 2)))) B fX1_41_1 (ty := .int) ⟨_, _, _, rfl, rfl, by decide +kernel⟩ dX1_takeOver_96 (hl.n (k := 27) (by decide)) (hl.k (k := 27) (by decide)) (by decide) rfl rfl (τ := (zuX (zuR (zuX (zuX (zuX σ 28 (zX σ 21)) 29 (zX σ 22)) 30 (zX σ 23)) 31 (zR σ 24)) 27 (upd (upd (zX σ 27) 2 (zX σ 20 2)) 5 (zX σ 20 5)))) (by simp only [zX_self, zuX_uX]) ?_
      refine Z.aload_n B dX1_takeOver_99 (v := .ref 27) rfl rfl ?_
      refine Z.aload_n B dX1_takeOver_100 (v := .ref 20) rfl rfl ?_
      refine Z.getI (σ := (zuX (zuR (zuX (zuX (zuX σ 28 (zX σ 21)) 29 (zX σ 22)) 30 (zX σ 23)) 31 (zR σ 24)) 27 (upd (upd (zX σ 27) 2 (zX σ 20 2)) 5 (zX σ 20 5)))) B fX1_44_1 dX1_takeOver_101 (hl.n (k := 20) (by decide)) (hl.k (k := 20) (by decide)) (by decide) (v := (zX σ 20 7)) rfl ?_
      refine Z.putI (σ := (zuX (zuR (zuX (zuX (zuX σ 28 (zX σ 21)) 29 (zX σ 22)) 30 (zX σ 23)) 31 (zR σ 24)) 27 (upd (upd (zX σ 27) 2 (zX σ 20 2)) 5 (zX σ 20 5)))) B fX1_44_1 (ty := .int) ⟨_, _, _, rfl, rfl, by decide +kernel⟩ dX1_takeOver_104 (hl.n (k := 27) (by decide)) (hl.k (k := 27) (by decide)) (by decide) rfl rfl (τ := (zuX (zuR (zuX (zuX (zuX σ 28 (zX σ 21)) 29 (zX σ 22)) 30 (zX σ 23)) 31 (zR σ 24)) 27 (upd (upd (upd (zX σ 27) 2 (zX σ 20 2)) 5 (zX σ 20 5)) 7 (zX σ 20 7)))) (by simp only [zX_self, zuX_uX]) ?_
      refine Z.aload_n B dX1_takeOver_107 (v := .ref 27) rfl rfl ?_
      refine Z.aload_n B dX1_takeOver_108 (v := .ref 20) rfl rfl ?_
      refine Z.getI (σ := (zuX (zuR (zuX (zuX (zuX σ 28 (zX σ 21)) 29 (zX σ 22)) 30 (zX σ 23)) 31 (zR σ 24)) 27 (upd (upd (upd (zX σ 27) 2 (zX σ 20 2)) 5 (zX σ 20 5)) 7 (zX σ 20 7)))) B fX1_47_1 dX1_takeOver_109 (hl.n (k := 20) (by decide)) (hl.k (k := 20) (by decide)) (by decide) (v := (zX σ 20 8)) rfl ?_
      refine Z.putI (σ := (zuX (zuR (zuX (zuX (zuX σ 28 (zX σ 21)) 29 (zX σ 22)) 30 (zX σ 23)) 31 (zR σ 24)) 27 (upd (upd (upd (zX σ 27) 2 (zX σ 20 2)) 5 (zX σ 20 5)) 7 (zX σ 20 7)))) B fX1_47_1 (ty := .int) ⟨_, _, _, rfl, rfl, by decide +kernel⟩ dX1_takeOver_112 (hl.n (k := 27) (by decide)) (hl.k (k := 27) (by decide)) (by decide) rfl rfl (τ := (zuX (zuR (zuX (zuX (zuX σ 28 (zX σ 21)) 29 (zX σ 22)) 30 (zX σ 23)) 31 (zR σ 24)) 27 (upd (upd (upd (upd (zX σ 27) 2 (zX σ 20 2)) 5 (zX σ 20 5)) 7 (zX σ 20 7)) 8 (zX σ 20 8)))) (by simp only [zX_self, zuX_uX]) ?_
      refine Z.vret B Rt dX1_takeOver_115 rfl (by decide) (by decide) ?_
      exact ⟨rfl, rfl⟩
    · skip
      refine Z.aload_n B dX1_takeOver_65 (v := .ref 27) rfl rfl ?_
      refine Z.getR (σ := (zuR (zuX (zuX (zuX σ 28 (zX σ 21)) 29 (zX σ 22)) 30 (zX σ 23)) 31 (fiR i (zR σ 24) (zR σ 31)))) B fX1_27_1 dX1_takeOver_66 (hl.n (k := 27) (by decide)) (hl.k (k := 27) (by decide)) (by decide) (j := 31) (hl.r (k := 27) (f := 6) (by decide) (by decide)) ?_
      refine Z.iload_n B dX1_takeOver_69 (x := nI i) rfl ?_
      refine Z.aload_n B dX1_takeOver_70 (v := .ref 20) rfl rfl ?_
      refine Z.getR (σ := (zuR (zuX (zuX (zuX σ 28 (zX σ 21)) 29 (zX σ 22)) 30 (zX σ 23)) 31 (fiR i (zR σ 24) (zR σ 31)))) B fX1_27_1 dX1_takeOver_71 (hl.n (k := 20) (by decide)) (hl.k (k := 20) (by decide)) (by decide) (j := 24) (hl.r (k := 20) (f := 6) (by decide) (by decide)) ?_
      refine Z.iload_n B dX1_takeOver_74 (x := nI i) rfl ?_
      rcases hq : zR σ 24 i with _ | q
      · skip
        refine Z.aldYN (σ := (zuR (zuX (zuX (zuX σ 28 (zX σ 21)) 29 (zX σ 22)) 30 (zX σ 23)) 31 (fiR i (zR σ 24) (zR σ 31)))) B dX1_takeOver_75 (n := 8) (hl.n (k := 24) (by decide)) (hl.k (k := 24) (by decide)) (hl.l (k := 24) (by decide)) (by decide) (j := i) rfl (by omega) hq ?_
        refine Z.astN (σ := (zuR (zuX (zuX (zuX σ 28 (zX σ 21)) 29 (zX σ 22)) 30 (zX σ 23)) 31 (fiR i (zR σ 24) (zR σ 31)))) B (n := 8) dX1_takeOver_76 (hl.n (k := 31) (by decide)) (hl.k (k := 31) (by decide)) (hl.l (k := 31) (by decide)) (by decide) (j := i) rfl (by omega) (τ := (zuR (zuX (zuX (zuX σ 28 (zX σ 21)) 29 (zX σ 22)) 30 (zX σ 23)) 31 (fiR (i + 1) (zR σ 24) (zR σ 31)))) (by rw [zR_self, zuR_uR, fiR_s hq]) ?_
        refine Z.iincN B dX1_takeOver_77 (by decide) (a := i) rfl (L' := [(0, .ref 27), (1, .ref 20), (2, .int (nI (i + 1)))]) rfl ?_
        refine Z.goto B dX1_takeOver_80 (tgt := 56) rfl ?_
        exact ih (i + 1) (by omega) (by omega)
      · skip
        refine Z.aldY (σ := (zuR (zuX (zuX (zuX σ 28 (zX σ 21)) 29 (zX σ 22)) 30 (zX σ 23)) 31 (fiR i (zR σ 24) (zR σ 31)))) B dX1_takeOver_75 (n := 8) (hl.n (k := 24) (by decide)) (hl.k (k := 24) (by decide)) (hl.l (k := 24) (by decide)) (by decide) (j := i) rfl (by omega) (q := q) hq ?_
        refine Z.astY (σ := (zuR (zuX (zuX (zuX σ 28 (zX σ 21)) 29 (zX σ 22)) 30 (zX σ 23)) 31 (fiR i (zR σ 24) (zR σ 31)))) B (n := 8) (q := q) dX1_takeOver_76 (hl.n (k := 31) (by decide)) (hl.k (k := 31) (by decide)) (hl.l (k := 31) (by decide)) (by decide) (j := i) rfl (by omega) (hW i (by omega) q hq).2.1 rfl (hW i (by omega) q hq).2.2 (τ := (zuR (zuX (zuX (zuX σ 28 (zX σ 21)) 29 (zX σ 22)) 30 (zX σ 23)) 31 (fiR (i + 1) (zR σ 24) (zR σ 31)))) (by rw [zR_self, zuR_uR, fiR_s hq]) ?_
        refine Z.iincN B dX1_takeOver_77 (by decide) (a := i) rfl (L' := [(0, .ref 27), (1, .ref 20), (2, .int (nI (i + 1)))]) rfl ?_
        refine Z.goto B dX1_takeOver_80 (tgt := 56) rfl ?_
        exact ih (i + 1) (by omega) (by omega)
  have h0 := hloop56 0 (Nat.zero_le _)
  rw [fiR_0] at h0
  refine Z.eqσ ?_ h0
  exact (zuR_id (σ := (zuX (zuX (zuX σ 28 (zX σ 21)) 29 (zX σ 22)) 30 (zX σ 23)))).symm

theorem t_X1_takeOver_20_27 {σ : zSt} (hl : Lay σ) (h1 : ∀ k, 48 ≤ k → zX σ 21 k = zX σ 28 k) (h2 : ∀ k, 12 ≤ k → zX σ 22 k = zX σ 29 k) (h3 : ∀ k, 4 ≤ k → zX σ 23 k = zX σ 30 k) (h4 : ∀ k, 8 ≤ k → zR σ 24 k = zR σ 31 k) (hW : ∀ k, k < 8 → ∀ q, zR σ 31 k = some q → 66 ≤ q ∧ q < zN σ ∧ zIsW (zK σ q)) : Dt mX1_takeOver [.ref 20, .ref 27] σ (none) (zuX (zuR (zuX (zuX (zuX σ 21 (zX σ 28)) 22 (zX σ 29)) 23 (zX σ 30)) 24 (zR σ 31)) 20 (upd (upd (upd (upd (zX σ 20) 2 (zX σ 27 2)) 5 (zX σ 27 5)) 7 (zX σ 27 7)) 8 (zX σ 27 8))) := by
  refine Dt.of (by decide) (Nat.le_of_ble_eq_true rfl) fun κ B Rt => ?_
  show Z κ 0 0 σ 0 [(0, .ref 20), (1, .ref 27)] []
  refine Z.aload_n B dX1_takeOver_0 (v := .ref 27) rfl rfl ?_
  refine Z.getR (σ := σ) B fX1_15_1 dX1_takeOver_1 (hl.n (k := 27) (by decide)) (hl.k (k := 27) (by decide)) (by decide) (j := 28) (hl.r (k := 27) (f := 1) (by decide) (by decide)) ?_
  refine Z.iconst B dX1_takeOver_4 (v := nI 0) rfl ?_
  refine Z.aload_n B dX1_takeOver_5 (v := .ref 20) rfl rfl ?_
  refine Z.getR (σ := σ) B fX1_15_1 dX1_takeOver_6 (hl.n (k := 20) (by decide)) (hl.k (k := 20) (by decide)) (by decide) (j := 21) (hl.r (k := 20) (f := 1) (by decide) (by decide)) ?_
  refine Z.iconst B dX1_takeOver_9 (v := nI 0) rfl ?_
  refine Z.aload_n B dX1_takeOver_10 (v := .ref 20) rfl rfl ?_
  refine Z.getR (σ := σ) B fX1_15_1 dX1_takeOver_11 (hl.n (k := 20) (by decide)) (hl.k (k := 20) (by decide)) (by decide) (j := 21) (hl.r (k := 20) (f := 1) (by decide) (by decide)) ?_
  refine Z.alen (σ := σ) B dX1_takeOver_14 (hl.n (k := 21) (by decide)) (t := 0) (hl.k (k := 21) (by decide)) (by decide) (n := 48) (hl.l (k := 21) (by decide)) (v := nI 48) rfl ?_
  refine Z.copyI (σ := σ) B (k := 28) (k2 := 21) (sp := 0) (dp := 0) (n := 48) (n1 := 48) (n2 := 48) dX1_takeOver_15 kX1_50 (by decide) (Nat.le_of_ble_eq_true rfl) (hl.n (k := 28) (by decide)) (hl.k (k := 28) (by decide)) (hl.l (k := 28) (by decide)) (hl.n (k := 21) (by decide)) (hl.k (k := 21) (by decide)) (hl.l (k := 21) (by decide)) (by omega) (by omega) (by decide) (by decide) (τ := (zuX σ 21 (zX σ 28))) (by rw [cpy_fi h1]) ?_
  refine Z.aload_n B dX1_takeOver_18 (v := .ref 27) rfl rfl ?_
  refine Z.getR (σ := (zuX σ 21 (zX σ 28))) B fX1_19_1 dX1_takeOver_19 (hl.n (k := 27) (by decide)) (hl.k (k := 27) (by decide)) (by decide) (j := 29) (hl.r (k := 27) (f := 3) (by decide) (by decide)) ?_
  refine Z.iconst B dX1_takeOver_22 (v := nI 0) rfl ?_
  refine Z.aload_n B dX1_takeOver_23 (v := .ref 20) rfl rfl ?_
  refine Z.getR (σ := (zuX σ 21 (zX σ 28))) B fX1_19_1 dX1_takeOver_24 (hl.n (k := 20) (by decide)) (hl.k (k := 20) (by decide)) (by decide) (j := 22) (hl.r (k := 20) (f := 3) (by decide) (by decide)) ?_
  refine Z.iconst B dX1_takeOver_27 (v := nI 0) rfl ?_
  refine Z.aload_n B dX1_takeOver_28 (v := .ref 20) rfl rfl ?_
  refine Z.getR (σ := (zuX σ 21 (zX σ 28))) B fX1_19_1 dX1_takeOver_29 (hl.n (k := 20) (by decide)) (hl.k (k := 20) (by decide)) (by decide) (j := 22) (hl.r (k := 20) (f := 3) (by decide) (by decide)) ?_
  refine Z.alen (σ := (zuX σ 21 (zX σ 28))) B dX1_takeOver_32 (hl.n (k := 22) (by decide)) (t := 0) (hl.k (k := 22) (by decide)) (by decide) (n := 12) (hl.l (k := 22) (by decide)) (v := nI 12) rfl ?_
  refine Z.copyI (σ := (zuX σ 21 (zX σ 28))) B (k := 29) (k2 := 22) (sp := 0) (dp := 0) (n := 12) (n1 := 12) (n2 := 12) dX1_takeOver_33 kX1_50 (by decide) (Nat.le_of_ble_eq_true rfl) (hl.n (k := 29) (by decide)) (hl.k (k := 29) (by decide)) (hl.l (k := 29) (by decide)) (hl.n (k := 22) (by decide)) (hl.k (k := 22) (by decide)) (hl.l (k := 22) (by decide)) (by omega) (by omega) (by decide) (by decide) (τ := (zuX (zuX σ 21 (zX σ 28)) 22 (zX σ 29))) (congrArg (zuX _ _) (cpy_fi h2)) ?_
  refine Z.aload_n B dX1_takeOver_36 (v := .ref 27) rfl rfl ?_
  refine Z.getR (σ := (zuX (zuX σ 21 (zX σ 28)) 22 (zX σ 29))) B fX1_22_1 dX1_takeOver_37 (hl.n (k := 27) (by decide)) (hl.k (k := 27) (by decide)) (by decide) (j := 30) (hl.r (k := 27) (f := 4) (by decide) (by decide)) ?_
  refine Z.iconst B dX1_takeOver_40 (v := nI 0) rfl ?_
  refine Z.aload_n B dX1_takeOver_41 (v := .ref 20) rfl rfl ?_
  refine Z.getR (σ := (zuX (zuX σ 21 (zX σ 28)) 22 (zX σ 29))) B fX1_22_1 dX1_takeOver_42 (hl.n (k := 20) (by decide)) (hl.k (k := 20) (by decide)) (by decide) (j := 23) (hl.r (k := 20) (f := 4) (by decide) (by decide)) ?_
  refine Z.iconst B dX1_takeOver_45 (v := nI 0) rfl ?_
  refine Z.aload_n B dX1_takeOver_46 (v := .ref 20) rfl rfl ?_
  refine Z.getR (σ := (zuX (zuX σ 21 (zX σ 28)) 22 (zX σ 29))) B fX1_22_1 dX1_takeOver_47 (hl.n (k := 20) (by decide)) (hl.k (k := 20) (by decide)) (by decide) (j := 23) (hl.r (k := 20) (f := 4) (by decide) (by decide)) ?_
  refine Z.alen (σ := (zuX (zuX σ 21 (zX σ 28)) 22 (zX σ 29))) B dX1_takeOver_50 (hl.n (k := 23) (by decide)) (t := 0) (hl.k (k := 23) (by decide)) (by decide) (n := 4) (hl.l (k := 23) (by decide)) (v := nI 4) rfl ?_
  refine Z.copyI (σ := (zuX (zuX σ 21 (zX σ 28)) 22 (zX σ 29))) B (k := 30) (k2 := 23) (sp := 0) (dp := 0) (n := 4) (n1 := 4) (n2 := 4) dX1_takeOver_51 kX1_50 (by decide) (Nat.le_of_ble_eq_true rfl) (hl.n (k := 30) (by decide)) (hl.k (k := 30) (by decide)) (hl.l (k := 30) (by decide)) (hl.n (k := 23) (by decide)) (hl.k (k := 23) (by decide)) (hl.l (k := 23) (by decide)) (by omega) (by omega) (by decide) (by decide) (τ := (zuX (zuX (zuX σ 21 (zX σ 28)) 22 (zX σ 29)) 23 (zX σ 30))) (congrArg (zuX _ _) (cpy_fi h3)) ?_
  refine Z.iconst B dX1_takeOver_54 (v := nI 0) rfl ?_
  refine Z.istore_n B dX1_takeOver_55 (by decide) (L' := [(0, .ref 20), (1, .ref 27), (2, .int (nI 0))]) rfl ?_
  have hloop56 : ∀ i : Nat, i ≤ 8 → Z κ 0 0 (zuR (zuX (zuX (zuX σ 21 (zX σ 28)) 22 (zX σ 29)) 23 (zX σ 30)) 24 (fiR i (zR σ 31) (zR σ 24))) 56 [(0, .ref 20), (1, .ref 27), (2, .int (nI i))] [] := by
    refine z_loop (fun i => 8 - i) (fun i ih hi => ?_)
    refine Z.iload_n B dX1_takeOver_56 (x := nI i) rfl ?_
    refine Z.aload_n B dX1_takeOver_57 (v := .ref 20) rfl rfl ?_
    refine Z.getR (σ := (zuR (zuX (zuX (zuX σ 21 (zX σ 28)) 22 (zX σ 29)) 23 (zX σ 30)) 24 (fiR i (zR σ 31) (zR σ 24)))) B fX1_27_1 dX1_takeOver_58 (hl.n (k := 20) (by decide)) (hl.k (k := 20) (by decide)) (by decide) (j := 24) (hl.r (k := 20) (f := 6) (by decide) (by decide)) ?_
    refine Z.alen (σ := (zuR (zuX (zuX (zuX σ 21 (zX σ 28)) 22 (zX σ 29)) 23 (zX σ 30)) 24 (fiR i (zR σ 31) (zR σ 24)))) B dX1_takeOver_61 (hl.n (k := 24) (by decide)) (t := 3) (hl.k (k := 24) (by decide)) (by decide) (n := 8) (hl.l (k := 24) (by decide)) (v := nI 8) rfl ?_
    refine Z.icmp_geN B dX1_takeOver_62 (tgt := 83) rfl (by omega) (by omega) (fun h62 => ?_) (fun h62 => ?_)
    · skip
      obtain rfl : 8 = i := by omega
      rw [fiR_8 h4]
      refine Z.aload_n B dX1_takeOver_83 (v := .ref 20) rfl rfl ?_
      refine Z.aload_n B dX1_takeOver_84 (v := .ref 27) rfl rfl ?_
      refine Z.getI (σ := (zuR (zuX (zuX (zuX σ 21 (zX σ 28)) 22 (zX σ 29)) 23 (zX σ 30)) 24 (zR σ 31))) B fX1_37_1 dX1_takeOver_85 (hl.n (k := 27) (by decide)) (hl.k (k := 27) (by decide)) (by decide) (v := (zX σ 27 2)) rfl ?_
      refine Z.putI (σ := (zuR (zuX (zuX (zuX σ 21 (zX σ 28)) 22 (zX σ 29)) 23 (zX σ 30)) 24 (zR σ 31))) B fX1_37_1 (ty := .int) ⟨_, _, _, rfl, rfl, by decide +kernel⟩ dX1_takeOver_88 (hl.n (k := 20) (by decide)) (hl.k (k := 20) (by decide)) (by decide) rfl rfl (τ := (zuX (zuR (zuX (zuX (zuX σ 21 (zX σ 28)) 22 (zX σ 29)) 23 (zX σ 30)) 24 (zR σ 31)) 20 (upd (zX σ 20) 2 (zX σ 27 2)))) rfl ?_
      refine Z.aload_n B dX1_takeOver_91 (v := .ref 20) rfl rfl ?_
      refine Z.aload_n B dX1_takeOver_92 (v := .ref 27) rfl rfl ?_
      refine Z.getI (σ := (zuX (zuR (zuX (zuX (zuX σ 21 (zX σ 28)) 22 (zX σ 29)) 23 (zX σ 30)) 24 (zR σ 31)) 20 (upd (zX σ 20) 2 (zX σ 27 2)))) B fX1_41_1 dX1_takeOver_93 (hl.n (k := 27) (by decide)) (hl.k (k := 27) (by decide)) (by decide) (v := (zX σ 27 5)) rfl ?_
      refine Z.putI (σ := (zuX (zuR (zuX (zuX (zuX σ 21 (zX σ 28)) 22 (zX σ 29)) 23 (zX σ 30)) 24 (zR σ 31)) 20 (upd (zX σ 20) 2 (zX σ 27 2)))) B fX1_41_1 (ty := .int) ⟨_, _, _, rfl, rfl, by decide +kernel⟩ dX1_takeOver_96 (hl.n (k := 20) (by decide)) (hl.k (k := 20) (by decide)) (by decide) rfl rfl (τ := (zuX (zuR (zuX (zuX (zuX σ 21 (zX σ 28)) 22 (zX σ 29)) 23 (zX σ 30)) 24 (zR σ 31)) 20 (upd (upd (zX σ 20) 2 (zX σ 27 2)) 5 (zX σ 27 5)))) (by simp only [zX_self, zuX_uX]) ?_
      refine Z.aload_n B dX1_takeOver_99 (v := .ref 20) rfl rfl ?_
      refine Z.aload_n B dX1_takeOver_100 (v := .ref 27) rfl rfl ?_
      refine Z.getI (σ := (zuX (zuR (zuX (zuX (zuX σ 21 (zX σ 28)) 22 (zX σ 29)) 23 (zX σ 30)) 24 (zR σ 31)) 20 (upd (upd (zX σ 20) 2 (zX σ 27 2)) 5 (zX σ 27 5)))) B fX1_44_1 dX1_takeOver_101 (hl.n (k := 27) (by decide)) (hl.k (k := 27) (by decide)) (by decide) (v := (zX σ 27 7)) rfl ?_
      refine Z.putI (σ := (zuX (zuR (zuX (zuX (zuX σ 21 (zX σ 28)) 22 (zX σ 29)) 23 (zX σ 30)) 24 (zR σ 31)) 20 (upd (upd (zX σ 20) 2 (zX σ 27 2)) 5 (zX σ 27 5)))) B fX1_44_1 (ty := .int) ⟨_, _, _, rfl, rfl, by decide +kernel⟩ dX1_takeOver_104 (hl.n (k := 20) (by decide)) (hl.k (k := 20) (by decide)) (by decide) rfl rfl (τ := (zuX (zuR (zuX (zuX (zuX σ 21 (zX σ 28)) 22 (zX σ 29)) 23 (zX σ 30)) 24 (zR σ 31)) 20 (upd (upd (upd (zX σ 20) 2 (zX σ 27 2)) 5 (zX σ 27 5)) 7 (zX σ 27 7)))) (by simp only [zX_self, zuX_uX]) ?_
      refine Z.aload_n B dX1_takeOver_107 (v := .ref 20) rfl rfl ?_
      refine Z.aload_n B dX1_takeOver_108 (v := .ref 27) rfl rfl ?_
      refine Z.getI (σ := (zuX (zuR (zuX (zuX (zuX σ 21 (zX σ 28)) 22 (zX σ 29)) 23 (zX σ 30)) 24 (zR σ 31)) 20 (upd (upd (upd (zX σ 20) 2 (zX σ 27 2)) 5 (zX σ 27 5)) 7 (zX σ 27 7)))) B fX1_47_1 dX1_takeOver_109 (hl.n (k := 27) (by decide)) (hl.k (k := 27) (by decide)) (by decide) (v := (zX σ 27 8)) rfl ?_
      refine Z.putI (σ := (zuX (zuR (zuX (zuX (zuX σ 21 (zX σ 28)) 22 (zX σ 29)) 23 (zX σ 30)) 24 (zR σ 31)) 20 (upd (upd (upd (zX σ 20) 2 (zX σ 27 2)) 5 (zX σ 27 5)) 7 (zX σ 27 7)))) B fX1_47_1 (ty := .int) ⟨_, _, _, rfl, rfl, by decide +kernel⟩ dX1_takeOver_112 (hl.n (k := 20) (by decide)) (hl.k (k := 20) (by decide)) (by decide) rfl rfl (τ := (zuX (zuR (zuX (zuX (zuX σ 21 (zX σ 28)) 22 (zX σ 29)) 23 (zX σ 30)) 24 (zR σ 31)) 20 (upd (upd (upd (upd (zX σ 20) 2 (zX σ 27 2)) 5 (zX σ 27 5)) 7 (zX σ 27 7)) 8 (zX σ 27 8)))) (by simp only [zX_self, zuX_uX]) ?_
      refine Z.vret B Rt dX1_takeOver_115 rfl (by decide) (by decide) ?_
      exact ⟨rfl, rfl⟩
    · skip
      refine Z.aload_n B dX1_takeOver_65 (v := .ref 20) rfl rfl ?_
      refine Z.getR (σ := (zuR (zuX (zuX (zuX σ 21 (zX σ 28)) 22 (zX σ 29)) 23 (zX σ 30)) 24 (fiR i (zR σ 31) (zR σ 24)))) B fX1_27_1 dX1_takeOver_66 (hl.n (k := 20) (by decide)) (hl.k (k := 20) (by decide)) (by decide) (j := 24) (hl.r (k := 20) (f := 6) (by decide) (by decide)) ?_
      refine Z.iload_n B dX1_takeOver_69 (x := nI i) rfl ?_
      refine Z.aload_n B dX1_takeOver_70 (v := .ref 27) rfl rfl ?_
      refine Z.getR (σ := (zuR (zuX (zuX (zuX σ 21 (zX σ 28)) 22 (zX σ 29)) 23 (zX σ 30)) 24 (fiR i (zR σ 31) (zR σ 24)))) B fX1_27_1 dX1_takeOver_71 (hl.n (k := 27) (by decide)) (hl.k (k := 27) (by decide)) (by decide) (j := 31) (hl.r (k := 27) (f := 6) (by decide) (by decide)) ?_
      refine Z.iload_n B dX1_takeOver_74 (x := nI i) rfl ?_
      rcases hq : zR σ 31 i with _ | q
      · skip
        refine Z.aldYN (σ := (zuR (zuX (zuX (zuX σ 21 (zX σ 28)) 22 (zX σ 29)) 23 (zX σ 30)) 24 (fiR i (zR σ 31) (zR σ 24)))) B dX1_takeOver_75 (n := 8) (hl.n (k := 31) (by decide)) (hl.k (k := 31) (by decide)) (hl.l (k := 31) (by decide)) (by decide) (j := i) rfl (by omega) hq ?_
        refine Z.astN (σ := (zuR (zuX (zuX (zuX σ 21 (zX σ 28)) 22 (zX σ 29)) 23 (zX σ 30)) 24 (fiR i (zR σ 31) (zR σ 24)))) B (n := 8) dX1_takeOver_76 (hl.n (k := 24) (by decide)) (hl.k (k := 24) (by decide)) (hl.l (k := 24) (by decide)) (by decide) (j := i) rfl (by omega) (τ := (zuR (zuX (zuX (zuX σ 21 (zX σ 28)) 22 (zX σ 29)) 23 (zX σ 30)) 24 (fiR (i + 1) (zR σ 31) (zR σ 24)))) (by rw [zR_self, zuR_uR, fiR_s hq]) ?_
        refine Z.iincN B dX1_takeOver_77 (by decide) (a := i) rfl (L' := [(0, .ref 20), (1, .ref 27), (2, .int (nI (i + 1)))]) rfl ?_
        refine Z.goto B dX1_takeOver_80 (tgt := 56) rfl ?_
        exact ih (i + 1) (by omega) (by omega)
      · skip
        refine Z.aldY (σ := (zuR (zuX (zuX (zuX σ 21 (zX σ 28)) 22 (zX σ 29)) 23 (zX σ 30)) 24 (fiR i (zR σ 31) (zR σ 24)))) B dX1_takeOver_75 (n := 8) (hl.n (k := 31) (by decide)) (hl.k (k := 31) (by decide)) (hl.l (k := 31) (by decide)) (by decide) (j := i) rfl (by omega) (q := q) hq ?_
        refine Z.astY (σ := (zuR (zuX (zuX (zuX σ 21 (zX σ 28)) 22 (zX σ 29)) 23 (zX σ 30)) 24 (fiR i (zR σ 31) (zR σ 24)))) B (n := 8) (q := q) dX1_takeOver_76 (hl.n (k := 24) (by decide)) (hl.k (k := 24) (by decide)) (hl.l (k := 24) (by decide)) (by decide) (j := i) rfl (by omega) (hW i (by omega) q hq).2.1 rfl (hW i (by omega) q hq).2.2 (τ := (zuR (zuX (zuX (zuX σ 21 (zX σ 28)) 22 (zX σ 29)) 23 (zX σ 30)) 24 (fiR (i + 1) (zR σ 31) (zR σ 24)))) (by rw [zR_self, zuR_uR, fiR_s hq]) ?_
        refine Z.iincN B dX1_takeOver_77 (by decide) (a := i) rfl (L' := [(0, .ref 20), (1, .ref 27), (2, .int (nI (i + 1)))]) rfl ?_
        refine Z.goto B dX1_takeOver_80 (tgt := 56) rfl ?_
        exact ih (i + 1) (by omega) (by omega)
  have h0 := hloop56 0 (Nat.zero_le _)
  rw [fiR_0] at h0
  refine Z.eqσ ?_ h0
  exact (zuR_id (σ := (zuX (zuX (zuX σ 21 (zX σ 28)) 22 (zX σ 29)) 23 (zX σ 30)))).symm
