/-! more of what both sides reckon: heads, rankings told, bounds of what is shown, numbers from outside -/
theorem hs_mp {d : Nat → Int32} {p o : Nat} (ho : o ≤ 10) : ∀ k, k ≤ 3 → (∀ i, i < k → ∃ x, x ≤ 10 ∧ d (p + 1 + i) = nI x) → ∃ m, m ≤ 10 ^ k ∧ mP d p k = nI (m * 10 ^ (3 - k)) ∧ hS (nI 1000 * nI o) d p k = nI (o * (m * 10 ^ (3 - k)))
  | 0, _, _ => ⟨1, by decide, rfl, by rw [Int32.mul_comm]; exact nI_mul o 1000⟩
  | k + 1, hk, hd => by
    obtain ⟨m, h1, h2, h3⟩ := hs_mp ho k (by omega) (fun i hi => hd i (by omega))
    obtain ⟨x, hx, ex⟩ := hd k (by omega)
    have e10 : 10 ^ (3 - k) = 10 ^ (3 - (k + 1)) * 10 := by
      rw [← Nat.pow_succ]; congr 1; omega
    have b1 : m * 10 ^ (3 - k) ≤ 1000 := by
      have : 10 ^ k * 10 ^ (3 - k) = 1000 := by rw [← Nat.pow_add, show k + (3 - k) = 3 by omega]
      calc m * 10 ^ (3 - k) ≤ 10 ^ k * 10 ^ (3 - k) := Nat.mul_le_mul_right _ h1
        _ = 1000 := this
    have b2 : m * 10 ^ (3 - k) * x ≤ 1000 * 10 := Nat.mul_le_mul b1 hx
    have b3 : o * (m * 10 ^ (3 - k)) * x ≤ 10 * 1000 * 10 := Nat.mul_le_mul (Nat.mul_le_mul ho b1) hx
    refine ⟨m * x, ?_, ?_, ?_⟩
    · rw [Nat.pow_succ]; exact Nat.mul_le_mul h1 hx
    · show mP d p k * d (p + 1 + k) / nI 10 = _
      rw [h2, ex, nI_mul, nI_div (by omega) (by decide)]
      congr 1
      rw [e10, show m * (10 ^ (3 - (k + 1)) * 10) * x = m * x * 10 ^ (3 - (k + 1)) * 10 by ac_rfl, Nat.mul_div_cancel _ (by decide)]
    · show hS (nI 1000 * nI o) d p k * d (p + 1 + k) / nI 10 = _
      rw [h3, ex, nI_mul, nI_div (by omega) (by decide)]
      congr 1
      rw [e10, show o * (m * (10 ^ (3 - (k + 1)) * 10)) * x = o * (m * x * 10 ^ (3 - (k + 1))) * 10 by ac_rfl, Nat.mul_div_cancel _ (by decide)]
theorem hH_mA {d : Nat → Int32} {p o : Nat} (ho : o ≤ 10) : ∀ k, k ≤ 3 → (∀ i, i < k → ∃ x, x ≤ 10 ∧ d (p + 1 + i) = nI x) → hH (nI 1000 * nI o) d p k = nI o * mA d p (k + 1)
  | 0, _, _ => by
    show nI 1000 * nI o = nI o * (nI 0 + nI 1000)
    rw [nz_add, Int32.mul_comm]
  | k + 1, hk, hd => by
    obtain ⟨m, h1, h2, h3⟩ := hs_mp (p := p) ho (k + 1) hk hd
    show hH (nI 1000 * nI o) d p k + hS (nI 1000 * nI o) d p (k + 1) = nI o * (mA d p (k + 1) + mP d p (k + 1))
    rw [hH_mA ho k (by omega) (fun i hi => hd i (by omega)), h3, h2, Int32.mul_add, nI_mul]
/-- numbers from outside -/
theorem znt (x : Int32) (n : Nat) (hn : n < 2 ^ 31) : zOut x n ∨ ∃ k, k < n ∧ x = nI k := by
  by_cases h1 : x < 0
  · exact Or.inl (Or.inl h1)
  by_cases h2 : nI n ≤ x
  · exact Or.inl (Or.inr h2)
  refine Or.inr ⟨x.toInt.toNat, ?_, ?_⟩
  · rw [zlt_iff] at h1
    rw [zle_iff, nI_toInt hn] at h2
    have : (0 : Int32).toInt = 0 := rfl
    omega
  · rw [zlt_iff] at h1
    rw [zle_iff, nI_toInt hn] at h2
    have h0 : (0 : Int32).toInt = 0 := rfl
    apply Int32.toInt_inj.mp
    rw [nI_toInt (by omega)]
    omega
theorem zneg (x : Int32) : x < 0 ∨ ∃ k, k < 2 ^ 31 ∧ x = nI k := by
  by_cases h1 : x < 0
  · exact Or.inl h1
  · refine Or.inr ⟨x.toInt.toNat, ?_, ?_⟩
    · have := Int32.toInt_lt x; omega
    · rw [zlt_iff] at h1
      have h0 : (0 : Int32).toInt = 0 := rfl
      apply Int32.toInt_inj.mp
      rw [nI_toInt (by have := Int32.toInt_lt x; omega)]
      omega
theorem nI_nneg {k : Nat} (h : k < 2 ^ 31) : ¬ nI k < 0 := by
  rw [zlt_iff, nI_toInt h]
  have h0 : (0 : Int32).toInt = 0 := rfl
  omega
/-- rankings -/
theorem rk_ex (e : Nat → Int32) (m n : Nat) (hn : n < 2 ^ 31) : ∃ t r, t ≤ n ∧ rkG e r m n t ∧ (t = n ∨ (t < n ∧ rkB e r m n t)) := by
  have key : ∀ t, t ≤ n → (rkG e (fun j => (e j).toInt.toNat) m n t ∨ ∃ t', t' < t ∧ rkG e (fun j => (e j).toInt.toNat) m n t' ∧ rkB e (fun j => (e j).toInt.toNat) m n t') := by
    intro t
    induction t with
    | zero => intro _; exact Or.inl (fun j hj => by omega)
    | succ t ih =>
      intro ht
      rcases ih (by omega) with h | ⟨t', h1, h2, h3⟩
      · by_cases hm : m ≤ t
        · exact Or.inr ⟨t, by omega, h, Or.inl hm⟩
        rcases znt (e t) n hn with ho | ⟨c, hc, ec⟩
        · exact Or.inr ⟨t, by omega, h, Or.inr (Or.inl ho)⟩
        have er : (e t).toInt.toNat = c := by rw [ec, nI_toInt (by omega)]; rfl
        by_cases hex : ∃ j, j < t ∧ (e j).toInt.toNat = c
        · obtain ⟨j, hj, hjc⟩ := hex
          exact Or.inr ⟨t, by omega, h, Or.inr (Or.inr ⟨c, j, ec, hc, hj, hjc⟩)⟩
        · refine Or.inl (fun j hj => ?_)
          rcases (by omega : j < t ∨ j = t) with h4 | rfl
          · exact h j h4
          · refine ⟨by omega, by show e j = nI (e j).toInt.toNat; rw [er]; exact ec, by show (e j).toInt.toNat < n; rw [er]; exact hc, fun k hk hkr => hex ⟨k, hk, ?_⟩⟩
            show (e k).toInt.toNat = c
            rw [show (e k).toInt.toNat = (e j).toInt.toNat from hkr]; exact er
      · exact Or.inr ⟨t', by omega, h2, h3⟩
  rcases key n (Nat.le_refl _) with h | ⟨t', h1, h2, h3⟩
  · exact ⟨n, _, Nat.le_refl _, h, Or.inl rfl⟩
  · exact ⟨t', _, by omega, h2, Or.inr ⟨h1, h3⟩⟩
theorem rkG_cong {e f : Nat → Int32} {r : Nat → Nat} {m n t : Nat} (hm : m ≤ 160) (h : ∀ i, i < 160 → e i = f i) (hg : rkG e r m n t) : rkG f r m n t := fun j hj => by
  obtain ⟨h1, h2, h3⟩ := hg j hj
  exact ⟨h1, by rw [← h j (by omega)]; exact h2, h3⟩
theorem rkB_cong {e f : Nat → Int32} {r : Nat → Nat} {m n t : Nat} (hm : m ≤ 160) (h : ∀ i, i < 160 → e i = f i) (hb : rkB e r m n t) : rkB f r m n t := by
  by_cases hmt : m ≤ t
  · exact Or.inl hmt
  · unfold rkB at hb ⊢
    rw [← h t (by omega)]
    exact hb
def im (r : Nat → Nat) : Nat → Nat → Bool
  | 0, _ => false
  | t + 1, x => decide (x = r t) || im r t x
theorem im_s {r : Nat → Nat} {x : Nat} : ∀ t, im r t x = true ↔ ∃ j, j < t ∧ x = r j
  | 0 => ⟨fun h => (by cases h), fun ⟨j, hj, _⟩ => by omega⟩
  | t + 1 => by
    show (decide (x = r t) || im r t x) = true ↔ _
    rw [Bool.or_eq_true, decide_eq_true_iff, im_s t]
    constructor
    · rintro (h | ⟨j, hj, h⟩)
      · exact ⟨t, by omega, h⟩
      · exact ⟨j, by omega, h⟩
    · rintro ⟨j, hj, h⟩
      rcases (by omega : j = t ∨ j < t) with rfl | h2
      · exact Or.inl h
      · exact Or.inr ⟨j, h2, h⟩
theorem im_c {r : Nat → Nat} {n : Nat} : ∀ t, (∀ j, j < t → r j < n ∧ ∀ k, k < j → r k ≠ r j) → cN (im r t) n = t
  | 0, _ => cN_zero n fun _ _ => rfl
  | t + 1, h => by
    have ih := im_c t (fun j hj => h j (by omega))
    obtain ⟨h1, h2⟩ := h t (by omega)
    have := cN_ad (p := im r t) (q := im r (t + 1)) (b := r t) n (fun i _ hne => by
      show im r t i = (decide (i = r t) || im r t i)
      rw [decide_eq_false hne, Bool.false_or]) h1 (by
        cases hb : im r t (r t) with
        | false => rfl
        | true =>
          obtain ⟨j, hj, e⟩ := (im_s t).mp hb
          exact absurd e.symm (h2 j hj)) (by
        show (decide (r t = r t) || im r t (r t)) = true
        rw [decide_eq_true rfl, Bool.true_or])
    rw [this, ih]
theorem rk_sur {e : Nat → Int32} {r : Nat → Nat} {m n : Nat} (hg : rkG e r m n n) {c : Nat} (hc : c < n) : ∃ j, j < n ∧ c = r j := by
  have h1 := im_c (r := r) (n := n) n (fun j hj => ⟨(hg j hj).2.2.1, (hg j hj).2.2.2⟩)
  cases hb : im r n c with
  | true => exact (im_s n).mp hb
  | false =>
    have h2 : cN (im r n) n < cN (fun _ => true) n := cN_lt n (fun _ _ _ => rfl) hc hb rfl
    have := cN_le (fun _ => true) n
    omega
theorem tr_at {r : Nat → Nat} {n : Nat} {X Y : Nat → Int32} : ∀ t, (∀ j, j < t → ∀ k, k < j → r k ≠ r j) → ∀ j, j < t → trK r n X t (r j) = nI n - nI j ∧ trM r Y t (r j) = -nI j
  | 0, _, j, hj => by omega
  | t + 1, h, j, hj => by
    show upd (trK r n X t) (r t) (nI n - nI t) (r j) = _ ∧ upd (trM r Y t) (r t) (-nI t) (r j) = _
    rcases (by omega : j < t ∨ j = t) with h1 | rfl
    · have hne : r j ≠ r t := h t (by omega) j h1
      rw [upd_ne hne, upd_ne hne]
      exact tr_at t (fun j hj => h j (by omega)) j h1
    · rw [upd_self, upd_self]; exact ⟨rfl, rfl⟩
theorem neg_toInt {k : Nat} (h : k < 2 ^ 31) : (-nI k).toInt = -(k : Int) := by
  have : (-nI k) = nI 0 - nI k := by rw [show nI 0 = (0 : Int32) from rfl, Int32.zero_sub]
  rw [this, zsubI (by decide) h]; omega
theorem sg_gt {x y : Int32} (h : y < x) : sg x y = nI 1 := by
  unfold sg
  rw [if_neg (fun e => by rw [e, zlt_iff] at h; omega), if_pos h]
theorem sg_lt {x y : Int32} (h : x < y) : sg x y = (-1) := by
  unfold sg
  rw [if_neg (fun e => by rw [e, zlt_iff] at h; omega), if_neg (fun e => by rw [zlt_iff] at h e; omega)]
theorem told_pt {e F X Y : Nat → Int32} {r : Nat → Nat} {m n : Nat} (hn : n ≤ 8) (hg : rkG e r m n n) : tO (pt F (trK r n X n)) n = tO (mt (am_ 255) F (trM r Y n)) n := by
  rw [← tO_mt hn]
  refine tO_cong n fun i j hi hj => ?_
  obtain ⟨i', hi', ei⟩ := rk_sur hg (show i < n by omega)
  obtain ⟨j', hj', ej⟩ := rk_sur hg hj
  have ht := tr_at (r := r) (n := n) (X := X) (Y := Y) n (fun j hj => (hg j hj).2.2.2)
  obtain ⟨a1, a2⟩ := ht i' hi'
  obtain ⟨b1, b2⟩ := ht j' hj'
  unfold pt
  rw [ei, ej, a1, a2, b1, b2]
  congr 1
  have t1 : (nI n - nI i').toInt = (n : Int) - i' := zsubI (by omega) (by omega)
  have t2 : (nI n - nI j').toInt = (n : Int) - j' := zsubI (by omega) (by omega)
  have t3 : (-nI i').toInt = -(i' : Int) := neg_toInt (by omega)
  have t4 : (-nI j').toInt = -(j' : Int) := neg_toInt (by omega)
  rcases Nat.lt_trichotomy i' j' with h | h | h
  · rw [sg_gt (by rw [zlt_iff]; omega), sg_gt (by rw [zlt_iff]; omega)]
  · subst h; unfold sg; rw [if_pos rfl, if_pos rfl]
  · rw [sg_lt (by rw [zlt_iff]; omega), sg_lt (by rw [zlt_iff]; omega)]
/-- bounds of what is shown -/
theorem cn_ok {d : HD} (hW : HW d) {c w : Nat} (hc : c < Hn d) (hw : w < 7) : ∃ x, x ≤ 27 ∧ cn (HF d) c w = nI x := by
  obtain ⟨x0, h0, e0⟩ := hW.2.1 c 0 hc (by decide)
  obtain ⟨x1, h1, e1⟩ := hW.2.1 c 1 hc (by decide)
  obtain ⟨x2, h2, e2⟩ := hW.2.1 c 2 hc (by decide)
  unfold cn
  by_cases h6 : w = 6
  · rw [if_pos h6, show HF d (c * 6) = nI x0 from e0, e1, e2, nI_add, nI_add]
    have m0 : mo 0 = 9 := rfl
    have m1 : mo 1 = 9 := rfl
    have m2 : mo 2 = 9 := rfl
    exact ⟨x0 + x1 + x2, by omega, rfl⟩
  · rw [if_neg h6]
    obtain ⟨x, hx, e⟩ := hW.2.1 c w hc (by omega)
    have : mo w ≤ 9 := mo_le
    exact ⟨x, by omega, e⟩
theorem bo_ok {d : HD} (hW : HW d) {b c : Nat} (hb : b < Ha d) : ∃ x, x ≤ 90 ∧ bo (HF d) (fun b => HA d (b * 3)) (fun b => HA d (b * 3 + 1)) b c = nI x := by
  obtain ⟨s, l, r, h1, h2, h3, e1, e2, e3⟩ := hW.2.2.2.1 b hb
  unfold bo
  split
  · show ∃ x, x ≤ 90 ∧ nI 10 * HA d (b * 3 + 1) = nI x
    rw [e2, nI_mul]; exact ⟨10 * l, by omega, rfl⟩
  · exact ⟨0, by omega, rfl⟩
theorem mixok {t f e : Nat} (ht : t ≤ 10) (hf : f ≤ 900) (he : e ≤ 27) : ∃ x, x < 2 ^ 27 ∧ (nI t * nI f + (nI 10 - nI t) * nI 10 * nI e) / nI 10 = nI x := by
  have e1 : nI 10 - nI t = nI (10 - t) := pk_sub ht
  rw [e1, nI_mul, nI_mul, nI_mul, nI_add]
  have b1 : t * f ≤ 10 * 900 := Nat.mul_le_mul ht hf
  have b2 : (10 - t) * 10 * e ≤ 10 * 10 * 27 := Nat.mul_le_mul (Nat.mul_le_mul (by omega) (Nat.le_refl _)) he
  rw [nI_div (by omega) (by decide)]
  have := Nat.div_le_self (t * f + (10 - t) * 10 * e) 10
  exact ⟨_, by omega, rfl⟩
theorem shW_ok {d : HD} (hW : HW d) {kd pa b c : Nat} (hc : c < Hn d) (hb : b < Ha d) : ∃ x, x < 2 ^ 27 ∧ shW (HF d) (fun b => HA d (b * 3)) (fun b => HA d (b * 3 + 1)) kd pa b c = nI x := by
  obtain ⟨x3, h3, e3⟩ := cn_ok hW hc (w := 3) (by decide)
  obtain ⟨x5, h5, e5⟩ := cn_ok hW hc (w := 5) (by decide)
  obtain ⟨x6, h6, e6⟩ := cn_ok hW hc (w := 6) (by decide)
  obtain ⟨xp, hp, ep⟩ := cn_ok hW hc (w := pa % 3) (by omega)
  obtain ⟨y, hy, ey⟩ := bo_ok hW hb (c := c)
  have ef : fe (HF d) (fun b => HA d (b * 3)) (fun b => HA d (b * 3 + 1)) b c = nI (30 * x3 + y) := by
    unfold fe
    rw [e3, ey, nI_mul, nI_add]
  unfold shW
  rw [ef, e6, e5, ey, ep]
  split
  · exact ⟨30 * x3 + y, by omega, rfl⟩
  split
  · exact mixok (by omega) (by omega) h6
  split
  · exact mixok (by omega) (by omega) h6
  split
  · rw [nI_mul]; exact ⟨30 * xp, by omega, rfl⟩
  split
  · split
    · exact ⟨260, by decide, rfl⟩
    · exact ⟨270, by decide, rfl⟩
  split
  · rw [nI_mul, nI_add]; exact ⟨30 * x5 + y, by omega, rfl⟩
  · rw [nI_mul]; exact ⟨30 * x5, by omega, rfl⟩
/-- drawing -/
theorem dv_ok (s : Int32) {n : Nat} (h0 : 0 < n) (hn : n < 2 ^ 31) : ∃ y, y < n ∧ dv s n = nI y := by
  have key : ∃ t, t < 65536 ∧ (s.toUInt32 >>> ((nI 16).toUInt32 &&& Int32.toUInt32 31)).toInt32 = nI t := by
    refine ⟨(s.toUInt32 >>> (16 : UInt32)).toNat, ?_, ?_⟩
    · have : (s.toUInt32 >>> (16 : UInt32)).toNat = s.toUInt32.toNat >>> 16 := by rw [UInt32.toNat_shiftRight]; rfl
      rw [this, Nat.shiftRight_eq_div_pow]
      have := UInt32.toNat_lt s.toUInt32
      omega
    · have e : (nI 16).toUInt32 &&& Int32.toUInt32 31 = (16 : UInt32) := by decide
      rw [e]
      have hlt : (s.toUInt32 >>> (16 : UInt32)).toNat < 65536 := by
        have : (s.toUInt32 >>> (16 : UInt32)).toNat = s.toUInt32.toNat >>> 16 := by rw [UInt32.toNat_shiftRight]; rfl
        rw [this, Nat.shiftRight_eq_div_pow]
        have := UInt32.toNat_lt s.toUInt32
        omega
      apply Int32.toInt_inj.mp
      rw [nI_toInt (by omega)]
      show (s.toUInt32 >>> (16 : UInt32)).toInt32.toBitVec.toInt = _
      rw [BitVec.toInt_eq_toNat_of_lt]
      · rfl
      · show 2 * (s.toUInt32 >>> (16 : UInt32)).toNat < 2 ^ 32
        omega
  obtain ⟨t, ht, et⟩ := key
  unfold dv
  rw [et, nI_div (by omega) hn, nI_mul]
  have h1 : t / n * n ≤ t := Nat.div_mul_le_self t n
  refine ⟨t % n, Nat.mod_lt _ h0, ?_⟩
  have e2 : nI t - nI (t / n * n) = nI (t - t / n * n) := pk_sub h1
  rw [e2]
  congr 1
  have := Nat.div_add_mod t n
  rw [Nat.mul_comm] at this
  omega
theorem dw_at {X : Nat → Int32} {c : Nat} {s : Int32} : ∀ i j, dw X c s i j = if c * 6 ≤ j ∧ j < c * 6 + i then dv (sq s (j - c * 6 + 1)) (mo (j - c * 6) + 1) else X j
  | 0, j => by
    show X j = _
    rw [if_neg (by omega)]
  | i + 1, j => by
    show upd (dw X c s i) (c * 6 + i) (dv (sq s (i + 1)) (mo i + 1)) j = _
    by_cases e : j = c * 6 + i
    · subst e
      rw [upd_self, if_pos (by omega), Nat.add_sub_cancel_left]
    · rw [upd_ne e, dw_at i j]
      by_cases h : c * 6 ≤ j ∧ j < c * 6 + i
      · rw [if_pos h, if_pos (by omega)]
      · rw [if_neg h, if_neg (by omega)]
theorem dX_out {X : Nat → Int32} {n : Nat} {s : Int32} : ∀ k j, (j < n * 6 ∨ (n + k) * 6 ≤ j) → dX X n s k j = X j
  | 0, _, _ => rfl
  | k + 1, j, h => by
    show dw (dX X n s k) (n + k) (dS s k) 6 j = X j
    rw [dw_at, if_neg (by omega)]
    exact dX_out k j (by omega)
theorem dX_in {X : Nat → Int32} {n : Nat} {s : Int32} : ∀ k c w, c < k → w < 6 → ∃ y, y ≤ mo w ∧ dX X n s k ((n + c) * 6 + w) = nI y
  | 0, _, _, h, _ => by omega
  | k + 1, c, w, h, hw => by
    show ∃ y, y ≤ mo w ∧ dw (dX X n s k) (n + k) (dS s k) 6 ((n + c) * 6 + w) = nI y
    rw [dw_at]
    by_cases e : c = k
    · subst e
      rw [if_pos (by omega), Nat.add_sub_cancel_left]
      obtain ⟨y, h1, h2⟩ := dv_ok (sq (dS s c) (w + 1)) (n := mo w + 1) (by omega) (by have : mo w ≤ 9 := mo_le; omega)
      exact ⟨y, by omega, h2⟩
    · rw [if_neg (by omega)]
      exact dX_in k c w (by omega) hw
theorem HW.D {d : HD} {s : Int32} {k : Nat} (h : HW d) (hk : Hn d + k ≤ 8) (t : Int32) : HW ((Hn d + k, Ha d, Hy d, t), (dX (HF d) (Hn d) s k, HA d, HO d), Hk d, Hp d) := by
  obtain ⟨⟨n8, a8, y8⟩, h1, h2, h3⟩ := h
  refine ⟨⟨hk, a8, y8⟩, fun c w hc hw => ?_, fun j hj => ?_, h3⟩
  · show ∃ x, x ≤ mo w ∧ dX (HF d) (Hn d) s k (c * 6 + w) = nI x
    have hc : c < Hn d + k := hc
    rcases Nat.lt_or_ge c (Hn d) with h4 | h4
    · rw [dX_out k _ (by omega)]; exact h1 c w h4 hw
    · obtain ⟨c', rfl⟩ : ∃ c', c = Hn d + c' := ⟨c - Hn d, by omega⟩
      exact dX_in k c' w (by omega) hw
  · show dX (HF d) (Hn d) s k j = 0
    rw [dX_out k _ (by omega)]; exact h2 j hj
