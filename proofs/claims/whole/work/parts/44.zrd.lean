/-! reading a text: the class -/
def mx (ac w k : Nat) : Int32 := if w = 0 then zA0 k else if w = 1 then zA1 k else if w = 2 then zA2 k else nI ac - nI 1
def ful (w n ac y : Nat) : Bool := (decide (w = 0) && decide (n = 8)) || ((decide (w = 1) && decide (ac = 4)) || (decide (w = 2) && decide (y = 8)))
def fbd (T : Nat → Int32) (p ac w : Nat) : Nat := alF (fun k => nkB T (ps T p k) (mx ac w k)) 0 (wc w)
def tN (x : Int32) : Nat := x.toInt.toNat
def fst_ (X : Nat → Int32) (x : Int32) (a : Nat) : Nat := alF (fun i => decide (¬ X i = x)) 0 a
def itB (T : Nat → Int32) (a n ac y : Nat) : Option Nat :=
  if wd T a = 4 then some (a + far T a) else if ful (wd T a) n ac y = true then some a else
  if fbd T (a + wl (wd T a)) ac (wd T a) < wc (wd T a) then some (nbd T (ps T (a + wl (wd T a)) (fbd T (a + wl (wd T a)) ac (wd T a)))) else none
def itN (T : Nat → Int32) (a : Nat) : Nat := ps T (a + wl (wd T a)) (wc (wd T a))
def tlS (σ : zSt) (w n ac y : Nat) : zSt :=
  if w = 0 then zuX (zuX σ 36 (va_cpy (zX σ 42) (zX σ 36) 0 (n * 6) 6)) 35 (upd (zX σ 35) 2 (nI (n + 1)))
  else if w = 1 then zuX (zuX (zuX σ 37 (upd (upd (upd (zX σ 37) (ac * 3) (zX σ 42 0)) (ac * 3 + 1) (zX σ 42 1)) (ac * 3 + 2) (zX σ 42 2))) 38 (upd (zX σ 38) ac (nI ac))) 35 (upd (zX σ 35) 5 (nI (ac + 1)))
  else if w = 2 then aW σ 35 (tN (zX σ 42 0)) (tN (zX σ 42 1)) y
  else zuX σ 38 (pf (fst_ (zX σ 38) (zX σ 42 0) ac) (tN (zX σ 42 0)) (zX σ 38))
def itG (T : Nat → Int32) (σ : zSt) (a n ac y : Nat) : zSt :=
  if wd T a = 4 then tS σ a (nI (a + far T a)) (zX σ 42)
  else if ful (wd T a) n ac y = true then tS σ (a + wl (wd T a)) (nI a) (zX σ 42)
  else if fbd T (a + wl (wd T a)) ac (wd T a) < wc (wd T a) then tS σ (nat_ T (ps T (a + wl (wd T a)) (fbd T (a + wl (wd T a)) ac (wd T a)))) (nI (nbd T (ps T (a + wl (wd T a)) (fbd T (a + wl (wd T a)) ac (wd T a))))) (fi (fbd T (a + wl (wd T a)) ac (wd T a)) (vs T (a + wl (wd T a))) (zX σ 42))
  else tlS (tS σ (ps T (a + wl (wd T a)) (wc (wd T a))) (-1) (fi (wc (wd T a)) (vs T (a + wl (wd T a))) (zX σ 42))) (wd T a) n ac y
/-- the draft: its counts, its order -/
def DI (σ : zSt) (n ac y : Nat) : Prop := Lay σ ∧ zX σ 35 2 = nI n ∧ n ≤ 8 ∧ zX σ 35 5 = nI ac ∧ ac ≤ 4 ∧ zX σ 35 7 = nI y ∧ y ≤ 8 ∧ zCl σ ∧ ∃ od : Nat → Nat, (∀ i, i < ac → zX σ 38 i = nI (od i) ∧ od i < ac) ∧ ∀ b, b < ac → ∃ i, i < ac ∧ od i = b
theorem tN_nI {x : Nat} (h : x < 2 ^ 31) : tN (nI x) = x := by
  unfold tN
  rw [nI_toInt h]; rfl
theorem dg_v {x : Int32} (h : dg x = true) : ∃ d, d ≤ 9 ∧ x = nI (48 + d) := by
  obtain ⟨h1, h2⟩ := dg_t.mp h
  rw [zle_iff, nI_toInt (by decide)] at h1 h2
  refine ⟨x.toInt.toNat - 48, by omega, ?_⟩
  apply Int32.toInt_inj.mp
  rw [nI_toInt (by omega)]
  omega
theorem nok_v {T : Nat → Int32} {q : Nat} {mo : Int32} (h : nok T q mo) : nv T (q + 1) = nI (tN (nv T (q + 1))) ∧ tN (nv T (q + 1)) ≤ 99 ∧ ((tN (nv T (q + 1)) : Nat) : Int) ≤ mo.toInt := by
  obtain ⟨h1, h2, h3⟩ := h
  have key : ∃ x, x ≤ 99 ∧ nv T (q + 1) = nI x := by
    obtain ⟨d, hd, e⟩ := dg_v h2
    unfold nv
    by_cases h4 : dg (T (q + 1 + 1)) = true
    · obtain ⟨d2, hd2, e2⟩ := dg_v h4
      rw [if_pos h4, e, e2]
      refine ⟨d * 10 + d2, by omega, ?_⟩
      rw [pk_sub (by omega), show 48 + d - 48 = d by omega, show nI d * nI 10 = nI (d * 10) from (Int32.ofNat_mul d 10).symm, nI_add, pk_sub (by omega)]
      congr 1; omega
    · rw [if_neg h4, e]
      refine ⟨d, by omega, ?_⟩
      rw [pk_sub (by omega), show 48 + d - 48 = d by omega]
  obtain ⟨x, hx, e⟩ := key
  have e2 : tN (nv T (q + 1)) = x := by rw [e, tN_nI (by omega)]
  rw [e2]
  refine ⟨e, hx, ?_⟩
  rw [e, zle_iff, nI_toInt (by omega)] at h3
  exact h3
theorem fbd_s {T : Nat → Int32} {p ac w : Nat} : fbd T p ac w ≤ wc w ∧ (∀ j, j < fbd T p ac w → nok T (ps T p j) (mx ac w j)) ∧ (fbd T p ac w < wc w → ¬ nok T (ps T p (fbd T p ac w)) (mx ac w (fbd T p ac w))) := by
  obtain ⟨h1, h2, h3, h4⟩ := alF_s (p := fun k => nkB T (ps T p k) (mx ac w k)) (wc w) 0
  refine ⟨by have := h2; unfold fbd; omega, fun j hj => nkB_t.mp (h3 j (Nat.zero_le _) hj), fun h h5 => ?_⟩
  have := h4 (by unfold fbd at h; omega)
  have h6 : nkB T (ps T p (fbd T p ac w)) (mx ac w (fbd T p ac w)) = true := nkB_t.mpr h5
  unfold fbd at h6
  rw [this] at h6; cases h6
theorem fst_s {X : Nat → Int32} {x : Int32} {a : Nat} {od : Nat → Nat} (ho : ∀ i, i < a → X i = nI (od i) ∧ od i < a) (ha : a ≤ 4) {b : Nat} (hb : b < a) (hx : x = nI b) (hs : ∃ i, i < a ∧ od i = b) : fst_ X x a < a ∧ od (fst_ X x a) = b ∧ ∀ j, j < fst_ X x a → od j ≠ b := by
  obtain ⟨h1, h2, h3, h4⟩ := alF_s (p := fun i => decide (¬ X i = x)) a 0
  have hlt : fst_ X x a < a := by
    rcases Nat.lt_or_ge (fst_ X x a) a with h | h
    · exact h
    · exfalso
      obtain ⟨i, hi, e⟩ := hs
      have := of_decide_eq_true (h3 i (Nat.zero_le _) (by unfold fst_ at h; omega))
      exact this (by rw [(ho i hi).1, e, hx])
  refine ⟨hlt, ?_, fun j hj e => ?_⟩
  · have h5 := of_decide_eq_false (h4 (by unfold fst_ at hlt; omega))
    have h6 : X (fst_ X x a) = x := Decidable.of_not_not h5
    rw [(ho _ hlt).1] at h6
    exact (nI_eq (by have := (ho _ hlt).2; omega) (by omega)).mp (h6.trans hx)
  · have := of_decide_eq_true (h3 j (Nat.zero_le _) hj)
    exact this (by rw [(ho j (by omega)).1, e, hx])
theorem wd_4 {T : Nat → Int32} {a : Nat} : wd T a ≤ 4 := by unfold wd; split <;> (try split) <;> (try split) <;> (try split) <;> decide
theorem wd_s0 {T : Nat → Int32} {a : Nat} (h : wd T a = 0) : al T a 0 = 5 := by
  unfold wd at h
  by_cases h0 : al T a 0 = 5
  · exact h0
  · rw [if_neg h0] at h; exfalso; revert h; split <;> (try split) <;> (try split) <;> decide
theorem wd_s1 {T : Nat → Int32} {a : Nat} (h : wd T a = 1) : ¬ al T a 0 = 5 ∧ al T a 1 = 5 := by
  unfold wd at h
  by_cases h0 : al T a 0 = 5
  · rw [if_pos h0] at h; cases h
  · rw [if_neg h0] at h
    by_cases h1 : al T a 1 = 5
    · exact ⟨h0, h1⟩
    · rw [if_neg h1] at h; exfalso; revert h; split <;> (try split) <;> decide
theorem wd_s2 {T : Nat → Int32} {a : Nat} (h : wd T a = 2) : ¬ al T a 0 = 5 ∧ ¬ al T a 1 = 5 ∧ al T a 2 = 3 := by
  unfold wd at h
  by_cases h0 : al T a 0 = 5
  · rw [if_pos h0] at h; cases h
  · rw [if_neg h0] at h
    by_cases h1 : al T a 1 = 5
    · rw [if_pos h1] at h; cases h
    · rw [if_neg h1] at h
      by_cases h2 : al T a 2 = 3
      · exact ⟨h0, h1, h2⟩
      · rw [if_neg h2] at h; exfalso; revert h; split <;> decide
theorem wd_s3 {T : Nat → Int32} {a : Nat} (h : 3 ≤ wd T a) : ¬ al T a 0 = 5 ∧ ¬ al T a 1 = 5 ∧ ¬ al T a 2 = 3 ∧ (wd T a = 3 → al T a 3 = 5) ∧ (wd T a = 4 → ¬ al T a 3 = 5) := by
  unfold wd at h ⊢
  by_cases h0 : al T a 0 = 5
  · rw [if_pos h0] at h; omega
  · rw [if_neg h0] at h ⊢
    by_cases h1 : al T a 1 = 5
    · rw [if_pos h1] at h; omega
    · rw [if_neg h1] at h ⊢
      by_cases h2 : al T a 2 = 3
      · rw [if_pos h2] at h; omega
      · rw [if_neg h2] at h ⊢
        by_cases h3 : al T a 3 = 5
        · rw [if_pos h3]; exact ⟨h0, h1, h2, fun _ => h3, fun h => by cases h⟩
        · rw [if_neg h3]; exact ⟨h0, h1, h2, fun h => (by cases h), fun _ => h3⟩

theorem it_t0 {σ : zSt} {n ac y q a : Nat} {T r : Nat → Int32} (D : DI σ n ac y) (ht : zTx σ q T) (hq : q < 34) (ha : a < 2 ^ 29) (hw : wd T a = 0) (hr : zX σ 42 = r) : Dt mX2_readItem [.ref 34, .ref q] (tS σ a (-1) r) none (itG T σ a n ac y) := by
  subst hr
  obtain ⟨hl, hn, hn8, hac, hac4, hy, hy8, hcl, od, ho, hs⟩ := D
  have h0 := wd_s0 hw
  unfold itG
  rw [hw, if_neg (by decide), show wl 0 = 5 from rfl, show wc 0 = 6 from rfl]
  by_cases hf : n = 8
  · have e : ful 0 n ac y = true := by simp [ful, hf]
    rw [if_pos e]
    exact t_X2_item_b0 hl ht hq ha hn hn8 hac hac4 hy hy8 h0 hf
  have e : ¬ ful 0 n ac y = true := by simp [ful, hf]
  rw [if_neg e]
  have hr : n < 8 := by omega
  obtain ⟨f1, f2, f3⟩ := fbd_s (T := T) (p := a + 5) (ac := ac) (w := 0)
  by_cases hk : fbd T (a + 5) ac 0 < 6
  · rw [if_pos hk]
    exact t_X2_item_c0 hl ht hq ha hn hn8 hac hac4 hy hy8 h0 hr hk f2 (f3 hk)
  · rw [if_neg hk]
    have hk2 : fbd T (a + 5) ac 0 = 6 := Nat.le_antisymm f1 (Nat.le_of_not_lt hk)
    have hall : ∀ k, k < 6 → nok T (ps T (a + 5) k) (mx ac 0 k) := fun k hk3 => f2 k (by rw [hk2]; exact hk3)
    unfold tlS
    rw [if_pos rfl]
    exact t_X2_item_d0 hl ht hq ha hn hn8 hac hac4 hy hy8 h0 hr hall

theorem it_t1 {σ : zSt} {n ac y q a : Nat} {T r : Nat → Int32} (D : DI σ n ac y) (ht : zTx σ q T) (hq : q < 34) (ha : a < 2 ^ 29) (hw : wd T a = 1) (hr : zX σ 42 = r) : Dt mX2_readItem [.ref 34, .ref q] (tS σ a (-1) r) none (itG T σ a n ac y) := by
  subst hr
  obtain ⟨hl, hn, hn8, hac, hac4, hy, hy8, hcl, od, ho, hs⟩ := D
  obtain ⟨h0, h1⟩ := wd_s1 hw
  unfold itG
  rw [hw, if_neg (by decide), show wl 1 = 5 from rfl, show wc 1 = 3 from rfl]
  by_cases hf : ac = 4
  · have e : ful 1 n ac y = true := by simp [ful, hf]
    rw [if_pos e]
    exact t_X2_item_b1 hl ht hq ha hn hn8 hac hac4 hy hy8 h0 h1 hf
  have e : ¬ ful 1 n ac y = true := by simp [ful, hf]
  rw [if_neg e]
  have hr : ac < 4 := by omega
  obtain ⟨f1, f2, f3⟩ := fbd_s (T := T) (p := a + 5) (ac := ac) (w := 1)
  by_cases hk : fbd T (a + 5) ac 1 < 3
  · rw [if_pos hk]
    exact t_X2_item_c1 hl ht hq ha hn hn8 hac hac4 hy hy8 h0 h1 hr hk f2 (f3 hk)
  · rw [if_neg hk]
    have hk2 : fbd T (a + 5) ac 1 = 3 := Nat.le_antisymm f1 (Nat.le_of_not_lt hk)
    have hall : ∀ k, k < 3 → nok T (ps T (a + 5) k) (mx ac 1 k) := fun k hk3 => f2 k (by rw [hk2]; exact hk3)
    unfold tlS
    rw [if_neg (by decide), if_pos rfl]
    exact t_X2_item_d1 hl ht hq ha hn hn8 hac hac4 hy hy8 h0 h1 hr hall

theorem it_t2 {σ : zSt} {n ac y q a : Nat} {T r : Nat → Int32} (D : DI σ n ac y) (ht : zTx σ q T) (hq : q < 34) (ha : a < 2 ^ 29) (hw : wd T a = 2) (hr : zX σ 42 = r) : Dt mX2_readItem [.ref 34, .ref q] (tS σ a (-1) r) none (itG T σ a n ac y) := by
  subst hr
  obtain ⟨hl, hn, hn8, hac, hac4, hy, hy8, hcl, od, ho, hs⟩ := D
  obtain ⟨h0, h1, h2⟩ := wd_s2 hw
  unfold itG
  rw [hw, if_neg (by decide), show wl 2 = 3 from rfl, show wc 2 = 2 from rfl]
  by_cases hf : y = 8
  · have e : ful 2 n ac y = true := by simp [ful, hf]
    rw [if_pos e]
    exact t_X2_item_b2 hl ht hq ha hn hn8 hac hac4 hy hy8 h0 h1 h2 hf
  have e : ¬ ful 2 n ac y = true := by simp [ful, hf]
  rw [if_neg e]
  have hr : y < 8 := by omega
  obtain ⟨f1, f2, f3⟩ := fbd_s (T := T) (p := a + 3) (ac := ac) (w := 2)
  by_cases hk : fbd T (a + 3) ac 2 < 2
  · rw [if_pos hk]
    exact t_X2_item_c2 hl ht hq ha hn hn8 hac hac4 hy hy8 h0 h1 h2 hr hk f2 (f3 hk)
  · rw [if_neg hk]
    have hk2 : fbd T (a + 3) ac 2 = 2 := Nat.le_antisymm f1 (Nat.le_of_not_lt hk)
    have hall : ∀ k, k < 2 → nok T (ps T (a + 3) k) (mx ac 2 k) := fun k hk3 => f2 k (by rw [hk2]; exact hk3)
    unfold tlS
    rw [if_neg (by decide), if_neg (by decide), if_pos rfl]
    have e0 : zX (tS σ (ps T (a + 3) 2) (-1) (fi 2 (vs T (a + 3)) (zX σ 42))) 42 0 = vs T (a + 3) 0 := by rw [tS_r, fi_at (by decide)]
    have e1 : zX (tS σ (ps T (a + 3) 2) (-1) (fi 2 (vs T (a + 3)) (zX σ 42))) 42 1 = vs T (a + 3) 1 := by rw [tS_r, fi_at (by decide)]
    have g0 := nok_v (hall 0 (by decide))
    have g1 := nok_v (hall 1 (by decide))
    rw [e0, e1]
    have h6 : (mx ac 2 0).toInt = ((6 : Nat) : Int) := by show (zA2 0).toInt = ((6 : Nat) : Int); decide
    have h7 := g0.2.2
    rw [h6] at h7
    have h8 : tN (vs T (a + 3) 0) ≤ 6 := Int.ofNat_le.mp h7
    exact t_X2_item_d2 hl ht hq ha hn hn8 hac hac4 hy hy8 h0 h1 h2 hr hall hcl (kd := tN (vs T (a + 3) 0)) (pa := tN (vs T (a + 3) 1)) h8 g0.1 g1.1

theorem it_t3 {σ : zSt} {n ac y q a : Nat} {T r : Nat → Int32} (D : DI σ n ac y) (ht : zTx σ q T) (hq : q < 34) (ha : a < 2 ^ 29) (hw : wd T a = 3) (hr : zX σ 42 = r) : Dt mX2_readItem [.ref 34, .ref q] (tS σ a (-1) r) none (itG T σ a n ac y) := by
  subst hr
  obtain ⟨hl, hn, hn8, hac, hac4, hy, hy8, hcl, od, ho, hs⟩ := D
  obtain ⟨h0, h1, h2, h3, -⟩ := wd_s3 (T := T) (a := a) (by omega); have h3 := h3 hw
  unfold itG
  rw [hw, if_neg (by decide), show wl 3 = 5 from rfl, show wc 3 = 1 from rfl]
  have e : ¬ ful 3 n ac y = true := by simp [ful]
  rw [if_neg e]
  obtain ⟨f1, f2, f3⟩ := fbd_s (T := T) (p := a + 5) (ac := ac) (w := 3)
  by_cases hk : fbd T (a + 5) ac 3 < 1
  · rw [if_pos hk]
    exact t_X2_item_c3 hl ht hq ha hn hn8 hac hac4 hy hy8 h0 h1 h2 h3 hk f2 (f3 hk)
  · rw [if_neg hk]
    have hk2 : fbd T (a + 5) ac 3 = 1 := Nat.le_antisymm f1 (Nat.le_of_not_lt hk)
    have hall : ∀ k, k < 1 → nok T (ps T (a + 5) k) (mx ac 3 k) := fun k hk3 => f2 k (by rw [hk2]; exact hk3)
    unfold tlS
    rw [if_neg (by decide), if_neg (by decide), if_neg (by decide)]
    have e0 : zX (tS σ (ps T (a + 5) 1) (-1) (fi 1 (vs T (a + 5)) (zX σ 42))) 42 0 = vs T (a + 5) 0 := by rw [tS_r, fi_at (by decide)]
    have e38 : zX (tS σ (ps T (a + 5) 1) (-1) (fi 1 (vs T (a + 5)) (zX σ 42))) 38 = zX σ 38 := tS_o (by decide) (by decide)
    have g0 := nok_v (hall 0 (by decide))
    have hx : tN (vs T (a + 5) 0) < ac := by
      have h6 : (mx ac 3 0).toInt = (ac : Int) - 1 := by
        show (nI ac - nI 1).toInt = _
        rw [zsubI (by omega) (by decide)]; rfl
      have h7 := g0.2.2
      rw [h6] at h7
      have h8 : ((tN (vs T (a + 5) 0) : Nat) : Int) ≤ (ac : Int) - 1 := h7
      omega
    obtain ⟨q1, q2, q3⟩ := fst_s ho hac4 hx g0.1 (hs _ hx)
    rw [e0]
    have key := t_X2_item_d3 (r := zX σ 42) hl ht hq ha hn hn8 hac hac4 hy hy8 h0 h1 h2 h3 hall (od := od) ho q1 q2 q3 g0.1
    rw [e38] at key ⊢
    exact key

theorem it_t {σ : zSt} {n ac y q a : Nat} {T : Nat → Int32} (D : DI σ n ac y) (ht : zTx σ q T) (hq : q < 34) (ha : a < 2 ^ 29) (e1 : zX σ 34 2 = nI a) (e2 : zX σ 34 3 = (-1)) : Dt mX2_readItem [.ref 34, .ref q] σ none (itG T σ a n ac y) := by
  have key : Dt mX2_readItem [.ref 34, .ref q] (tS σ a (-1) (zX σ 42)) none (itG T σ a n ac y) := by
    have h4 := wd_4 (T := T) (a := a)
    have : wd T a = 0 ∨ wd T a = 1 ∨ wd T a = 2 ∨ wd T a = 3 ∨ wd T a = 4 := by omega
    rcases this with hw | hw | hw | hw | hw
    · exact it_t0 D ht hq ha hw rfl
    · exact it_t1 D ht hq ha hw rfl
    · exact it_t2 D ht hq ha hw rfl
    · exact it_t3 D ht hq ha hw rfl
    · obtain ⟨hl, hn, hn8, hac, hac4, hy, hy8, hcl, od, ho, hs⟩ := D
      obtain ⟨h0, h1, h2, -, h3⟩ := wd_s3 (T := T) (a := a) (by omega)
      unfold itG
      rw [if_pos hw]
      exact t_X2_item_a hl ht hq ha hn hn8 hac hac4 hy hy8 h0 h1 h2 (h3 hw)
  rwa [tS_id e1 e2] at key