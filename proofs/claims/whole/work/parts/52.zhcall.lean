/-! houses read: what is kept, the two calls -/
theorem cpy_inG {f g : Nat → Int32} {sp dp n j : Nat} (h : dp ≤ j) (h2 : j < dp + n) : va_cpy f g sp dp n j = f (sp + (j - dp)) := if_pos ⟨h, h2⟩
/-- what the model keeps, at one place -/
def svX (σ : zSt) (k n a y : Nat) : Nat → Int32 := upd (upd (upd (upd (va_cpy (zX σ 53) (va_cpy (zX σ 52) (va_cpy (zX σ 51) (va_cpy (zX σ 50) (va_cpy (zX σ 49) (va_cpy (zX σ 48) (va_cpy (zX σ 47) (zX σ k) 0 0 48) 0 48 4) 0 52 4) 0 56 4) 0 60 4) 0 64 8) 0 72 8) 80 (nI n)) (80 + 1) (nI a)) (80 + 2) (nI y)) (80 + 3) (zX σ 45 3)

theorem MK.save {σ : zSt} {k : Nat} {d : HD} (h : MH σ d) (hW : HW d) (hk : k ≠ 45) : MK (zuX σ k (svX σ k (Hn d) (Ha d) (Hy d))) k d := by
  obtain ⟨⟨a1, a2, a3, a4⟩, ⟨b1, b2, b3, b4, b5⟩, c⟩ := h
  obtain ⟨⟨n8, a8, y8⟩, -⟩ := hW
  unfold MK
  rw [zX_self]
  unfold svX
  refine ⟨fun j hj => ?_, fun b hb => ⟨?_, ?_, ?_, ?_⟩, fun w hw => ⟨?_, ?_⟩, ?_, ?_, ?_, ?_⟩
  · rw [upd_ne (by omega), upd_ne (by omega), upd_ne (by omega), upd_ne (by omega), cpy_out (by omega), cpy_out (by omega), cpy_out (by omega), cpy_out (by omega), cpy_out (by omega), cpy_out (by omega), cpy_inG (by omega) (by omega), b1, Nat.sub_zero, Nat.zero_add]
  · rw [upd_ne (by omega), upd_ne (by omega), upd_ne (by omega), upd_ne (by omega), cpy_out (by omega), cpy_out (by omega), cpy_out (by omega), cpy_out (by omega), cpy_out (by omega), cpy_inG (by omega) (by omega), b2, Nat.add_sub_cancel_left, Nat.zero_add]
  · rw [upd_ne (by omega), upd_ne (by omega), upd_ne (by omega), upd_ne (by omega), cpy_out (by omega), cpy_out (by omega), cpy_out (by omega), cpy_out (by omega), cpy_inG (by omega) (by omega), b3, Nat.add_sub_cancel_left, Nat.zero_add]
  · rw [upd_ne (by omega), upd_ne (by omega), upd_ne (by omega), upd_ne (by omega), cpy_out (by omega), cpy_out (by omega), cpy_out (by omega), cpy_inG (by omega) (by omega), b4, Nat.add_sub_cancel_left, Nat.zero_add]
  · rw [upd_ne (by omega), upd_ne (by omega), upd_ne (by omega), upd_ne (by omega), cpy_out (by omega), cpy_out (by omega), cpy_inG (by omega) (by omega), b5, Nat.add_sub_cancel_left, Nat.zero_add]
  · rw [upd_ne (by omega), upd_ne (by omega), upd_ne (by omega), upd_ne (by omega), cpy_out (by omega), cpy_inG (by omega) (by omega), Nat.add_sub_cancel_left, Nat.zero_add]; exact (c w hw).1
  · rw [upd_ne (by omega), upd_ne (by omega), upd_ne (by omega), upd_ne (by omega), cpy_inG (by omega) (by omega), Nat.add_sub_cancel_left, Nat.zero_add]; exact (c w hw).2
  · rw [upd_ne (by decide), upd_ne (by decide), upd_ne (by decide), upd_self]
  · rw [upd_ne (by decide), upd_ne (by decide), upd_self]
  · rw [upd_ne (by decide), upd_self]
  · rw [upd_self]; exact a4

/-- the model's house taken back -/
def bkS (σ : zSt) (k : Nat) : zSt := zuX (zuX (zuX (zuX (zuX (zuX (zuX (zuX σ 47 (va_cpy (zX σ k) (zX σ 47) 0 0 48)) 48 (va_cpy (zX σ k) (zX σ 48) 48 0 4)) 49 (va_cpy (zX σ k) (zX σ 49) 52 0 4)) 50 (va_cpy (zX σ k) (zX σ 50) 56 0 4)) 51 (va_cpy (zX σ k) (zX σ 51) 60 0 4)) 52 (va_cpy (zX σ k) (zX σ 52) 64 0 8)) 53 (va_cpy (zX σ k) (zX σ 53) 72 0 8)) 45 (upd (upd (upd (upd (zX σ 45) 0 (zX σ k 80)) 1 (zX σ k (80 + 1))) 2 (zX σ k (80 + 2))) 3 (zX σ k (80 + 3)))
theorem MH.back {σ : zSt} {k : Nat} {d e : HD} (hk : MK σ k d) (hd : HW d) (hm : MH σ e) (he : HW e) : MH (bkS σ k) d := by
  obtain ⟨-, ⟨b1, b2, b3, b4, b5⟩, -⟩ := hm
  obtain ⟨k1, k2, k3, k4, k5, k6, k7⟩ := hk
  have hy8 : ∀ w, w < Hy d → w < 8 := fun w hw => Nat.lt_of_lt_of_le hw hd.1.2.2
  obtain ⟨-, -, d1, -, d2, -, d3, -⟩ := hd
  obtain ⟨-, -, e1, -, e2, -, e3, -⟩ := he
  refine ⟨⟨k4, k5, k6, k7⟩, ⟨?_, ?_, ?_, ?_, ?_⟩, fun w hw => ?_⟩
  · show va_cpy (zX σ k) (zX σ 47) 0 0 48 = HF d
    funext j
    rcases Nat.lt_or_ge j 48 with h | h
    · rw [cpy_inG (by omega) (by omega), Nat.sub_zero, Nat.zero_add]; exact k1 j h
    · rw [cpy_out (by omega), b1, e1 j h, d1 j h]
  · show va_cpy (zX σ k) (zX σ 48) 48 0 4 = fun b => HA d (b * 3)
    funext j
    rcases Nat.lt_or_ge j 4 with h | h
    · rw [cpy_inG (by omega) (by omega), Nat.sub_zero]; exact (k2 j h).1
    · rw [cpy_out (by omega), b2]; exact (e2 (j * 3) (by omega)).trans (d2 (j * 3) (by omega)).symm
  · show va_cpy (zX σ k) (zX σ 49) 52 0 4 = fun b => HA d (b * 3 + 1)
    funext j
    rcases Nat.lt_or_ge j 4 with h | h
    · rw [cpy_inG (by omega) (by omega), Nat.sub_zero]; exact (k2 j h).2.1
    · rw [cpy_out (by omega), b3]; exact (e2 (j * 3 + 1) (by omega)).trans (d2 (j * 3 + 1) (by omega)).symm
  · show va_cpy (zX σ k) (zX σ 50) 56 0 4 = fun b => HA d (b * 3 + 2)
    funext j
    rcases Nat.lt_or_ge j 4 with h | h
    · rw [cpy_inG (by omega) (by omega), Nat.sub_zero]; exact (k2 j h).2.2.1
    · rw [cpy_out (by omega), b4]; exact (e2 (j * 3 + 2) (by omega)).trans (d2 (j * 3 + 2) (by omega)).symm
  · show va_cpy (zX σ k) (zX σ 51) 60 0 4 = HO d
    funext j
    rcases Nat.lt_or_ge j 4 with h | h
    · rw [cpy_inG (by omega) (by omega), Nat.sub_zero]; exact (k2 j h).2.2.2
    · rw [cpy_out (by omega), b5, e3 _ h, d3 _ h]
  · show va_cpy (zX σ k) (zX σ 52) 64 0 8 w = nI (Hk d w) ∧ va_cpy (zX σ k) (zX σ 53) 72 0 8 w = nI (Hp d w)
    rw [cpy_inG (by omega) (by have := hy8 w hw; omega), cpy_inG (by omega) (by have := hy8 w hw; omega), Nat.sub_zero]
    exact k3 w hw

/-- the model's call house touches no more -/
def hFr (σ τ : zSt) : Prop := (zN τ = zN σ ∧ zK τ = zK σ ∧ zL τ = zL σ ∧ zR τ = zR σ ∧ zY τ = zY σ) ∧ (∀ k, ¬ (k = 45 ∨ k = 46 ∨ (47 ≤ k ∧ k ≤ 53) ∨ k = 61 ∨ k = 62) → zX τ k = zX σ k) ∧ ∀ f, ¬ (f < 5 ∨ (21 ≤ f ∧ f ≤ 25)) → zX τ 45 f = zX σ 45 f
theorem hFr.tr {σ τ υ : zSt} (h : hFr σ τ) (g : hFr τ υ) : hFr σ υ :=
  ⟨⟨g.1.1.trans h.1.1, g.1.2.1.trans h.1.2.1, g.1.2.2.1.trans h.1.2.2.1, g.1.2.2.2.1.trans h.1.2.2.2.1, g.1.2.2.2.2.trans h.1.2.2.2.2⟩, fun k hk => (g.2.1 k hk).trans (h.2.1 k hk), fun f hf => (g.2.2 f hf).trans (h.2.2 f hf)⟩
theorem hFr.m {σ τ : zSt} (h : mFr σ τ) : hFr σ τ := ⟨h.1, fun k hk => h.2.1 k (by omega), fun f hf => h.2.2 f (by omega)⟩
theorem hFr.u {σ : zSt} {k : Nat} {f : Nat → Int32} (hk : k = 46 ∨ (47 ≤ k ∧ k ≤ 53) ∨ k = 61 ∨ k = 62) : hFr σ (zuX σ k f) :=
  ⟨⟨rfl, rfl, rfl, rfl, rfl⟩, fun j hj => zX_n (by omega), fun _ _ => by rw [zX_n (by omega)]⟩
theorem hFr.c {σ : zSt} {i : Nat} {v : Int32} (hi : i < 5 ∨ (21 ≤ i ∧ i ≤ 25)) : hFr σ (zuX σ 45 (upd (zX σ 45) i v)) :=
  ⟨⟨rfl, rfl, rfl, rfl, rfl⟩, fun j hj => zX_n (by omega), fun f hf => by rw [zX_self, upd_ne (by omega)]⟩
theorem hFr.b {σ : zSt} {k : Nat} : hFr σ (bkS σ k) := by
  refine ⟨⟨rfl, rfl, rfl, rfl, rfl⟩, fun j hj => ?_, fun f hf => ?_⟩
  · unfold bkS
    rw [zX_n (by omega), zX_n (by omega), zX_n (by omega), zX_n (by omega), zX_n (by omega), zX_n (by omega), zX_n (by omega), zX_n (by omega)]
  · unfold bkS
    rw [zX_self, upd_ne (by omega), upd_ne (by omega), upd_ne (by omega), upd_ne (by omega)]
/-- the model's reading begun -/
def hB0 (σ : zSt) (s m : Nat) (d : HD) : zSt := zuX (zuX σ 62 (svX σ 62 (Hn d) (Ha d) (Hy d))) 45 (upd (upd (upd (upd (zX σ 45) 21 (nI (s * 160))) 22 (nI 0)) 23 (nI m)) 4 (-1))
theorem hB0.fr {σ : zSt} {s m : Nat} {d : HD} : hFr σ (hB0 σ s m d) := by
  refine ⟨⟨rfl, rfl, rfl, rfl, rfl⟩, fun j hj => ?_, fun f hf => ?_⟩
  · unfold hB0; rw [zX_n (by omega), zX_n (by omega)]
  · unfold hB0; rw [zX_self, upd_ne (by omega), upd_ne (by omega), upd_ne (by omega), upd_ne (by omega)]
theorem hB0.mh {σ : zSt} {s m : Nat} {d : HD} (h : MH σ d) : MH (hB0 σ s m d) d := by
  obtain ⟨⟨a1, a2, a3, a4⟩, ⟨b1, b2, b3, b4, b5⟩, c⟩ := h
  exact ⟨⟨a1, a2, a3, a4⟩, ⟨b1, b2, b3, b4, b5⟩, c⟩
theorem hB0.mk {σ : zSt} {s m : Nat} {d : HD} (h : MH σ d) (hW : HW d) : MK (hB0 σ s m d) 62 d := by
  have h1 := MK.save (k := 62) h hW (by decide)
  unfold MK
  rw [show zX (hB0 σ s m d) 62 = zX (zuX σ 62 (svX σ 62 (Hn d) (Ha d) (Hy d))) 62 from rfl]
  exact h1
theorem MK.m {σ τ : zSt} {d : HD} (h : MK σ 62 d) (g : mFr σ τ) : MK τ 62 d := by
  unfold MK
  rw [g.2.1 62 (by decide)]
  exact h

theorem t_M_house_ok {σ : zSt} {d : HD} {s o m : Nat} {T : Nat → Int32} (hl : Lay σ) (hM : MH σ d) (hW : HW d) (hs : s < 8) (hh : zMr σ s o m) (hT : ∀ i, T i = if i < m then (zY σ 58 (s * 160 + i)).toInt32 else nI 0) (hwd : ∀ j, j < 26 → zX σ 60 j = nI (wds j)) (hF : (pr T m (m + 1) 0 d).1 = none) : Ct mX12_house [.ref 45, .int (nI s)] σ (fun r τ => r = some (.int (nI (pr T m (m + 1) 0 d).2.1)) ∧ MH τ (pr T m (m + 1) 0 d).2.2 ∧ zX τ 45 4 = (-1) ∧ hFr σ τ ∧ zX τ 46 = zX σ 46) := by
  have H := hM.md hl hW
  have hm160 := hh.2.2.2.2
  have hl1 : Lay (hB0 σ s m d) := hl
  have hM1 : MH (hB0 σ s m d) d := hB0.mh hM
  have hK1 : MK (hB0 σ s m d) 62 d := hB0.mk hM hW
  have ht1 : zTm (hB0 σ s m d) s m T := ⟨⟨hs, hm160⟩, ⟨rfl, rfl⟩, hT, hwd⟩
  have hf1 : hFr σ (hB0 σ s m d) := hB0.fr
  have e46 : zX (hB0 σ s m d) 46 = zX σ 46 := rfl
  refine Ct.of (by decide) (Nat.le_of_ble_eq_true rfl) fun κ B Rt => ?_
  show Z κ 0 0 σ 0 [(0, .ref 45), (1, .int (nI s))] []
  refine Z.aload_n B dX12_house_0 (v := .ref 45) rfl rfl ?_
  refine Z.iload_n B dX12_house_1 (x := nI s) rfl ?_
  refine Z.callVI (σ := σ) B (M' := mX12_wants) (as := [.int (nI s)]) (st := []) (v := .int (nI 0)) dX12_house_2 wX12_wants iX12_wants sX12_wants kX12_111 (hl.n (k := 45) (by decide)) (hl.k (k := 45) (by decide)) (by decide) rfl rfl (t_X12_wants_1 (σ := σ) hl hs hh.1) rfl rfl (by decide) (by decide) (Nat.le_of_ble_eq_true rfl) (by decide) (by decide) ?_
  refine Z.istore_n B dX12_house_5 (by decide) (L' := [(0, .ref 45), (1, .int (nI s)), (2, .int (nI 0))]) rfl ?_
  refine Z.iload_n B dX12_house_6 (x := nI 0) rfl ?_
  refine Z.if_eqN B dX12_house_7 (tgt := 16) rfl (by omega) (fun h7 => ?_) (fun h7 => by exfalso; first | omega | contradiction | simp_all)
  refine Z.aload_n B dX12_house_16 (v := .ref 45) rfl rfl ?_
  refine Z.aload_n B dX12_house_17 (v := .ref 45) rfl rfl ?_
  refine Z.getR (σ := σ) B fX12_66_12 dX12_house_18 (hl.n (k := 45) (by decide)) (hl.k (k := 45) (by decide)) (by decide) (j := 62) (hl.r (k := 45) (f := 26) (by decide) (by decide)) ?_
  refine Z.iconst B dX12_house_21 (v := nI 0) rfl ?_
  have efalse : nI 0 = zb false := rfl
  refine Z.callVN (σ := σ) B (M' := mX12_all) (as := [.ref 62, .int (zb false)]) (st := []) dX12_house_22 wX12_all iX12_all sX12_all kX12_179 (hl.n (k := 45) (by decide)) (hl.k (k := 45) (by decide)) (by decide) rfl rfl (t_M_all_s_62 (σ := σ) hl H) rfl rfl (by decide) (by decide) (Nat.le_of_ble_eq_true rfl) (by decide) (by decide) ?_
  refine Z.eqσ (τ := (zuX σ 62 (svX σ 62 (Hn d) (Ha d) (Hy d)))) rfl ?_
  refine Z.aload_n B dX12_house_25 (v := .ref 45) rfl rfl ?_
  refine Z.sipush B dX12_house_26 (v := nI 160) rfl ?_
  refine Z.iload_n B dX12_house_29 (x := nI s) rfl ?_
  refine Z.imulNc B dX12_house_30 (a := 160) (b := s) ?_
  refine Z.putI (σ := (zuX σ 62 (svX σ 62 (Hn d) (Ha d) (Hy d)))) B fX12_147_12 (ty := .int) ⟨_, _, _, rfl, rfl, by decide +kernel⟩ dX12_house_31 (hl.n (k := 45) (by decide)) (hl.k (k := 45) (by decide)) (by decide) rfl rfl (τ := (zuX (zuX σ 62 (svX σ 62 (Hn d) (Ha d) (Hy d))) 45 (upd (zX σ 45) 21 (nI (s * 160))))) rfl ?_
  refine Z.aload_n B dX12_house_34 (v := .ref 45) rfl rfl ?_
  refine Z.iconst B dX12_house_35 (v := nI 0) rfl ?_
  refine Z.putI (σ := (zuX (zuX σ 62 (svX σ 62 (Hn d) (Ha d) (Hy d))) 45 (upd (zX σ 45) 21 (nI (s * 160))))) B fX12_141_12 (ty := .int) ⟨_, _, _, rfl, rfl, by decide +kernel⟩ dX12_house_36 (hl.n (k := 45) (by decide)) (hl.k (k := 45) (by decide)) (by decide) rfl rfl (τ := (zuX (zuX σ 62 (svX σ 62 (Hn d) (Ha d) (Hy d))) 45 (upd (upd (zX σ 45) 21 (nI (s * 160))) 22 (nI 0)))) (by simp only [zX_self, zuX_uX]) ?_
  refine Z.aload_n B dX12_house_39 (v := .ref 45) rfl rfl ?_
  refine Z.aload_n B dX12_house_40 (v := .ref 45) rfl rfl ?_
  refine Z.getR (σ := (zuX (zuX σ 62 (svX σ 62 (Hn d) (Ha d) (Hy d))) 45 (upd (upd (zX σ 45) 21 (nI (s * 160))) 22 (nI 0)))) B fX12_47_12 dX12_house_41 (hl.n (k := 45) (by decide)) (hl.k (k := 45) (by decide)) (by decide) (j := 56) (hl.r (k := 45) (f := 15) (by decide) (by decide)) ?_
  refine Z.iload_n B dX12_house_44 (x := nI s) rfl ?_
  refine Z.iald (σ := (zuX (zuX σ 62 (svX σ 62 (Hn d) (Ha d) (Hy d))) 45 (upd (upd (zX σ 45) 21 (nI (s * 160))) 22 (nI 0)))) B dX12_house_45 (n := 8) (hl.n (k := 56) (by decide)) (hl.k (k := 56) (by decide)) (hl.l (k := 56) (by decide)) (by decide) (j := s) rfl (by omega) (v := nI m) hh.2.2.2.1 ?_
  refine Z.putI (σ := (zuX (zuX σ 62 (svX σ 62 (Hn d) (Ha d) (Hy d))) 45 (upd (upd (zX σ 45) 21 (nI (s * 160))) 22 (nI 0)))) B fX12_144_12 (ty := .int) ⟨_, _, _, rfl, rfl, by decide +kernel⟩ dX12_house_46 (hl.n (k := 45) (by decide)) (hl.k (k := 45) (by decide)) (by decide) rfl rfl (τ := (zuX (zuX σ 62 (svX σ 62 (Hn d) (Ha d) (Hy d))) 45 (upd (upd (upd (zX σ 45) 21 (nI (s * 160))) 22 (nI 0)) 23 (nI m)))) (by simp only [zX_self, zuX_uX]) ?_
  refine Z.aload_n B dX12_house_49 (v := .ref 45) rfl rfl ?_
  refine Z.iconst B dX12_house_50 (v := (-1)) rfl ?_
  refine Z.putI (σ := (zuX (zuX σ 62 (svX σ 62 (Hn d) (Ha d) (Hy d))) 45 (upd (upd (upd (zX σ 45) 21 (nI (s * 160))) 22 (nI 0)) 23 (nI m)))) B fX12_13_12 (ty := .int) ⟨_, _, _, rfl, rfl, by decide +kernel⟩ dX12_house_51 (hl.n (k := 45) (by decide)) (hl.k (k := 45) (by decide)) (by decide) rfl rfl (τ := (zuX (zuX σ 62 (svX σ 62 (Hn d) (Ha d) (Hy d))) 45 (upd (upd (upd (upd (zX σ 45) 21 (nI (s * 160))) 22 (nI 0)) 23 (nI m)) 4 (-1)))) (by simp only [zX_self, zuX_uX]) ?_
  refine Z.iconst B dX12_house_54 (v := nI 1) rfl ?_
  refine Z.eqσ (τ := hB0 σ s m d) rfl ?_
  refine Z.istore_n B dX12_house_55 (by decide) (L' := [(0, .ref 45), (1, .int (nI s)), (2, .int (nI 0)), (3, .int (nI 1))]) rfl ?_
  refine Z.aload_n B dX12_house_56 (v := .ref 45) rfl rfl ?_
  rcases hB : ipB T 0 d with _ | x1
  · skip
    refine Z.callVE (σ := (hB0 σ s m d)) B (M' := mX12_item) (as := []) (st := []) dX12_house_57 wX12_item iX12_item sX12_item kX12_183 (hl1.n (k := 45) (by decide)) (hl1.k (k := 45) (by decide)) (by decide) rfl rfl (it_Mg (σ := (hB0 σ s m d)) (a := 0) hl1 ht1 hM1 hW (by decide) rfl hB) rfl rfl (by decide) (by decide) (Nat.le_of_ble_eq_true rfl) (by decide) (by decide) ?_
    rintro τ ⟨hM2, h222, hf2⟩
    refine Z.istore B dX12_house_60 (by decide) (L' := [(0, .ref 45), (1, .int (nI s)), (2, .int (nI 0)), (3, .int (nI 1)), (4, .int (nI 1))]) rfl ?_
    have hlt := itN_lt hB
    have hle := itN_le (T := T) (a := 0)
    refine go_M B ht1 m τ (ipD T 0 d) (itN T 0) 1 (hl1.m hf2) hM2 (hW.ip hB) (ht1.m hf2) h222 hf2 hlt (by omega) (by omega) (fun υ g1 g2 g3 => ?_)
    have hpr := pr_g (m := m) (f := m) hB
    have hrs : (rs T m m (itN T 0) (ipD T 0 d)).1 = none := by have := hF; rw [hpr] at this; exact this
    rw [show gb (rs T m m (itN T 0) (ipD T 0 d)).1 = 1 by rw [hrs]; rfl]
    have hl2 : Lay υ := hl1.m g3
    refine Z.iload B dX12_house_133 (x := nI 1) rfl ?_
    refine Z.if_eqN B dX12_house_135 (tgt := 140) rfl (by omega) (fun h135 => by exfalso; first | omega | contradiction | simp_all) (fun h135 => ?_)
    refine Z.iload_n B dX12_house_138 (x := nI (1 + (rs T m m (itN T 0) (ipD T 0 d)).2.1)) rfl ?_
    refine Z.iret B Rt dX12_house_139 (ty := .int) rfl rfl (by decide) (by decide) ?_
    exact ⟨by rw [hpr, Nat.add_comm], by rw [hpr]; exact g1, (g3.2.2 4 (by decide)).trans rfl, hf1.tr (hFr.m g3), (g3.2.1 46 (by decide)).trans e46⟩
  · skip
    rw [pr_b hB] at hF; cases hF

theorem t_M_house_bad {σ : zSt} {d : HD} {s o m x : Nat} {T : Nat → Int32} (hl : Lay σ) (hM : MH σ d) (hW : HW d) (hs : s < 8) (hh : zMr σ s o m) (hT : ∀ i, T i = if i < m then (zY σ 58 (s * 160 + i)).toInt32 else nI 0) (hwd : ∀ j, j < 26 → zX σ 60 j = nI (wds j)) (hF : (pr T m (m + 1) 0 d).1 = some x) : Ct mX12_house [.ref 45, .int (nI s)] σ (fun r τ => r = some (.int (-6)) ∧ MH τ d ∧ zX τ 45 4 = nI x ∧ hFr σ τ ∧ zX τ 46 = upd (zX σ 46) 6 (zX σ 46 6 + nI 1)) := by
  have H := hM.md hl hW
  have hm160 := hh.2.2.2.2
  have hl1 : Lay (hB0 σ s m d) := hl
  have hM1 : MH (hB0 σ s m d) d := hB0.mh hM
  have hK1 : MK (hB0 σ s m d) 62 d := hB0.mk hM hW
  have ht1 : zTm (hB0 σ s m d) s m T := ⟨⟨hs, hm160⟩, ⟨rfl, rfl⟩, hT, hwd⟩
  have hf1 : hFr σ (hB0 σ s m d) := hB0.fr
  have e46 : zX (hB0 σ s m d) 46 = zX σ 46 := rfl
  refine Ct.of (by decide) (Nat.le_of_ble_eq_true rfl) fun κ B Rt => ?_
  show Z κ 0 0 σ 0 [(0, .ref 45), (1, .int (nI s))] []
  refine Z.aload_n B dX12_house_0 (v := .ref 45) rfl rfl ?_
  refine Z.iload_n B dX12_house_1 (x := nI s) rfl ?_
  refine Z.callVI (σ := σ) B (M' := mX12_wants) (as := [.int (nI s)]) (st := []) (v := .int (nI 0)) dX12_house_2 wX12_wants iX12_wants sX12_wants kX12_111 (hl.n (k := 45) (by decide)) (hl.k (k := 45) (by decide)) (by decide) rfl rfl (t_X12_wants_1 (σ := σ) hl hs hh.1) rfl rfl (by decide) (by decide) (Nat.le_of_ble_eq_true rfl) (by decide) (by decide) ?_
  refine Z.istore_n B dX12_house_5 (by decide) (L' := [(0, .ref 45), (1, .int (nI s)), (2, .int (nI 0))]) rfl ?_
  refine Z.iload_n B dX12_house_6 (x := nI 0) rfl ?_
  refine Z.if_eqN B dX12_house_7 (tgt := 16) rfl (by omega) (fun h7 => ?_) (fun h7 => by exfalso; first | omega | contradiction | simp_all)
  refine Z.aload_n B dX12_house_16 (v := .ref 45) rfl rfl ?_
  refine Z.aload_n B dX12_house_17 (v := .ref 45) rfl rfl ?_
  refine Z.getR (σ := σ) B fX12_66_12 dX12_house_18 (hl.n (k := 45) (by decide)) (hl.k (k := 45) (by decide)) (by decide) (j := 62) (hl.r (k := 45) (f := 26) (by decide) (by decide)) ?_
  refine Z.iconst B dX12_house_21 (v := nI 0) rfl ?_
  have efalse : nI 0 = zb false := rfl
  refine Z.callVN (σ := σ) B (M' := mX12_all) (as := [.ref 62, .int (zb false)]) (st := []) dX12_house_22 wX12_all iX12_all sX12_all kX12_179 (hl.n (k := 45) (by decide)) (hl.k (k := 45) (by decide)) (by decide) rfl rfl (t_M_all_s_62 (σ := σ) hl H) rfl rfl (by decide) (by decide) (Nat.le_of_ble_eq_true rfl) (by decide) (by decide) ?_
  refine Z.eqσ (τ := (zuX σ 62 (svX σ 62 (Hn d) (Ha d) (Hy d)))) rfl ?_
  refine Z.aload_n B dX12_house_25 (v := .ref 45) rfl rfl ?_
  refine Z.sipush B dX12_house_26 (v := nI 160) rfl ?_
  refine Z.iload_n B dX12_house_29 (x := nI s) rfl ?_
  refine Z.imulNc B dX12_house_30 (a := 160) (b := s) ?_
  refine Z.putI (σ := (zuX σ 62 (svX σ 62 (Hn d) (Ha d) (Hy d)))) B fX12_147_12 (ty := .int) ⟨_, _, _, rfl, rfl, by decide +kernel⟩ dX12_house_31 (hl.n (k := 45) (by decide)) (hl.k (k := 45) (by decide)) (by decide) rfl rfl (τ := (zuX (zuX σ 62 (svX σ 62 (Hn d) (Ha d) (Hy d))) 45 (upd (zX σ 45) 21 (nI (s * 160))))) rfl ?_
  refine Z.aload_n B dX12_house_34 (v := .ref 45) rfl rfl ?_
  refine Z.iconst B dX12_house_35 (v := nI 0) rfl ?_
  refine Z.putI (σ := (zuX (zuX σ 62 (svX σ 62 (Hn d) (Ha d) (Hy d))) 45 (upd (zX σ 45) 21 (nI (s * 160))))) B fX12_141_12 (ty := .int) ⟨_, _, _, rfl, rfl, by decide +kernel⟩ dX12_house_36 (hl.n (k := 45) (by decide)) (hl.k (k := 45) (by decide)) (by decide) rfl rfl (τ := (zuX (zuX σ 62 (svX σ 62 (Hn d) (Ha d) (Hy d))) 45 (upd (upd (zX σ 45) 21 (nI (s * 160))) 22 (nI 0)))) (by simp only [zX_self, zuX_uX]) ?_
  refine Z.aload_n B dX12_house_39 (v := .ref 45) rfl rfl ?_
  refine Z.aload_n B dX12_house_40 (v := .ref 45) rfl rfl ?_
  refine Z.getR (σ := (zuX (zuX σ 62 (svX σ 62 (Hn d) (Ha d) (Hy d))) 45 (upd (upd (zX σ 45) 21 (nI (s * 160))) 22 (nI 0)))) B fX12_47_12 dX12_house_41 (hl.n (k := 45) (by decide)) (hl.k (k := 45) (by decide)) (by decide) (j := 56) (hl.r (k := 45) (f := 15) (by decide) (by decide)) ?_
  refine Z.iload_n B dX12_house_44 (x := nI s) rfl ?_
  refine Z.iald (σ := (zuX (zuX σ 62 (svX σ 62 (Hn d) (Ha d) (Hy d))) 45 (upd (upd (zX σ 45) 21 (nI (s * 160))) 22 (nI 0)))) B dX12_house_45 (n := 8) (hl.n (k := 56) (by decide)) (hl.k (k := 56) (by decide)) (hl.l (k := 56) (by decide)) (by decide) (j := s) rfl (by omega) (v := nI m) hh.2.2.2.1 ?_
  refine Z.putI (σ := (zuX (zuX σ 62 (svX σ 62 (Hn d) (Ha d) (Hy d))) 45 (upd (upd (zX σ 45) 21 (nI (s * 160))) 22 (nI 0)))) B fX12_144_12 (ty := .int) ⟨_, _, _, rfl, rfl, by decide +kernel⟩ dX12_house_46 (hl.n (k := 45) (by decide)) (hl.k (k := 45) (by decide)) (by decide) rfl rfl (τ := (zuX (zuX σ 62 (svX σ 62 (Hn d) (Ha d) (Hy d))) 45 (upd (upd (upd (zX σ 45) 21 (nI (s * 160))) 22 (nI 0)) 23 (nI m)))) (by simp only [zX_self, zuX_uX]) ?_
  refine Z.aload_n B dX12_house_49 (v := .ref 45) rfl rfl ?_
  refine Z.iconst B dX12_house_50 (v := (-1)) rfl ?_
  refine Z.putI (σ := (zuX (zuX σ 62 (svX σ 62 (Hn d) (Ha d) (Hy d))) 45 (upd (upd (upd (zX σ 45) 21 (nI (s * 160))) 22 (nI 0)) 23 (nI m)))) B fX12_13_12 (ty := .int) ⟨_, _, _, rfl, rfl, by decide +kernel⟩ dX12_house_51 (hl.n (k := 45) (by decide)) (hl.k (k := 45) (by decide)) (by decide) rfl rfl (τ := (zuX (zuX σ 62 (svX σ 62 (Hn d) (Ha d) (Hy d))) 45 (upd (upd (upd (upd (zX σ 45) 21 (nI (s * 160))) 22 (nI 0)) 23 (nI m)) 4 (-1)))) (by simp only [zX_self, zuX_uX]) ?_
  refine Z.iconst B dX12_house_54 (v := nI 1) rfl ?_
  refine Z.eqσ (τ := hB0 σ s m d) rfl ?_
  refine Z.istore_n B dX12_house_55 (by decide) (L' := [(0, .ref 45), (1, .int (nI s)), (2, .int (nI 0)), (3, .int (nI 1))]) rfl ?_
  refine Z.aload_n B dX12_house_56 (v := .ref 45) rfl rfl ?_
  rcases hB : ipB T 0 d with _ | x1
  · skip
    refine Z.callVE (σ := (hB0 σ s m d)) B (M' := mX12_item) (as := []) (st := []) dX12_house_57 wX12_item iX12_item sX12_item kX12_183 (hl1.n (k := 45) (by decide)) (hl1.k (k := 45) (by decide)) (by decide) rfl rfl (it_Mg (σ := (hB0 σ s m d)) (a := 0) hl1 ht1 hM1 hW (by decide) rfl hB) rfl rfl (by decide) (by decide) (Nat.le_of_ble_eq_true rfl) (by decide) (by decide) ?_
    rintro τ ⟨hM2, h222, hf2⟩
    refine Z.istore B dX12_house_60 (by decide) (L' := [(0, .ref 45), (1, .int (nI s)), (2, .int (nI 0)), (3, .int (nI 1)), (4, .int (nI 1))]) rfl ?_
    have hlt := itN_lt hB
    have hle := itN_le (T := T) (a := 0)
    refine go_M B ht1 m τ (ipD T 0 d) (itN T 0) 1 (hl1.m hf2) hM2 (hW.ip hB) (ht1.m hf2) h222 hf2 hlt (by omega) (by omega) (fun υ g1 g2 g3 => ?_)
    have hpr := pr_g (m := m) (f := m) hB
    have hrs : (rs T m m (itN T 0) (ipD T 0 d)).1 = some x := by have := hF; rw [hpr] at this; exact this
    rw [show gb (rs T m m (itN T 0) (ipD T 0 d)).1 = 0 by rw [hrs]; rfl]
    have hl2 : Lay υ := hl1.m g3
    have hx2 : zX υ 45 25 = nI x := g2 x hrs
    have hW2 : HW (rs T m m (itN T 0) (ipD T 0 d)).2.2 := by have := (HW.all (T := T) (m := m) (m + 1) 0 d hW); rw [hpr] at this; exact this
    have hM2 := g1
    have hf2 := g3
    refine Z.iload B dX12_house_133 (x := nI 0) rfl ?_
    refine Z.if_eqN B dX12_house_135 (tgt := 140) rfl (by omega) (fun h135 => ?_) (fun h135 => by exfalso; first | omega | contradiction | simp_all)
    refine Z.aload_n B dX12_house_140 (v := .ref 45) rfl rfl ?_
    refine Z.aload_n B dX12_house_141 (v := .ref 45) rfl rfl ?_
    refine Z.getR (σ := υ) B fX12_66_12 dX12_house_142 (hl2.n (k := 45) (by decide)) (hl2.k (k := 45) (by decide)) (by decide) (j := 62) (hl2.r (k := 45) (f := 26) (by decide) (by decide)) ?_
    refine Z.iconst B dX12_house_145 (v := nI 1) rfl ?_
    have etrue : nI 1 = zb true := rfl
    refine Z.callVN (σ := υ) B (M' := mX12_all) (as := [.ref 62, .int (zb true)]) (st := []) dX12_house_146 wX12_all iX12_all sX12_all kX12_179 (hl2.n (k := 45) (by decide)) (hl2.k (k := 45) (by decide)) (by decide) rfl rfl (t_M_all_b_62 (σ := υ) hl2) rfl rfl (by decide) (by decide) (Nat.le_of_ble_eq_true rfl) (by decide) (by decide) ?_
    refine Z.eqσ (τ := (zuX (zuX (zuX (zuX (zuX (zuX (zuX (zuX υ 47 (va_cpy (zX υ 62) (zX υ 47) 0 0 48)) 48 (va_cpy (zX υ 62) (zX υ 48) 48 0 4)) 49 (va_cpy (zX υ 62) (zX υ 49) 52 0 4)) 50 (va_cpy (zX υ 62) (zX υ 50) 56 0 4)) 51 (va_cpy (zX υ 62) (zX υ 51) 60 0 4)) 52 (va_cpy (zX υ 62) (zX υ 52) 64 0 8)) 53 (va_cpy (zX υ 62) (zX υ 53) 72 0 8)) 45 (upd (upd (upd (upd (zX υ 45) 0 (zX υ 62 80)) 1 (zX υ 62 (80 + 1))) 2 (zX υ 62 (80 + 2))) 3 (zX υ 62 (80 + 3))))) rfl ?_
    refine Z.eqσ (τ := bkS υ 62) rfl ?_
    have hMb : MH (bkS υ 62) d := MH.back (hK1.m hf2) hW hM2 hW2
    have hlb : Lay (bkS υ 62) := hl2
    have hx3 : zX (bkS υ 62) 45 25 = nI x := hx2
    refine Z.aload_n B dX12_house_149 (v := .ref 45) rfl rfl ?_
    refine Z.aload_n B dX12_house_150 (v := .ref 45) rfl rfl ?_
    refine Z.getI (σ := (bkS υ 62)) B fX12_138_12 dX12_house_151 (hlb.n (k := 45) (by decide)) (hlb.k (k := 45) (by decide)) (by decide) (v := nI x) hx3 ?_
    refine Z.putI (σ := (bkS υ 62)) B fX12_13_12 (ty := .int) ⟨_, _, _, rfl, rfl, by decide +kernel⟩ dX12_house_154 (hlb.n (k := 45) (by decide)) (hlb.k (k := 45) (by decide)) (by decide) rfl rfl (τ := (zuX (bkS υ 62) 45 (upd (zX (bkS υ 62) 45) 4 (nI x)))) rfl ?_
    refine Z.aload_n B dX12_house_157 (v := .ref 45) rfl rfl ?_
    refine Z.bipush B dX12_house_158 (v := (-6)) rfl ?_
    refine Z.callVI (σ := (zuX (bkS υ 62) 45 (upd (zX (bkS υ 62) 45) 4 (nI x)))) B (M' := mX12_no) (as := [.int (-6)]) (st := []) (v := .int (-6)) dX12_house_160 wX12_no iX12_no sX12_no kX12_94 (hlb.n (k := 45) (by decide)) (hlb.k (k := 45) (by decide)) (by decide) rfl rfl (t_X12_no_6 (σ := zuX (bkS υ 62) 45 (upd (zX (bkS υ 62) 45) 4 (nI x))) hlb) rfl rfl (by decide) (by decide) (Nat.le_of_ble_eq_true rfl) (by decide) (by decide) ?_
    refine Z.eqσ (τ := (zuX (zuX (bkS υ 62) 45 (upd (zX (bkS υ 62) 45) 4 (nI x))) 46 (upd (zX (bkS υ 62) 46) 6 (zX (bkS υ 62) 46 6 + nI 1)))) rfl ?_
    refine Z.iret B Rt dX12_house_163 (ty := .int) rfl rfl (by decide) (by decide) ?_
    exact ⟨rfl, hMb, rfl, hf1.tr ((hFr.m hf2).tr (hFr.b.tr ((hFr.c (by decide)).tr (hFr.u (by decide))))), by rw [show zX (bkS υ 62) 46 = zX σ 46 from (hf2.2.1 46 (by decide)).trans e46]; exact zX_self⟩
  · skip
    have hxx : x = x1 := by rw [pr_b hB] at hF; exact (Option.some.inj hF).symm
    subst hxx
    refine Z.callVE (σ := (hB0 σ s m d)) B (M' := mX12_item) (as := []) (st := []) dX12_house_57 wX12_item iX12_item sX12_item kX12_183 (hl1.n (k := 45) (by decide)) (hl1.k (k := 45) (by decide)) (by decide) rfl rfl (it_Mb (σ := (hB0 σ s m d)) (a := 0) hl1 ht1 hM1 hW (by decide) rfl hB) rfl rfl (by decide) (by decide) (Nat.le_of_ble_eq_true rfl) (by decide) (by decide) ?_
    rintro τ ⟨a1, t1, r1, rfl⟩
    have hM2 : MH (mS (hB0 σ s m d) a1 t1 (nI x) r1) d := hM1.mS
    have hf2 : mFr (hB0 σ s m d) (mS (hB0 σ s m d) a1 t1 (nI x) r1) := mFr.mS
    have hx2 : zX (mS (hB0 σ s m d) a1 t1 (nI x) r1) 45 25 = nI x := mS_w
    have hW2 := hW
    generalize mS (hB0 σ s m d) a1 t1 (nI x) r1 = υ at hM2 hf2 hx2 ⊢
    have hl2 : Lay υ := hl1.m hf2
    refine Z.istore B dX12_house_60 (by decide) (L' := [(0, .ref 45), (1, .int (nI s)), (2, .int (nI 0)), (3, .int (nI 1)), (4, .int (nI 0))]) rfl ?_
    refine Z.iload B dX12_house_62 (x := nI 0) rfl ?_
    refine Z.if_eqN B dX12_house_64 (tgt := 133) rfl (by omega) (fun h64 => ?_) (fun h64 => by exfalso; first | omega | contradiction | simp_all)
    refine Z.iload B dX12_house_133 (x := nI 0) rfl ?_
    refine Z.if_eqN B dX12_house_135 (tgt := 140) rfl (by omega) (fun h135 => ?_) (fun h135 => by exfalso; first | omega | contradiction | simp_all)
    refine Z.aload_n B dX12_house_140 (v := .ref 45) rfl rfl ?_
    refine Z.aload_n B dX12_house_141 (v := .ref 45) rfl rfl ?_
    refine Z.getR (σ := υ) B fX12_66_12 dX12_house_142 (hl2.n (k := 45) (by decide)) (hl2.k (k := 45) (by decide)) (by decide) (j := 62) (hl2.r (k := 45) (f := 26) (by decide) (by decide)) ?_
    refine Z.iconst B dX12_house_145 (v := nI 1) rfl ?_
    have etrue : nI 1 = zb true := rfl
    refine Z.callVN (σ := υ) B (M' := mX12_all) (as := [.ref 62, .int (zb true)]) (st := []) dX12_house_146 wX12_all iX12_all sX12_all kX12_179 (hl2.n (k := 45) (by decide)) (hl2.k (k := 45) (by decide)) (by decide) rfl rfl (t_M_all_b_62 (σ := υ) hl2) rfl rfl (by decide) (by decide) (Nat.le_of_ble_eq_true rfl) (by decide) (by decide) ?_
    refine Z.eqσ (τ := (zuX (zuX (zuX (zuX (zuX (zuX (zuX (zuX υ 47 (va_cpy (zX υ 62) (zX υ 47) 0 0 48)) 48 (va_cpy (zX υ 62) (zX υ 48) 48 0 4)) 49 (va_cpy (zX υ 62) (zX υ 49) 52 0 4)) 50 (va_cpy (zX υ 62) (zX υ 50) 56 0 4)) 51 (va_cpy (zX υ 62) (zX υ 51) 60 0 4)) 52 (va_cpy (zX υ 62) (zX υ 52) 64 0 8)) 53 (va_cpy (zX υ 62) (zX υ 53) 72 0 8)) 45 (upd (upd (upd (upd (zX υ 45) 0 (zX υ 62 80)) 1 (zX υ 62 (80 + 1))) 2 (zX υ 62 (80 + 2))) 3 (zX υ 62 (80 + 3))))) rfl ?_
    refine Z.eqσ (τ := bkS υ 62) rfl ?_
    have hMb : MH (bkS υ 62) d := MH.back (hK1.m hf2) hW hM2 hW2
    have hlb : Lay (bkS υ 62) := hl2
    have hx3 : zX (bkS υ 62) 45 25 = nI x := hx2
    refine Z.aload_n B dX12_house_149 (v := .ref 45) rfl rfl ?_
    refine Z.aload_n B dX12_house_150 (v := .ref 45) rfl rfl ?_
    refine Z.getI (σ := (bkS υ 62)) B fX12_138_12 dX12_house_151 (hlb.n (k := 45) (by decide)) (hlb.k (k := 45) (by decide)) (by decide) (v := nI x) hx3 ?_
    refine Z.putI (σ := (bkS υ 62)) B fX12_13_12 (ty := .int) ⟨_, _, _, rfl, rfl, by decide +kernel⟩ dX12_house_154 (hlb.n (k := 45) (by decide)) (hlb.k (k := 45) (by decide)) (by decide) rfl rfl (τ := (zuX (bkS υ 62) 45 (upd (zX (bkS υ 62) 45) 4 (nI x)))) rfl ?_
    refine Z.aload_n B dX12_house_157 (v := .ref 45) rfl rfl ?_
    refine Z.bipush B dX12_house_158 (v := (-6)) rfl ?_
    refine Z.callVI (σ := (zuX (bkS υ 62) 45 (upd (zX (bkS υ 62) 45) 4 (nI x)))) B (M' := mX12_no) (as := [.int (-6)]) (st := []) (v := .int (-6)) dX12_house_160 wX12_no iX12_no sX12_no kX12_94 (hlb.n (k := 45) (by decide)) (hlb.k (k := 45) (by decide)) (by decide) rfl rfl (t_X12_no_6 (σ := zuX (bkS υ 62) 45 (upd (zX (bkS υ 62) 45) 4 (nI x))) hlb) rfl rfl (by decide) (by decide) (Nat.le_of_ble_eq_true rfl) (by decide) (by decide) ?_
    refine Z.eqσ (τ := (zuX (zuX (bkS υ 62) 45 (upd (zX (bkS υ 62) 45) 4 (nI x))) 46 (upd (zX (bkS υ 62) 46) 6 (zX (bkS υ 62) 46 6 + nI 1)))) rfl ?_
    refine Z.iret B Rt dX12_house_163 (ty := .int) rfl rfl (by decide) (by decide) ?_
    exact ⟨rfl, hMb, rfl, hf1.tr ((hFr.m hf2).tr (hFr.b.tr ((hFr.c (by decide)).tr (hFr.u (by decide))))), by rw [show zX (bkS υ 62) 46 = zX σ 46 from (hf2.2.1 46 (by decide)).trans e46]; exact zX_self⟩

/-- a call that makes something, its end told by a property -/
theorem Z.callVF {M M' : zM} {κ : zCtx} {u w pc k : Nat} {σ : zSt} {L : List (Nat × Value)} {st : List Value} {P : zSt → Prop} (B : zB M κ) {as : List Value} {v : Value} {idx n : Nat} {stk : List Value} (hd : decode M.2.1 pc = .ok (.invokevirtual idx, 3)) (hm : zMw M' n) (hi : Cond.instanceMethod M'.1 ∈ zT) (hs : Cond.selects M'.1.cls M'.1 M'.1 ∈ zT) (hlk : Cond.methodLink M.1.cls idx M'.1 ∈ zT) {ci : Nat} {q : vw_C} (hk : k < zN σ) (hKd : zK σ k = ci) (hci : ci < 13) (hq : vwCl[ci]? = some q) (hqc : q.1 = M'.1.cls)
    (hc : Ct M' (.ref k :: as) σ (fun r τ => r = some v ∧ P τ)) (hst : stk = as.reverse ++ .ref k :: st) (hn : as.length = n) (hrm : zRm2 M M' = true) (hcat : (st.map fun v => v.category).sum ≤ 8) (hu : u + zcells M' ≤ zcells M) (hw : w + zslots M' ≤ zslots M)
    (hM0 : zcells M ≠ 0) (hn0 : zPl0 κ ≤ zN σ) (hL : ∀ q ∈ L, zLt (zN σ) q.2) (hS : ∀ v ∈ st, zLt (zN σ) v)
    (kk : ∀ τ, P τ → Z κ (u + zcells M') (w + zslots M') τ (pc + 3) L (v :: st)) : Z κ u w σ pc L stk := Z.callV B hd hc hst hm hi hs hlk hk hKd hci hq hqc hn hrm hcat hu hw (Or.inr ⟨hM0, hn0, hL, hS⟩) (by rintro r σ' ⟨rfl, hp⟩; exact kk _ hp)

theorem t_K_house_ok {σ : zSt} {d : HD} {s o m : Nat} {T : Nat → Int32} (hl : Lay σ) (hK : KH σ 20 d) (hW : HW d) (hc : zCl σ) (hs : s < 8) (hh : zRw σ (2 + 2 * s) o m) (ht : zTx σ (2 + 2 * s) T) (hz : DZ σ 35) (hF : (pr T m (m + 1) 0 d).1 = none) : Ct mX11_house [.ref 0, .int (nI s)] σ (fun r τ1 => r = some (.int (nI (pr T m (m + 1) 0 d).2.1)) ∧ ∃ τ, zFr 34 42 (some 39) σ τ ∧ zCl τ ∧ KH τ 35 (pr T m (m + 1) 0 d).2.2 ∧ τ1 = zuX (zuR (zuX (zuX (zuX (zuX τ 0 (upd (zX τ 0) 8 (-1))) 21 (zX τ 36)) 22 (zX τ 37)) 23 (zX τ 38)) 24 (zR τ 39)) 20 (upd (upd (upd (upd (zX τ 20) 2 (zX τ 35 2)) 5 (zX τ 35 5)) 7 (zX τ 35 7)) 8 (zX τ 35 8))) := by
  have hqs := (hl.shelf hs).2
  have hKd := HW.all (T := T) (m := m) (m + 1) 0 d hW
  obtain ⟨y1, y2, y3, y4⟩ := hK.dz hW
  refine Ct.ofN (by decide) (Nat.le_of_ble_eq_true rfl) fun κ B Rt hn0 => ?_
  show Z κ 0 0 σ 0 [(0, .ref 0), (1, .int (nI s))] []
  refine Z.aload_n B dX11_house_0 (v := .ref 0) rfl rfl ?_
  refine Z.iload_n B dX11_house_1 (x := nI s) rfl ?_
  refine Z.callVI (σ := σ) B (M' := mX11_shelfAt) (as := [.int (nI s)]) (st := []) (v := .ref (2 + 2 * s)) dX11_house_2 wX11_shelfAt iX11_shelfAt sX11_shelfAt kX11_59 (hl.n (k := 0) (by decide)) (hl.k (k := 0) (by decide)) (by decide) rfl rfl (t_X11_shelfAt_in (σ := σ) hl hs) rfl rfl (by decide) (by decide) (Nat.le_of_ble_eq_true rfl) (by show _ ≤ 161; omega) (by show _ ≤ 644; omega) ?_
  refine Z.astore_n B dX11_house_5 (by decide) rfl (L' := [(0, .ref 0), (1, .int (nI s)), (2, .ref (2 + 2 * s))]) rfl ?_
  refine Z.aload_n B dX11_house_6 (v := .ref (2 + 2 * s)) rfl rfl ?_
  refine Z.ifnull_r B dX11_house_7 ?_
  refine Z.aload_n B dX11_house_10 (v := .ref (2 + 2 * s)) rfl rfl ?_
  refine Z.callVI (σ := σ) B (M' := mX6_holdsRow) (as := []) (st := []) (v := .int (nI 1)) dX11_house_11 wX6_holdsRow iX6_holdsRow sX6_holdsRow kX11_71 (Nat.lt_of_succ_lt hqs.1) hqs.2.1 (by decide) rfl rfl (t_X6_holdsRow_1 (σ := σ) hqs (Nat.lt_of_le_of_lt hh.2.1 (by decide)) hh.1) rfl rfl (by decide) (by decide) (Nat.le_of_ble_eq_true rfl) (by show _ ≤ 161; omega) (by show _ ≤ 644; omega) ?_
  refine Z.if_neN B dX11_house_14 (tgt := 26) rfl (by omega) (fun h14 => ?_) (fun h14 => by exfalso; first | omega | contradiction | simp_all)
  refine Z.aload_n B dX11_house_26 (v := .ref 0) rfl rfl ?_
  refine Z.getR (σ := σ) B fX11_40_11 dX11_house_27 (hl.n (k := 0) (by decide)) (hl.k (k := 0) (by decide)) (by decide) (j := 34) (hl.r (k := 0) (f := 4) (by decide) (by decide)) ?_
  refine Z.aload_n B dX11_house_30 (v := .ref (2 + 2 * s)) rfl rfl ?_
  refine Z.aload_n B dX11_house_31 (v := .ref 0) rfl rfl ?_
  refine Z.getR (σ := σ) B fX11_28_11 dX11_house_32 (hl.n (k := 0) (by decide)) (hl.k (k := 0) (by decide)) (by decide) (j := 20) (hl.r (k := 0) (f := 2) (by decide) (by decide)) ?_
  refine Z.callVF (σ := σ) B (M' := mX2_read) (as := [.ref (2 + 2 * s), .ref 20]) (st := []) dX11_house_35 wX2_read iX2_read sX2_read kX11_185 (hl.n (k := 34) (by decide)) (hl.k (k := 34) (by decide)) (by decide) rfl rfl (t_X2_read hl hK hW hc ht (by omega) hh.2.2.1 hh.2.2.2.1 hz) rfl rfl (by decide) (by decide) (by decide) (by decide) (by decide) (by rw [hn0]; exact Nat.le_refl _) (zLLc (show 0 < zN σ from (by have h66 := hl.1; show 0 < zN σ; omega)) (zLLc trivial (zLLc (show 2 + 2 * s < zN σ from (by have h66 := hl.1; show 2 + 2 * s < zN σ; omega)) zLL0))) zLS0 ?_
  rintro τ ⟨hK2, hf3, hFr, hc2⟩
  have hl2 : Lay τ := hl.fr hFr L39
  rw [hF] at hf3
  obtain ⟨z1, z2, z3, z4⟩ := hK2.dz hKd
  have k1 : ∀ k, 48 ≤ k → zX τ 21 k = zX τ 36 k := fun k hk => by rw [((hFr.2 21 (Nat.lt_of_lt_of_le (by decide) hl.1)).2.2.1 (by decide)).1]; exact (y1 k hk).trans (z1 k hk).symm
  have k2 : ∀ k, 12 ≤ k → zX τ 22 k = zX τ 37 k := fun k hk => by rw [((hFr.2 22 (Nat.lt_of_lt_of_le (by decide) hl.1)).2.2.1 (by decide)).1]; exact (y2 k hk).trans (z2 k hk).symm
  have k3 : ∀ k, 4 ≤ k → zX τ 23 k = zX τ 38 k := fun k hk => by rw [((hFr.2 23 (Nat.lt_of_lt_of_le (by decide) hl.1)).2.2.1 (by decide)).1]; exact (y3 k hk).trans (z3 k hk).symm
  have k4 : ∀ k, 8 ≤ k → zR τ 24 k = zR τ 39 k := fun k hk => by rw [(hFr.2 24 (Nat.lt_of_lt_of_le (by decide) hl.1)).2.2.2 (by decide)]; exact (y4 k hk).trans (z4 k hk).symm
  show Z κ 161 644 τ 38 [(0, .ref 0), (1, .int (nI s)), (2, .ref (2 + 2 * s))] [.int (nI ((pr T m (m + 1) 0 d).2.1))]
  refine Z.istore_n B dX11_house_38 (by decide) (L' := [(0, .ref 0), (1, .int (nI s)), (2, .ref (2 + 2 * s)), (3, .int (nI ((pr T m (m + 1) 0 d).2.1)))]) rfl ?_
  refine Z.aload_n B dX11_house_39 (v := .ref 0) rfl rfl ?_
  refine Z.aload_n B dX11_house_40 (v := .ref 0) rfl rfl ?_
  refine Z.getR (σ := τ) B fX11_40_11 dX11_house_41 (hl2.n (k := 0) (by decide)) (hl2.k (k := 0) (by decide)) (by decide) (j := 34) (hl2.r (k := 0) (f := 4) (by decide) (by decide)) ?_
  refine Z.callVI (σ := τ) B (M' := mX2_faultFound) (as := []) (st := [.ref 0]) (v := .int (zX τ 34 3)) dX11_house_44 wX2_faultFound iX2_faultFound sX2_faultFound kX11_189 (hl2.n (k := 34) (by decide)) (hl2.k (k := 34) (by decide)) (by decide) rfl rfl (t_X2_faultFound (σ := τ) hl2) rfl rfl (by decide) (by decide) (Nat.le_of_ble_eq_true rfl) (by show _ ≤ 161; omega) (by show _ ≤ 644; omega) ?_
  rw [hf3]
  show Z κ 161 644 τ 47 [(0, .ref 0), (1, .int (nI s)), (2, .ref (2 + 2 * s)), (3, .int (nI ((pr T m (m + 1) 0 d).2.1)))] [.int (-1), .ref 0]
  refine Z.putI (σ := τ) B fX11_55_11 (ty := .int) ⟨_, _, _, rfl, rfl, by decide +kernel⟩ dX11_house_47 (hl2.n (k := 0) (by decide)) (hl2.k (k := 0) (by decide)) (by decide) rfl rfl (τ := (zuX τ 0 (upd (zX τ 0) 8 (-1)))) rfl ?_
  refine Z.aload_n B dX11_house_50 (v := .ref 0) rfl rfl ?_
  refine Z.getI (σ := (zuX τ 0 (upd (zX τ 0) 8 (-1)))) B fX11_55_11 dX11_house_51 (hl2.n (k := 0) (by decide)) (hl2.k (k := 0) (by decide)) (by decide) (v := (-1)) rfl ?_
  refine Z.iconst B dX11_house_54 (v := (-1)) rfl ?_
  refine Z.icmp_eq B dX11_house_55 (tgt := 65) rfl (fun h55 => ?_) (fun h55 => absurd rfl h55)
  refine Z.aload_n B dX11_house_65 (v := .ref 0) rfl rfl ?_
  refine Z.getR (σ := (zuX τ 0 (upd (zX τ 0) 8 (-1)))) B fX11_28_11 dX11_house_66 (hl2.n (k := 0) (by decide)) (hl2.k (k := 0) (by decide)) (by decide) (j := 20) (hl2.r (k := 0) (f := 2) (by decide) (by decide)) ?_
  refine Z.aload_n B dX11_house_69 (v := .ref 0) rfl rfl ?_
  refine Z.getR (σ := (zuX τ 0 (upd (zX τ 0) 8 (-1)))) B fX11_40_11 dX11_house_70 (hl2.n (k := 0) (by decide)) (hl2.k (k := 0) (by decide)) (by decide) (j := 34) (hl2.r (k := 0) (f := 4) (by decide) (by decide)) ?_
  refine Z.callVI (σ := (zuX τ 0 (upd (zX τ 0) 8 (-1)))) B (M' := mX2_draft) (as := []) (st := [.ref 20]) (v := .ref 35) dX11_house_73 wX2_draft iX2_draft sX2_draft kX11_192 (hl2.n (k := 34) (by decide)) (hl2.k (k := 34) (by decide)) (by decide) rfl rfl (t_X2_draft (σ := (zuX τ 0 (upd (zX τ 0) 8 (-1)))) hl2) rfl rfl (by decide) (by decide) (Nat.le_of_ble_eq_true rfl) (by show _ ≤ 161; omega) (by show _ ≤ 644; omega) ?_
  refine Z.callVN (σ := (zuX τ 0 (upd (zX τ 0) 8 (-1)))) B (M' := mX1_takeOver) (as := [.ref 35]) (st := []) dX11_house_76 wX1_takeOver iX1_takeOver sX1_takeOver kX11_196 (hl2.n (k := 20) (by decide)) (hl2.k (k := 20) (by decide)) (by decide) rfl rfl (t_X1_takeOver_20_35 (σ := (zuX τ 0 (upd (zX τ 0) 8 (-1)))) hl2 k1 k2 k3 k4 hK2.ways) rfl rfl (by decide) (by decide) (Nat.le_of_ble_eq_true rfl) (by show _ ≤ 161; omega) (by show _ ≤ 644; omega) ?_
  refine Z.eqσ (τ := (zuX (zuR (zuX (zuX (zuX (zuX τ 0 (upd (zX τ 0) 8 (-1))) 21 (zX τ 36)) 22 (zX τ 37)) 23 (zX τ 38)) 24 (zR τ 39)) 20 (upd (upd (upd (upd (zX τ 20) 2 (zX τ 35 2)) 5 (zX τ 35 5)) 7 (zX τ 35 7)) 8 (zX τ 35 8)))) rfl ?_
  refine Z.iload_n B dX11_house_79 (x := nI ((pr T m (m + 1) 0 d).2.1)) rfl ?_
  refine Z.iret B Rt dX11_house_80 (ty := .int) rfl rfl (by decide) (by decide) ?_
  exact ⟨rfl, τ, hFr, hc2, hK2, rfl⟩

theorem t_K_house_bad {σ : zSt} {d : HD} {s o m x : Nat} {T : Nat → Int32} (hl : Lay σ) (hK : KH σ 20 d) (hW : HW d) (hc : zCl σ) (hs : s < 8) (hh : zRw σ (2 + 2 * s) o m) (ht : zTx σ (2 + 2 * s) T) (hz : DZ σ 35) (hF : (pr T m (m + 1) 0 d).1 = some x) (hx3 : x < 2 ^ 31) : Ct mX11_house [.ref 0, .int (nI s)] σ (fun r τ1 => r = some (.int (-nI 6)) ∧ ∃ τ, zFr 34 42 (some 39) σ τ ∧ zCl τ ∧ KH τ 35 (pr T m (m + 1) 0 d).2.2 ∧ τ1 = zuX (zuX τ 0 (upd (zX τ 0) 8 (nI x))) 43 (upd (zX τ 43) 6 (zX τ 43 6 + nI 1))) := by
  have hqs := (hl.shelf hs).2
  have hKd := HW.all (T := T) (m := m) (m + 1) 0 d hW
  obtain ⟨y1, y2, y3, y4⟩ := hK.dz hW
  refine Ct.ofN (by decide) (Nat.le_of_ble_eq_true rfl) fun κ B Rt hn0 => ?_
  show Z κ 0 0 σ 0 [(0, .ref 0), (1, .int (nI s))] []
  refine Z.aload_n B dX11_house_0 (v := .ref 0) rfl rfl ?_
  refine Z.iload_n B dX11_house_1 (x := nI s) rfl ?_
  refine Z.callVI (σ := σ) B (M' := mX11_shelfAt) (as := [.int (nI s)]) (st := []) (v := .ref (2 + 2 * s)) dX11_house_2 wX11_shelfAt iX11_shelfAt sX11_shelfAt kX11_59 (hl.n (k := 0) (by decide)) (hl.k (k := 0) (by decide)) (by decide) rfl rfl (t_X11_shelfAt_in (σ := σ) hl hs) rfl rfl (by decide) (by decide) (Nat.le_of_ble_eq_true rfl) (by show _ ≤ 161; omega) (by show _ ≤ 644; omega) ?_
  refine Z.astore_n B dX11_house_5 (by decide) rfl (L' := [(0, .ref 0), (1, .int (nI s)), (2, .ref (2 + 2 * s))]) rfl ?_
  refine Z.aload_n B dX11_house_6 (v := .ref (2 + 2 * s)) rfl rfl ?_
  refine Z.ifnull_r B dX11_house_7 ?_
  refine Z.aload_n B dX11_house_10 (v := .ref (2 + 2 * s)) rfl rfl ?_
  refine Z.callVI (σ := σ) B (M' := mX6_holdsRow) (as := []) (st := []) (v := .int (nI 1)) dX11_house_11 wX6_holdsRow iX6_holdsRow sX6_holdsRow kX11_71 (Nat.lt_of_succ_lt hqs.1) hqs.2.1 (by decide) rfl rfl (t_X6_holdsRow_1 (σ := σ) hqs (Nat.lt_of_le_of_lt hh.2.1 (by decide)) hh.1) rfl rfl (by decide) (by decide) (Nat.le_of_ble_eq_true rfl) (by show _ ≤ 161; omega) (by show _ ≤ 644; omega) ?_
  refine Z.if_neN B dX11_house_14 (tgt := 26) rfl (by omega) (fun h14 => ?_) (fun h14 => by exfalso; first | omega | contradiction | simp_all)
  refine Z.aload_n B dX11_house_26 (v := .ref 0) rfl rfl ?_
  refine Z.getR (σ := σ) B fX11_40_11 dX11_house_27 (hl.n (k := 0) (by decide)) (hl.k (k := 0) (by decide)) (by decide) (j := 34) (hl.r (k := 0) (f := 4) (by decide) (by decide)) ?_
  refine Z.aload_n B dX11_house_30 (v := .ref (2 + 2 * s)) rfl rfl ?_
  refine Z.aload_n B dX11_house_31 (v := .ref 0) rfl rfl ?_
  refine Z.getR (σ := σ) B fX11_28_11 dX11_house_32 (hl.n (k := 0) (by decide)) (hl.k (k := 0) (by decide)) (by decide) (j := 20) (hl.r (k := 0) (f := 2) (by decide) (by decide)) ?_
  refine Z.callVF (σ := σ) B (M' := mX2_read) (as := [.ref (2 + 2 * s), .ref 20]) (st := []) dX11_house_35 wX2_read iX2_read sX2_read kX11_185 (hl.n (k := 34) (by decide)) (hl.k (k := 34) (by decide)) (by decide) rfl rfl (t_X2_read hl hK hW hc ht (by omega) hh.2.2.1 hh.2.2.2.1 hz) rfl rfl (by decide) (by decide) (by decide) (by decide) (by decide) (by rw [hn0]; exact Nat.le_refl _) (zLLc (show 0 < zN σ from (by have h66 := hl.1; show 0 < zN σ; omega)) (zLLc trivial (zLLc (show 2 + 2 * s < zN σ from (by have h66 := hl.1; show 2 + 2 * s < zN σ; omega)) zLL0))) zLS0 ?_
  rintro τ ⟨hK2, hf3, hFr, hc2⟩
  have hl2 : Lay τ := hl.fr hFr L39
  rw [hF] at hf3
  show Z κ 161 644 τ 38 [(0, .ref 0), (1, .int (nI s)), (2, .ref (2 + 2 * s))] [.int (nI ((pr T m (m + 1) 0 d).2.1))]
  refine Z.istore_n B dX11_house_38 (by decide) (L' := [(0, .ref 0), (1, .int (nI s)), (2, .ref (2 + 2 * s)), (3, .int (nI ((pr T m (m + 1) 0 d).2.1)))]) rfl ?_
  refine Z.aload_n B dX11_house_39 (v := .ref 0) rfl rfl ?_
  refine Z.aload_n B dX11_house_40 (v := .ref 0) rfl rfl ?_
  refine Z.getR (σ := τ) B fX11_40_11 dX11_house_41 (hl2.n (k := 0) (by decide)) (hl2.k (k := 0) (by decide)) (by decide) (j := 34) (hl2.r (k := 0) (f := 4) (by decide) (by decide)) ?_
  refine Z.callVI (σ := τ) B (M' := mX2_faultFound) (as := []) (st := [.ref 0]) (v := .int (zX τ 34 3)) dX11_house_44 wX2_faultFound iX2_faultFound sX2_faultFound kX11_189 (hl2.n (k := 34) (by decide)) (hl2.k (k := 34) (by decide)) (by decide) rfl rfl (t_X2_faultFound (σ := τ) hl2) rfl rfl (by decide) (by decide) (Nat.le_of_ble_eq_true rfl) (by show _ ≤ 161; omega) (by show _ ≤ 644; omega) ?_
  rw [hf3]
  show Z κ 161 644 τ 47 [(0, .ref 0), (1, .int (nI s)), (2, .ref (2 + 2 * s)), (3, .int (nI ((pr T m (m + 1) 0 d).2.1)))] [.int (nI x), .ref 0]
  refine Z.putI (σ := τ) B fX11_55_11 (ty := .int) ⟨_, _, _, rfl, rfl, by decide +kernel⟩ dX11_house_47 (hl2.n (k := 0) (by decide)) (hl2.k (k := 0) (by decide)) (by decide) rfl rfl (τ := (zuX τ 0 (upd (zX τ 0) 8 (nI x)))) rfl ?_
  refine Z.aload_n B dX11_house_50 (v := .ref 0) rfl rfl ?_
  refine Z.getI (σ := (zuX τ 0 (upd (zX τ 0) 8 (nI x)))) B fX11_55_11 dX11_house_51 (hl2.n (k := 0) (by decide)) (hl2.k (k := 0) (by decide)) (by decide) (v := nI x) rfl ?_
  refine Z.iconst B dX11_house_54 (v := (-1)) rfl ?_
  refine Z.icmp_eq B dX11_house_55 (tgt := 65) rfl (fun h55 => (zm1 hx3 h55).elim) (fun h55 => ?_)
  refine Z.aload_n B dX11_house_58 (v := .ref 0) rfl rfl ?_
  refine Z.bipush B dX11_house_59 (v := nI 6) rfl ?_
  refine Z.callVI (σ := (zuX τ 0 (upd (zX τ 0) 8 (nI x)))) B (M' := mX11_refuse) (as := [.int (nI 6)]) (st := []) (v := .int (-nI 6)) dX11_house_61 wX11_refuse iX11_refuse sX11_refuse kX11_63 (hl2.n (k := 0) (by decide)) (hl2.k (k := 0) (by decide)) (by decide) rfl rfl (t_X11_refuse (σ := (zuX τ 0 (upd (zX τ 0) 8 (nI x)))) hl2 (b := 6) (by decide)) rfl rfl (by decide) (by decide) (Nat.le_of_ble_eq_true rfl) (by show _ ≤ 161; omega) (by show _ ≤ 644; omega) ?_
  refine Z.eqσ (τ := (zuX (zuX τ 0 (upd (zX τ 0) 8 (nI x))) 43 (upd (zX τ 43) 6 (zX τ 43 6 + nI 1)))) rfl ?_
  refine Z.iret B Rt dX11_house_64 (ty := .int) rfl rfl (by decide) (by decide) ?_
  exact ⟨rfl, τ, hFr, hc2, hK2, rfl⟩
