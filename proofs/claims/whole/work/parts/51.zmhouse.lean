/-! houses read: the model's call -/
/-- the model's reading touches no more -/
def mFr (σ τ : zSt) : Prop := (zN τ = zN σ ∧ zK τ = zK σ ∧ zL τ = zL σ ∧ zR τ = zR σ ∧ zY τ = zY σ) ∧ (∀ k, ¬ (k = 45 ∨ (47 ≤ k ∧ k ≤ 53) ∨ k = 61) → zX τ k = zX σ k) ∧ ∀ f, ¬ (f < 3 ∨ f = 22 ∨ f = 24 ∨ f = 25) → zX τ 45 f = zX σ 45 f
theorem mFr.rf {σ : zSt} : mFr σ σ := ⟨⟨rfl, rfl, rfl, rfl, rfl⟩, fun _ _ => rfl, fun _ _ => rfl⟩
theorem mFr.tr {σ τ υ : zSt} (h : mFr σ τ) (g : mFr τ υ) : mFr σ υ :=
  ⟨⟨g.1.1.trans h.1.1, g.1.2.1.trans h.1.2.1, g.1.2.2.1.trans h.1.2.2.1, g.1.2.2.2.1.trans h.1.2.2.2.1, g.1.2.2.2.2.trans h.1.2.2.2.2⟩, fun k hk => (g.2.1 k hk).trans (h.2.1 k hk), fun f hf => (g.2.2 f hf).trans (h.2.2 f hf)⟩
theorem mFr.u {σ : zSt} {k : Nat} {f : Nat → Int32} (hk : (47 ≤ k ∧ k ≤ 53) ∨ k = 61) : mFr σ (zuX σ k f) :=
  ⟨⟨rfl, rfl, rfl, rfl, rfl⟩, fun j hj => zX_n (by omega), fun _ _ => by rw [zX_n (by omega)]⟩
theorem mFr.c {σ : zSt} {i : Nat} {v : Int32} (hi : i < 3 ∨ i = 22 ∨ i = 24 ∨ i = 25) : mFr σ (zuX σ 45 (upd (zX σ 45) i v)) :=
  ⟨⟨rfl, rfl, rfl, rfl, rfl⟩, fun j hj => zX_n (by omega), fun f hf => by rw [zX_self, upd_ne (by omega)]⟩
theorem mFr.mS {σ : zSt} {a : Nat} {t w : Int32} {r : Nat → Int32} : mFr σ (mS σ a t w r) :=
  ⟨⟨rfl, rfl, rfl, rfl, rfl⟩, fun j hj => mS_o (by omega) (by omega), fun f hf => mS_f (by omega) (by omega) (by omega)⟩
theorem Lay.m {σ τ : zSt} (h : Lay σ) (g : mFr σ τ) : Lay τ := by
  obtain ⟨⟨g1, g2, g3, g4, g5⟩, -⟩ := g
  obtain ⟨h1, h2⟩ := h
  unfold Lay
  rw [g1, g2, g3, g4]
  exact ⟨h1, h2⟩
theorem zTm.m {σ τ : zSt} {s m : Nat} {T : Nat → Int32} (h : zTm σ s m T) (g : mFr σ τ) : zTm τ s m T := by
  obtain ⟨h1, ⟨h2, h3⟩, h4, h5⟩ := h
  refine ⟨h1, ⟨(g.2.2 21 (by decide)).trans h2, (g.2.2 23 (by decide)).trans h3⟩, fun i => ?_, fun j hj => ?_⟩
  · rw [g.1.2.2.2.2]; exact h4 i
  · rw [g.2.1 60 (by decide)]; exact h5 j hj
theorem MH.mS {σ : zSt} {d : HD} {a : Nat} {t w : Int32} {r : Nat → Int32} (h : MH σ d) : MH (mS σ a t w r) d := by
  obtain ⟨⟨a1, a2, a3, a4⟩, ⟨b1, b2, b3, b4, b5⟩, c⟩ := h
  refine ⟨⟨?_, ?_, ?_, ?_⟩, ⟨?_, ?_, ?_, ?_, ?_⟩, fun k hk => ⟨?_, ?_⟩⟩
  · exact (mS_f (by decide) (by decide) (by decide)).trans a1
  · exact (mS_f (by decide) (by decide) (by decide)).trans a2
  · exact (mS_f (by decide) (by decide) (by decide)).trans a3
  · exact (mS_f (by decide) (by decide) (by decide)).trans a4
  · exact (mS_o (by decide) (by decide)).trans b1
  · exact (mS_o (by decide) (by decide)).trans b2
  · exact (mS_o (by decide) (by decide)).trans b3
  · exact (mS_o (by decide) (by decide)).trans b4
  · exact (mS_o (by decide) (by decide)).trans b5
  · rw [mS_o (by decide) (by decide)]; exact (c k hk).1
  · rw [mS_o (by decide) (by decide)]; exact (c k hk).2
theorem MH.C {S : zSt} {d : HD} {v : Nat → Int32} (h : MH S d) (hv : ∀ j, j < 6 → zX S 61 j = v j) : MH (zuX (zuX S 47 (va_cpy (zX S 61) (zX S 47) 0 (Hn d * 6) 6)) 45 (upd (zX S 45) 0 (nI (Hn d + 1)))) (hC d v) := by
  obtain ⟨⟨a1, a2, a3, a4⟩, ⟨b1, b2, b3, b4, b5⟩, c⟩ := h
  refine ⟨⟨rfl, a2, a3, a4⟩, ⟨?_, b2, b3, b4, b5⟩, c⟩
  show va_cpy (zX S 61) (zX S 47) 0 (Hn d * 6) 6 = va_cpy v (HF d) 0 (Hn d * 6) 6
  rw [b1, cpy_cg hv]
theorem MH.A {S : zSt} {d : HD} {x y z : Int32} (h : MH S d) (h0 : zX S 61 0 = x) (h1 : zX S 61 1 = y) (h2 : zX S 61 2 = z) : MH (zuX (zuX (zuX (zuX (zuX S 48 (upd (zX S 48) (Ha d) (zX S 61 0))) 49 (upd (zX S 49) (Ha d) (zX S 61 1))) 50 (upd (zX S 50) (Ha d) (zX S 61 2))) 51 (upd (zX S 51) (Ha d) (nI (Ha d)))) 45 (upd (zX S 45) 1 (nI (Ha d + 1)))) (hA d x y z) := by
  obtain ⟨⟨a1, a2, a3, a4⟩, ⟨b1, b2, b3, b4, b5⟩, c⟩ := h
  subst h0 h1 h2
  refine ⟨⟨a1, rfl, a3, a4⟩, ⟨b1, ?_, ?_, ?_, ?_⟩, c⟩
  · show upd (zX S 48) (Ha d) (zX S 61 0) = fun b => upd (upd (upd (HA d) (Ha d * 3) _) (Ha d * 3 + 1) _) (Ha d * 3 + 2) _ (b * 3)
    rw [b2]; funext b
    by_cases e : b = Ha d
    · subst e; rw [upd_self, upd_ne (by omega), upd_ne (by omega), upd_self]
    · rw [upd_ne e, upd_ne (by omega), upd_ne (by omega), upd_ne (by omega)]
  · show upd (zX S 49) (Ha d) (zX S 61 1) = fun b => upd (upd (upd (HA d) (Ha d * 3) _) (Ha d * 3 + 1) _) (Ha d * 3 + 2) _ (b * 3 + 1)
    rw [b3]; funext b
    by_cases e : b = Ha d
    · subst e; rw [upd_self, upd_ne (by omega), upd_self]
    · rw [upd_ne e, upd_ne (by omega), upd_ne (by omega), upd_ne (by omega)]
  · show upd (zX S 50) (Ha d) (zX S 61 2) = fun b => upd (upd (upd (HA d) (Ha d * 3) _) (Ha d * 3 + 1) _) (Ha d * 3 + 2) _ (b * 3 + 2)
    rw [b4]; funext b
    by_cases e : b = Ha d
    · subst e; rw [upd_self, upd_self]
    · rw [upd_ne e, upd_ne (by omega), upd_ne (by omega), upd_ne (by omega)]
  · show upd (zX S 51) (Ha d) (nI (Ha d)) = _
    rw [b5]; rfl
theorem MH.Y {S : zSt} {d : HD} {kd pa : Nat} (h : MH S d) (h0 : zX S 61 0 = nI kd) (h1 : zX S 61 1 = nI pa) : MH (zuX (zuX (zuX S 52 (upd (zX S 52) (Hy d) (zX S 61 0))) 53 (upd (zX S 53) (Hy d) (zX S 61 1))) 45 (upd (zX S 45) 2 (nI (Hy d + 1)))) (hY d kd pa) := by
  obtain ⟨⟨a1, a2, a3, a4⟩, ⟨b1, b2, b3, b4, b5⟩, c⟩ := h
  refine ⟨⟨a1, a2, rfl, a4⟩, ⟨b1, b2, b3, b4, b5⟩, fun k hk => ?_⟩
  show upd (zX S 52) (Hy d) (zX S 61 0) k = nI (if k = Hy d then kd else Hk d k) ∧ upd (zX S 53) (Hy d) (zX S 61 1) k = nI (if k = Hy d then pa else Hp d k)
  have hk : k < Hy d + 1 := hk
  by_cases e : k = Hy d
  · subst e; rw [upd_self, upd_self, if_pos rfl, if_pos rfl]; exact ⟨h0, h1⟩
  · rw [upd_ne e, upd_ne e, if_neg e, if_neg e]; exact c k (by omega)
theorem MH.P {S : zSt} {d : HD} {p b : Nat} (h : MH S d) : MH (zuX S 51 (pf p b (zX S 51))) (hP d p b) := by
  obtain ⟨⟨a1, a2, a3, a4⟩, ⟨b1, b2, b3, b4, b5⟩, c⟩ := h
  refine ⟨⟨a1, a2, a3, a4⟩, ⟨b1, b2, b3, b4, ?_⟩, c⟩
  show pf p b (zX S 51) = pf p b (HO d)
  rw [b5]
theorem MH.md {σ : zSt} {d : HD} (h : MH σ d) (hl : Lay σ) (hW : HW d) : zMd σ (Hn d) (Ha d) (Hy d) := ⟨hl, h.1.1, hW.1.1, h.1.2.1, hW.1.2.1, h.1.2.2.1, hW.1.2.2⟩
/-- an item: the fault -/
theorem it_Mb {σ : zSt} {d : HD} {s m a x : Nat} {T : Nat → Int32} (hl : Lay σ) (ht : zTm σ s m T) (hM : MH σ d) (hW : HW d) (ha : a < 2 ^ 29) (h22 : zX σ 45 22 = nI a) (hB : ipB T a d = some x) : Ct mX12_item [.ref 45] σ (fun r τ => r = some (.int (nI 0)) ∧ ∃ a1 t1 r1, τ = mS σ a1 t1 (nI x) r1) := by
  have H := hM.md hl hW
  have key : Ct mX12_item [.ref 45] (mS σ a (zX σ 45 24) (zX σ 45 25) (zX σ 61)) (fun r τ => r = some (.int (nI 0)) ∧ ∃ a1 t1 r1, τ = mS σ a1 t1 (nI x) r1) := by
    unfold ipB itB at hB
    by_cases h4 : wd T a = 4
    · rw [if_pos h4] at hB
      cases hB
      exact (it_M_a hl ht ha H h4).ct ⟨rfl, _, _, _, rfl⟩
    rw [if_neg h4] at hB
    have hw4 := wd_4 (T := T) (a := a)
    obtain ⟨f1, f2, f3⟩ := fbd_s (T := T) (p := a + wl (wd T a)) (ac := Ha d) (w := wd T a)
    have hz : ¬ T (a + wl (wd T a)) = nI 32 → fbd T (a + wl (wd T a)) (Ha d) (wd T a) = 0 := by
      intro h
      rcases Nat.eq_zero_or_pos (fbd T (a + wl (wd T a)) (Ha d) (wd T a)) with h1 | h1
      · exact h1
      · exact absurd (f2 0 h1).1 h
    have : wd T a = 0 ∨ wd T a = 1 ∨ wd T a = 2 ∨ wd T a = 3 := by omega
    rcases this with hw | hw | hw | hw
    · rw [hw] at hB f1 f2 f3 hz
      by_cases hf : ful 0 (Hn d) (Ha d) (Hy d) = true
      · rw [if_pos hf] at hB
        cases hB
        have hf2 : Hn d = 8 := by simpa [ful] using hf
        exact (it_M_b0 hl ht ha H hw hf2).ct ⟨rfl, _, _, _, rfl⟩
      rw [if_neg hf] at hB
      have hf2 : Hn d < 8 := by
        have := hW.1
        have h9 : ¬ Hn d = 8 := fun e => hf (by simp [ful, e])
        omega
      by_cases hb : fbd T (a + wl 0) (Ha d) 0 < wc 0
      · rw [if_pos hb] at hB
        cases hB
        by_cases hs : T (a + wl 0) = nI 32
        · exact it_M_c0 hl ht ha H hw hs hf2 hb f2 (f3 hb)
        · rw [hz hs]
          have e : nbd T (ps T (a + wl 0) 0) = a + wl 0 := if_neg hs
          rw [e]
          exact (it_M_s0 hl ht ha H hw hf2 hs).ct ⟨rfl, _, _, _, rfl⟩
      · rw [if_neg hb] at hB; cases hB
    · rw [hw] at hB f1 f2 f3 hz
      by_cases hf : ful 1 (Hn d) (Ha d) (Hy d) = true
      · rw [if_pos hf] at hB
        cases hB
        have hf2 : Ha d = 4 := by simpa [ful] using hf
        exact (it_M_b1 hl ht ha H hw hf2).ct ⟨rfl, _, _, _, rfl⟩
      rw [if_neg hf] at hB
      have hf2 : Ha d < 4 := by
        have := hW.1
        have h9 : ¬ Ha d = 4 := fun e => hf (by simp [ful, e])
        omega
      by_cases hb : fbd T (a + wl 1) (Ha d) 1 < wc 1
      · rw [if_pos hb] at hB
        cases hB
        by_cases hs : T (a + wl 1) = nI 32
        · exact it_M_c1 hl ht ha H hw hs hf2 hb f2 (f3 hb)
        · rw [hz hs]
          have e : nbd T (ps T (a + wl 1) 0) = a + wl 1 := if_neg hs
          rw [e]
          exact (it_M_s1 hl ht ha H hw hf2 hs).ct ⟨rfl, _, _, _, rfl⟩
      · rw [if_neg hb] at hB; cases hB
    · rw [hw] at hB f1 f2 f3 hz
      by_cases hf : ful 2 (Hn d) (Ha d) (Hy d) = true
      · rw [if_pos hf] at hB
        cases hB
        have hf2 : Hy d = 8 := by simpa [ful] using hf
        exact (it_M_b2 hl ht ha H hw hf2).ct ⟨rfl, _, _, _, rfl⟩
      rw [if_neg hf] at hB
      have hf2 : Hy d < 8 := by
        have := hW.1
        have h9 : ¬ Hy d = 8 := fun e => hf (by simp [ful, e])
        omega
      by_cases hb : fbd T (a + wl 2) (Ha d) 2 < wc 2
      · rw [if_pos hb] at hB
        cases hB
        by_cases hs : T (a + wl 2) = nI 32
        · exact it_M_c2 hl ht ha H hw hs hf2 hb f2 (f3 hb)
        · rw [hz hs]
          have e : nbd T (ps T (a + wl 2) 0) = a + wl 2 := if_neg hs
          rw [e]
          exact (it_M_s2 hl ht ha H hw hf2 hs).ct ⟨rfl, _, _, _, rfl⟩
      · rw [if_neg hb] at hB; cases hB
    · rw [hw] at hB f1 f2 f3 hz
      rw [if_neg (by simp [ful])] at hB
      by_cases hb : fbd T (a + wl 3) (Ha d) 3 < wc 3
      · rw [if_pos hb] at hB
        cases hB
        by_cases hs : T (a + wl 3) = nI 32
        · exact it_M_c3 hl ht ha H hw hs hb f2 (f3 hb)
        · rw [hz hs]
          have e : nbd T (ps T (a + wl 3) 0) = a + wl 3 := if_neg hs
          rw [e]
          exact (it_M_s3 hl ht ha H hw hs).ct ⟨rfl, _, _, _, rfl⟩
      · rw [if_neg hb] at hB; cases hB
  rwa [mS_id h22] at key

/-- an item: told -/
theorem it_Mg {σ : zSt} {d : HD} {s m a : Nat} {T : Nat → Int32} (hl : Lay σ) (ht : zTm σ s m T) (hM : MH σ d) (hW : HW d) (ha : a < 2 ^ 29) (h22 : zX σ 45 22 = nI a) (hB : ipB T a d = none) : Ct mX12_item [.ref 45] σ (fun r τ => r = some (.int (nI 1)) ∧ MH τ (ipD T a d) ∧ zX τ 45 22 = nI (itN T a) ∧ mFr σ τ) := by
  have H := hM.md hl hW
  obtain ⟨h4, hfu, hk⟩ := ipB_n hB
  have key : Ct mX12_item [.ref 45] (mS σ a (zX σ 45 24) (zX σ 45 25) (zX σ 61)) (fun r τ => r = some (.int (nI 1)) ∧ MH τ (ipD T a d) ∧ zX τ 45 22 = nI (itN T a) ∧ mFr σ τ) := by
    have hw4 := wd_4 (T := T) (a := a)
    have : wd T a = 0 ∨ wd T a = 1 ∨ wd T a = 2 ∨ wd T a = 3 := by omega
    rcases this with hw | hw | hw | hw
    · rw [hw] at hk hfu
      have hs : T (a + wl 0) = nI 32 := (hk 0 (by decide)).1
      have hf2 : Hn d < 8 := by
        have := hW.1
        have h9 : ¬ Hn d = 8 := fun e => hfu (by simp [ful, e])
        omega
      have e1 : itN T a = ps T (a + wl 0) (wc 0) := by unfold itN; rw [hw]
      have e2 : ipD T a d = hC d (vs T (a + wl 0)) := by unfold ipD; rw [hw, if_pos rfl]
      rw [e1, e2]
      have e6 : ∀ j, j < wc 0 → zX (mS σ (ps T (a + wl 0) (wc 0)) (vs T (a + wl 0) (wc 0 - 1)) (zX σ 45 25) (fi (wc 0) (vs T (a + wl 0)) (zX σ 61))) 61 j = vs T (a + wl 0) j := fun j hj => by rw [mS_r, fi_at hj]
      exact (it_M_d0 hl ht ha H hw hs hf2 hk).ct ⟨rfl, MH.C hM.mS e6, rfl, mFr.mS.tr ((mFr.u (by decide)).tr (mFr.c (by decide)))⟩
    · rw [hw] at hk hfu
      have hs : T (a + wl 1) = nI 32 := (hk 0 (by decide)).1
      have hf2 : Ha d < 4 := by
        have := hW.1
        have h9 : ¬ Ha d = 4 := fun e => hfu (by simp [ful, e])
        omega
      have e1 : itN T a = ps T (a + wl 1) (wc 1) := by unfold itN; rw [hw]
      have e2 : ipD T a d = hA d (vs T (a + wl 1) 0) (vs T (a + wl 1) 1) (vs T (a + wl 1) 2) := by unfold ipD; rw [hw, if_neg (by decide), if_pos rfl]
      rw [e1, e2]
      have e6 : ∀ j, j < wc 1 → zX (mS σ (ps T (a + wl 1) (wc 1)) (vs T (a + wl 1) (wc 1 - 1)) (zX σ 45 25) (fi (wc 1) (vs T (a + wl 1)) (zX σ 61))) 61 j = vs T (a + wl 1) j := fun j hj => by rw [mS_r, fi_at hj]
      exact (it_M_d1 hl ht ha H hw hs hf2 hk).ct ⟨rfl, MH.A hM.mS (e6 0 (by decide)) (e6 1 (by decide)) (e6 2 (by decide)), rfl, mFr.mS.tr ((mFr.u (by decide)).tr ((mFr.u (by decide)).tr ((mFr.u (by decide)).tr ((mFr.u (by decide)).tr (mFr.c (by decide))))))⟩
    · rw [hw] at hk hfu
      have hs : T (a + wl 2) = nI 32 := (hk 0 (by decide)).1
      have hf2 : Hy d < 8 := by
        have := hW.1
        have h9 : ¬ Hy d = 8 := fun e => hfu (by simp [ful, e])
        omega
      have e1 : itN T a = ps T (a + wl 2) (wc 2) := by unfold itN; rw [hw]
      have e2 : ipD T a d = hY d (tN (vs T (a + wl 2) 0)) (tN (vs T (a + wl 2) 1)) := by unfold ipD; rw [hw, if_neg (by decide), if_neg (by decide), if_pos rfl]
      rw [e1, e2]
      have e6 : ∀ j, j < wc 2 → zX (mS σ (ps T (a + wl 2) (wc 2)) (vs T (a + wl 2) (wc 2 - 1)) (zX σ 45 25) (fi (wc 2) (vs T (a + wl 2)) (zX σ 61))) 61 j = vs T (a + wl 2) j := fun j hj => by rw [mS_r, fi_at hj]
      exact (it_M_d2 hl ht ha H hw hs hf2 hk).ct ⟨rfl, MH.Y hM.mS ((e6 0 (by decide)).trans (nok_v (hk 0 (by decide))).1) ((e6 1 (by decide)).trans (nok_v (hk 1 (by decide))).1), rfl, mFr.mS.tr ((mFr.u (by decide)).tr ((mFr.u (by decide)).tr (mFr.c (by decide))))⟩
    · rw [hw] at hk hfu
      have hs : T (a + wl 3) = nI 32 := (hk 0 (by decide)).1
      have e1 : itN T a = ps T (a + wl 3) (wc 3) := by unfold itN; rw [hw]
      have e2 : ipD T a d = hP d (fst_ (HO d) (vs T (a + wl 3) 0) (Ha d)) (tN (vs T (a + wl 3) 0)) := by unfold ipD; rw [hw, if_neg (by decide), if_neg (by decide), if_neg (by decide)]
      obtain ⟨od, pos, ho⟩ := hW.2.2.2.2.2.1
      have g0 := nok_v (hk 0 (by decide))
      have hx : tN (vs T (a + wl 3) 0) < Ha d := by
        have h6 : (mx (Ha d) 3 0).toInt = (Ha d : Int) - 1 := by
          show (nI (Ha d) - nI 1).toInt = _
          rw [zsubI (by have := hW.1; omega) (by decide)]; rfl
        have h7 := g0.2.2
        rw [h6] at h7
        have h8 : ((tN (vs T (a + wl 3) 0) : Nat) : Int) ≤ (Ha d : Int) - 1 := h7
        omega
      obtain ⟨q1, q2, q3⟩ := fst_s ho.1 hW.1.2.1 hx g0.1 ⟨pos _, (ho.2.1 _ hx).1, (ho.2.1 _ hx).2.1⟩
      rw [e1, e2]
      exact (it_M_d3 hl ht ha H hw hs hk (od := od) (fun i hi => by rw [hM.2.1.2.2.2.2]; exact ho.1 i hi) q1 q2 q3 g0.1).ct ⟨rfl, MH.P hM.mS, rfl, mFr.mS.tr (mFr.u (by decide))⟩
  rwa [mS_id h22] at key

/-- a call whose end is told by a property -/
theorem Z.callVE {M M' : zM} {κ : zCtx} {u w pc k : Nat} {σ : zSt} {L : List (Nat × Value)} {st : List Value} {P : zSt → Prop} (B : zB M κ) {as : List Value} {v : Value} {idx n : Nat} {stk : List Value} (hd : decode M.2.1 pc = .ok (.invokevirtual idx, 3)) (hm : zMw M' n) (hi : Cond.instanceMethod M'.1 ∈ zT) (hs : Cond.selects M'.1.cls M'.1 M'.1 ∈ zT) (hlk : Cond.methodLink M.1.cls idx M'.1 ∈ zT) {ci : Nat} {q : vw_C} (hk : k < zN σ) (hKd : zK σ k = ci) (hci : ci < 13) (hq : vwCl[ci]? = some q) (hqc : q.1 = M'.1.cls)
    (hc : Ct M' (.ref k :: as) σ (fun r τ => r = some v ∧ P τ)) (hst : stk = as.reverse ++ .ref k :: st) (hn : as.length = n) (hrm : zRm2 M M' = true) (hz : zcells M' = 0 ∧ zslots M' = 0) (hcat : (st.map fun v => v.category).sum ≤ 8) (hu : u ≤ zcells M) (hw : w ≤ zslots M)
    (kk : ∀ τ, P τ → Z κ u w τ (pc + 3) L (v :: st)) : Z κ u w σ pc L stk := Z.callV B hd hc hst hm hi hs hlk hk hKd hci hq hqc hn hrm hcat (by rw [hz.1]; exact hu) (by rw [hz.2]; exact hw) (Or.inl hz.1) (by rintro r σ' ⟨rfl, hp⟩; rw [hz.1, hz.2]; exact kk _ hp)
/-- what is behind an item -/
def rs (T : Nat → Int32) (m f a : Nat) (d : HD) : Option Nat × Nat × HD := if a < m then (if T a = nI 59 then pr T m f (a + 1) d else (some a, 0, d)) else (none, 0, d)
theorem pr_b {T : Nat → Int32} {m f a x : Nat} {d : HD} (h : ipB T a d = some x) : pr T m (f + 1) a d = (some x, 1, d) := by simp only [pr, h]
theorem pr_g {T : Nat → Int32} {m f a : Nat} {d : HD} (h : ipB T a d = none) : pr T m (f + 1) a d = ((rs T m f (itN T a) (ipD T a d)).1, (rs T m f (itN T a) (ipD T a d)).2.1 + 1, (rs T m f (itN T a) (ipD T a d)).2.2) := by
  simp only [pr, h, rs]
  split
  · split <;> rfl
  · rfl
theorem HW.all {T : Nat → Int32} {m : Nat} : ∀ (f a : Nat) (d : HD), HW d → HW (pr T m f a d).2.2
  | 0, _, d, h => h
  | f + 1, a, d, h => by
    cases hB : ipB T a d with
    | some x => rw [pr_b hB]; exact h
    | none =>
      rw [pr_g hB]
      show HW (rs T m f (itN T a) (ipD T a d)).2.2
      unfold rs
      split
      · split
        · exact HW.all f _ _ (h.ip hB)
        · exact h.ip hB
      · exact h.ip hB
def gb : Option Nat → Nat
  | none => 1
  | some _ => 0
theorem itN_lt {T : Nat → Int32} {a : Nat} {d : HD} (h : ipB T a d = none) : a + 1 ≤ itN T a := by
  obtain ⟨h4, -, -⟩ := ipB_n h
  have h5 := wd_4 (T := T) (a := a)
  have h6 := (ps_le (T := T) (p := a + wl (wd T a)) (wc (wd T a))).1
  unfold itN
  have : 3 ≤ wl (wd T a) := by
    have : wd T a = 0 ∨ wd T a = 1 ∨ wd T a = 2 ∨ wd T a = 3 := by omega
    rcases this with e | e | e | e <;> rw [e] <;> decide
  omega

theorem go_M {κ : zCtx} (B : zB mX12_house κ) {T : Nat → Int32} {s m : Nat} {σ0 : zSt} (ht0 : zTm σ0 s m T) : ∀ (f : Nat) (σ : zSt) (d : HD) (a it : Nat), Lay σ → MH σ d → HW d → zTm σ s m T → zX σ 45 22 = nI a → mFr σ0 σ → it ≤ a → a < 2 ^ 28 → m ≤ a + f →
  (∀ τ, MH τ (rs T m f a d).2.2 → (∀ x, (rs T m f a d).1 = some x → zX τ 45 25 = nI x) → mFr σ0 τ → Z κ 0 0 τ 133 [(0, .ref 45), (1, .int (nI s)), (2, .int (nI 0)), (3, .int (nI (it + (rs T m f a d).2.1))), (4, .int (nI (gb (rs T m f a d).1)))] []) →
  Z κ 0 0 σ 62 [(0, .ref 45), (1, .int (nI s)), (2, .int (nI 0)), (3, .int (nI it)), (4, .int (nI 1))] []
  | 0, σ, d, a, it, hl, hM, hW, ht, h22, hf, hia, ha28, hfu, hend => by
    obtain ⟨⟨hs8, hm160⟩, ⟨hbs, hen⟩, hT, hwd⟩ := id ht
    refine Z.iload B dX12_house_62 (x := nI 1) rfl ?_
    refine Z.if_eqN B dX12_house_64 (tgt := 133) rfl (by omega) (fun h64 => by exfalso; first | omega | contradiction | simp_all) (fun h64 => ?_)
    refine Z.aload_n B dX12_house_67 (v := .ref 45) rfl rfl ?_
    refine Z.getI (σ := σ) B fX12_141_12 dX12_house_68 (hl.n (k := 45) (by decide)) (hl.k (k := 45) (by decide)) (by decide) (v := nI a) h22 ?_
    refine Z.aload_n B dX12_house_71 (v := .ref 45) rfl rfl ?_
    refine Z.getI (σ := σ) B fX12_144_12 dX12_house_72 (hl.n (k := 45) (by decide)) (hl.k (k := 45) (by decide)) (by decide) (v := nI m) hen ?_
    refine Z.icmp_geN B dX12_house_75 (tgt := 133) rfl (by omega) (by omega) (fun h75 => ?_) (fun h75 => (by omega))
    have hpr : rs T m 0 a d = (none, 0, d) := by unfold rs; rw [if_neg (by omega)]
    rw [hpr] at hend
    exact hend _ hM (fun x hx => by cases hx) hf
  | f + 1, σ, d, a, it, hl, hM, hW, ht, h22, hf, hia, ha28, hfu, hend => by
    obtain ⟨⟨hs8, hm160⟩, ⟨hbs, hen⟩, hT, hwd⟩ := id ht
    refine Z.iload B dX12_house_62 (x := nI 1) rfl ?_
    refine Z.if_eqN B dX12_house_64 (tgt := 133) rfl (by omega) (fun h64 => by exfalso; first | omega | contradiction | simp_all) (fun h64 => ?_)
    refine Z.aload_n B dX12_house_67 (v := .ref 45) rfl rfl ?_
    refine Z.getI (σ := σ) B fX12_141_12 dX12_house_68 (hl.n (k := 45) (by decide)) (hl.k (k := 45) (by decide)) (by decide) (v := nI a) h22 ?_
    refine Z.aload_n B dX12_house_71 (v := .ref 45) rfl rfl ?_
    refine Z.getI (σ := σ) B fX12_144_12 dX12_house_72 (hl.n (k := 45) (by decide)) (hl.k (k := 45) (by decide)) (by decide) (v := nI m) hen ?_
    refine Z.icmp_geN B dX12_house_75 (tgt := 133) rfl (by omega) (by omega) (fun h75 => ?_) (fun h75 => ?_)
    · skip
      have hpr : rs T m (f + 1) a d = (none, 0, d) := by unfold rs; rw [if_neg (by omega)]
      rw [hpr] at hend
      exact hend _ hM (fun x hx => by cases hx) hf
    · skip
      refine Z.eqσ (τ := (mS σ a (zX σ 45 24) (zX σ 45 25) (zX σ 61))) (mS_id h22).symm ?_
      refine Z.aload_n B dX12_house_78 (v := .ref 45) rfl rfl ?_
      refine Z.getR (σ := (mS σ a (zX σ 45 24) (zX σ 45 25) (zX σ 61))) B fX12_53_12 dX12_house_79 (hl.n (k := 45) (by decide)) (hl.k (k := 45) (by decide)) (by decide) (j := 58) (hl.r (k := 45) (f := 17) (by decide) (by decide)) ?_
      refine Z.aload_n B dX12_house_82 (v := .ref 45) rfl rfl ?_
      refine Z.getI (σ := (mS σ a (zX σ 45 24) (zX σ 45 25) (zX σ 61))) B fX12_147_12 dX12_house_83 (hl.n (k := 45) (by decide)) (hl.k (k := 45) (by decide)) (by decide) (v := nI (s * 160)) ((mS_f (by decide) (by decide) (by decide)).trans hbs) ?_
      refine Z.aload_n B dX12_house_86 (v := .ref 45) rfl rfl ?_
      refine Z.getI (σ := (mS σ a (zX σ 45 24) (zX σ 45 25) (zX σ 61))) B fX12_141_12 dX12_house_87 (hl.n (k := 45) (by decide)) (hl.k (k := 45) (by decide)) (by decide) (v := nI a) mS_a ?_
      refine Z.iaddN B dX12_house_90 (a := s * 160) (b := a) ?_
      refine Z.lald (σ := (mS σ a (zX σ 45 24) (zX σ 45 25) (zX σ 61))) B dX12_house_91 (n := 1280) (hl.n (k := 58) (by decide)) (hl.k (k := 58) (by decide)) (hl.l (k := 58) (by decide)) (by decide) (j := (s * 160) + a) rfl (by omega) (v := (zY (mS σ a (zX σ 45 24) (zX σ 45 25) (zX σ 61)) 58 ((s * 160) + a))) rfl ?_
      refine Z.l2i B dX12_house_92 ?_
      refine Z.eqS (st' := [.int (T a)]) (congrArg (fun z => Value.int z :: _) (ht.t (i := a) (by omega))) ?_
      refine Z.bipush B dX12_house_93 (v := nI 59) rfl ?_
      refine Z.icmp_eq B dX12_house_95 (tgt := 111) rfl (fun h95 => ?_) (fun h95 => ?_)
      · skip
        have hsc : T a = nI 59 := h95
        refine Z.aload_n B dX12_house_111 (v := .ref 45) rfl rfl ?_
        refine Z.dup B dX12_house_112 rfl ?_
        refine Z.getI (σ := (mS σ a (zX σ 45 24) (zX σ 45 25) (zX σ 61))) B fX12_141_12 dX12_house_113 (hl.n (k := 45) (by decide)) (hl.k (k := 45) (by decide)) (by decide) (v := nI a) mS_a ?_
        refine Z.iconst B dX12_house_116 (v := nI 1) rfl ?_
        refine Z.iaddN B dX12_house_117 (a := a) (b := 1) ?_
        refine Z.putI (σ := (mS σ a (zX σ 45 24) (zX σ 45 25) (zX σ 61))) B fX12_141_12 (ty := .int) ⟨_, _, _, rfl, rfl, by decide +kernel⟩ dX12_house_118 (hl.n (k := 45) (by decide)) (hl.k (k := 45) (by decide)) (by decide) rfl rfl (τ := (zuX (mS σ a (zX σ 45 24) (zX σ 45 25) (zX σ 61)) 45 (upd (zX (mS σ a (zX σ 45 24) (zX σ 45 25) (zX σ 61)) 45) 22 (nI (a + 1))))) rfl ?_
        refine Z.eqσ (τ := (mS σ (a + 1) (zX σ 45 24) (zX σ 45 25) (zX σ 61))) mS_ua ?_
        refine Z.iincN B dX12_house_121 (by decide) (a := it) rfl (L' := [(0, .ref 45), (1, .int (nI s)), (2, .int (nI 0)), (3, .int (nI (it + 1))), (4, .int (nI 1))]) rfl ?_
        refine Z.aload_n B dX12_house_124 (v := .ref 45) rfl rfl ?_
        rcases hB : ipB T (a + 1) d with _ | x
        · skip
          refine Z.callVE (σ := (mS σ (a + 1) (zX σ 45 24) (zX σ 45 25) (zX σ 61))) B (M' := mX12_item) (as := []) (st := []) dX12_house_125 wX12_item iX12_item sX12_item kX12_183 (hl.n (k := 45) (by decide)) (hl.k (k := 45) (by decide)) (by decide) rfl rfl (it_Mg (σ := (mS σ (a + 1) (zX σ 45 24) (zX σ 45 25) (zX σ 61))) hl (ht.m mFr.mS) hM.mS hW (by omega) mS_a hB) rfl rfl (by decide) (by decide) (Nat.le_of_ble_eq_true rfl) (by decide) (by decide) ?_
          rintro τ ⟨hM2, h222, hf2⟩
          refine Z.istore B dX12_house_128 (by decide) (L' := [(0, .ref 45), (1, .int (nI s)), (2, .int (nI 0)), (3, .int (nI (it + 1))), (4, .int (nI 1))]) rfl ?_
          refine Z.goto B dX12_house_130 (tgt := 62) rfl ?_
          have hpr := pr_g (m := m) (f := f) hB
          have hrs : rs T m (f + 1) a d = pr T m (f + 1) (a + 1) d := by unfold rs; rw [if_pos (by omega), if_pos hsc]
          rw [hrs, hpr] at hend
          have hlt := itN_lt hB
          have hle := itN_le (T := T) (a := a + 1)
          exact go_M B ht0 f _ (ipD T (a + 1) d) (itN T (a + 1)) (it + 1) (hl.m (mFr.mS.tr hf2)) hM2 (hW.ip hB) (ht.m (mFr.mS.tr hf2)) h222 (hf.tr (mFr.mS.tr hf2)) (by omega) (by omega) (by omega) (fun υ g1 g2 g3 => by have := hend υ g1 g2 g3; rwa [show it + ((rs T m f (itN T (a + 1)) (ipD T (a + 1) d)).2.1 + 1) = it + 1 + (rs T m f (itN T (a + 1)) (ipD T (a + 1) d)).2.1 by omega] at this)
        · skip
          refine Z.callVE (σ := (mS σ (a + 1) (zX σ 45 24) (zX σ 45 25) (zX σ 61))) B (M' := mX12_item) (as := []) (st := []) dX12_house_125 wX12_item iX12_item sX12_item kX12_183 (hl.n (k := 45) (by decide)) (hl.k (k := 45) (by decide)) (by decide) rfl rfl (it_Mb (σ := (mS σ (a + 1) (zX σ 45 24) (zX σ 45 25) (zX σ 61))) hl (ht.m mFr.mS) hM.mS hW (by omega) mS_a hB) rfl rfl (by decide) (by decide) (Nat.le_of_ble_eq_true rfl) (by decide) (by decide) ?_
          rintro τ ⟨a1, t1, r1, rfl⟩
          refine Z.istore B dX12_house_128 (by decide) (L' := [(0, .ref 45), (1, .int (nI s)), (2, .int (nI 0)), (3, .int (nI (it + 1))), (4, .int (nI 0))]) rfl ?_
          refine Z.goto B dX12_house_130 (tgt := 62) rfl ?_
          refine Z.iload B dX12_house_62 (x := nI 0) rfl ?_
          refine Z.if_eqN B dX12_house_64 (tgt := 133) rfl (by omega) (fun h64 => ?_) (fun h64 => by exfalso; first | omega | contradiction | simp_all)
          have hpr : rs T m (f + 1) a d = (some x, 1, d) := by unfold rs; rw [if_pos (by omega), if_pos hsc, pr_b hB]
          rw [hpr] at hend
          exact hend _ hM.mS.mS (fun y hy => by cases hy; exact mS_w) (hf.tr (mFr.mS.tr mFr.mS))
      · skip
        have hsc : ¬ T a = nI 59 := h95
        refine Z.aload_n B dX12_house_98 (v := .ref 45) rfl rfl ?_
        refine Z.aload_n B dX12_house_99 (v := .ref 45) rfl rfl ?_
        refine Z.getI (σ := (mS σ a (zX σ 45 24) (zX σ 45 25) (zX σ 61))) B fX12_141_12 dX12_house_100 (hl.n (k := 45) (by decide)) (hl.k (k := 45) (by decide)) (by decide) (v := nI a) mS_a ?_
        refine Z.callVI (σ := (mS σ a (zX σ 45 24) (zX σ 45 25) (zX σ 61))) B (M' := mX12_wrong) (as := [.int (nI a)]) (st := []) (v := .int (nI 0)) dX12_house_103 wX12_wrong iX12_wrong sX12_wrong kX12_154 (hl.n (k := 45) (by decide)) (hl.k (k := 45) (by decide)) (by decide) rfl rfl (t_X12_wrong (σ := σ) (t := zX σ 45 24) (w := zX σ 45 25) (r := zX σ 61) hl ht (a := a) (by omega) (p := nI a)) rfl rfl (by decide) (by decide) (Nat.le_of_ble_eq_true rfl) (by decide) (by decide) ?_
        refine Z.istore B dX12_house_106 (by decide) (L' := [(0, .ref 45), (1, .int (nI s)), (2, .int (nI 0)), (3, .int (nI it)), (4, .int (nI 0))]) rfl ?_
        refine Z.goto B dX12_house_108 (tgt := 62) rfl ?_
        refine Z.iload B dX12_house_62 (x := nI 0) rfl ?_
        refine Z.if_eqN B dX12_house_64 (tgt := 133) rfl (by omega) (fun h64 => ?_) (fun h64 => by exfalso; first | omega | contradiction | simp_all)
        have hpr : rs T m (f + 1) a d = (some a, 0, d) := by unfold rs; rw [if_pos (by omega), if_neg hsc]
        rw [hpr] at hend
        exact hend _ hM.mS (fun y hy => by cases hy; exact mS_w) (hf.tr mFr.mS)
