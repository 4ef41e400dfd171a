/-! houses read: the class, an item in its data -/
theorem KH.of {σ τ : zSt} {h : Nat} {d : HD} (hK : KH σ h d) (e0 : zX τ h = zX σ h) (e1 : zX τ (h + 1) = zX σ (h + 1)) (e2 : zX τ (h + 2) = zX σ (h + 2)) (e3 : zX τ (h + 3) = zX σ (h + 3)) (e4 : zR τ (h + 4) = zR σ (h + 4)) (hw : ∀ q kd pa w, zWo σ q kd pa w → zWo τ q kd pa w) : KH τ h d := by
  obtain ⟨⟨a1, a2, a3, a4⟩, ⟨b1, b2, b3⟩, c1, c2⟩ := hK
  refine ⟨⟨by rw [e0]; exact a1, by rw [e0]; exact a2, by rw [e0]; exact a3, by rw [e0]; exact a4⟩, ⟨e1.trans b1, e2.trans b2, e3.trans b3⟩, fun w hw2 => ?_, fun w hw2 => by rw [e4]; exact c2 w hw2⟩
  obtain ⟨q, q1, q2⟩ := c1 w hw2
  exact ⟨q, by rw [e4]; exact q1, hw _ _ _ _ q2⟩
theorem KH.fr {lo hi : Nat} {W : Option Nat} {σ τ : zSt} {h : Nat} {d : HD} (hK : KH σ h d) (hf : zFr lo hi W σ τ) (hl : Lay σ) (hh : hi < 66) (hw : ∀ k, W = some k → k < 66) (h1 : h + 4 < 66) (h2 : h + 3 < lo ∨ hi < h) (h3 : W ≠ some (h + 4)) : KH τ h d :=
  hK.of ((hf.2 _ (hl.n (by omega))).2.2.1 (by omega)).1 ((hf.2 _ (hl.n (by omega))).2.2.1 (by omega)).1 ((hf.2 _ (hl.n (by omega))).2.2.1 (by omega)).1 ((hf.2 _ (hl.n (by omega))).2.2.1 (by omega)).1 ((hf.2 _ (hl.n (by omega))).2.2.2 h3) fun q kd pa w hq => hq.fr hf hh hw
theorem zFr.tS {σ : zSt} {a : Nat} {f : Int32} {r : Nat → Int32} : zFr 34 42 (some 39) σ (tS σ a f r) := zFr.tr (zFr.uX (by decide) (by decide)) (zFr.uX (by decide) (by decide))
theorem zCl.tS {σ : zSt} {a : Nat} {f : Int32} {r : Nat → Int32} (h : zCl σ) : zCl (tS σ a f r) := h
theorem zCl.mkW {σ : zSt} {ci kd num pa : Nat} (h : zCl σ) (h18 : 18 < zN σ) : zCl (wS σ ci kd num pa) := by
  have h1 : zCl (zuX (zNew σ ci 0) (zN σ) (upd (upd (upd (zX (zNew σ ci 0) (zN σ)) 0 (nI kd)) 1 (nI num)) 2 (nI pa))) := (h.new (c := ci) (n := 0)).uX
  exact zCl.up (j := 3) h1 (Nat.lt_succ_of_lt h18)
theorem zCl.adW {σ : zSt} {h kd pa y : Nat} (hc : zCl σ) (h18 : 18 < zN σ) (hh : h + 4 < zN σ) : zCl (aW σ h kd pa y) := by
  have h1 : zCl (wS σ (zWk kd) kd y pa) := hc.mkW h18
  have e : zR (wS σ (zWk kd) kd y pa) (h + 4) = zR σ (h + 4) := (wS_o (by omega)).2.2.2.2
  have h2 : zCl (zuR (wS σ (zWk kd) kd y pa) (h + 4) (va_up (zR (wS σ (zWk kd) kd y pa) (h + 4)) y (some (zN σ)))) := zCl.up (j := y) (q := zN σ) h1 (by rw [wS_n.1]; omega)
  rw [e] at h2
  exact h2.uX
theorem KH.tS {σ : zSt} {a : Nat} {f : Int32} {r : Nat → Int32} {d : HD} (hK : KH σ 35 d) : KH (tS σ a f r) 35 d :=
  hK.of (tS_o (by decide) (by decide)) (tS_o (by decide) (by decide)) (tS_o (by decide) (by decide)) (tS_o (by decide) (by decide)) rfl fun q kd pa w hq => hq.fr zFr.tS (by decide) (fun k e => by cases e; decide)
theorem zWo.uX' {σ : zSt} {q kd pa num k : Nat} {f : Nat → Int32} (h : zWo σ q kd pa num) (hk : k < 66) : zWo (zuX σ k f) q kd pa num := h.uX hk
/-- a way added to the house at h -/
theorem KH.adW {σ : zSt} {h kd pa : Nat} {d : HD} (hK : KH σ h d) (hl : Lay σ) (hh : h + 4 < 66) (hk : kd ≤ 6) (hp : pa ≤ 99) (h8 : Hy d < 8) : KH (aW σ h kd pa (Hy d)) h (hY d kd pa) := by
  obtain ⟨⟨a1, a2, a3, a4⟩, ⟨b1, b2, b3⟩, c1, c2⟩ := hK
  have hN : ∀ k, k < 66 → k ≠ zN σ := fun k hk => by have := hl.1; omega
  have x0 : zX (aW σ h kd pa (Hy d)) h = upd (zX σ h) 7 (nI (Hy d + 1)) := zX_self
  have xo : ∀ k, k < 66 → k ≠ h → zX (aW σ h kd pa (Hy d)) k = zX σ k := fun k hk hne => (zX_n hne).trans (wS_o (hN k hk)).2.2.1
  have r0 : zR (aW σ h kd pa (Hy d)) (h + 4) = va_up (zR σ (h + 4)) (Hy d) (some (zN σ)) := zfu_self
  have hfr : zFr h h (some (h + 4)) σ (aW σ h kd pa (Hy d)) := zFr.aW (Nat.le_refl _) (Nat.le_refl _)
  refine ⟨⟨?_, ?_, ?_, ?_⟩, ⟨(xo _ (by omega) (by omega)).trans b1, (xo _ (by omega) (by omega)).trans b2, (xo _ (by omega) (by omega)).trans b3⟩, fun w hw => ?_, fun w hw => ?_⟩
  · rw [x0, upd_ne (by decide)]; exact a1
  · rw [x0, upd_ne (by decide)]; exact a2
  · rw [x0, upd_self]; rfl
  · rw [x0, upd_ne (by decide)]; exact a4
  · rw [r0]
    show ∃ q, va_up (zR σ (h + 4)) (Hy d) (some (zN σ)) w = some q ∧ zWo (aW σ h kd pa (Hy d)) q (if w = Hy d then kd else Hk d w) (if w = Hy d then pa else Hp d w) w
    rcases (by have : w < Hy d + 1 := hw; omega : w = Hy d ∨ w < Hy d) with e | hw2
    · rw [e, if_pos rfl, if_pos rfl]
      refine ⟨zN σ, by simp [va_up], ?_⟩
      obtain ⟨n1, n2, n3, n4, n5, n6⟩ := wS_n (σ := σ) (ci := zWk kd) (kd := kd) (num := Hy d) (pa := pa)
      have xN : zX (aW σ h kd pa (Hy d)) (zN σ) = zX (wS σ (zWk kd) kd (Hy d) pa) (zN σ) := zX_n (by have := hl.1; omega)
      have rN : zR (aW σ h kd pa (Hy d)) (zN σ) = zR (wS σ (zWk kd) kd (Hy d) pa) (zN σ) := zfu_ne (by have := hl.1; omega)
      refine ⟨by show zN σ < zN σ + 1; omega, n2, by rw [rN]; exact n6, by rw [xN]; exact n3, by rw [xN]; exact n4, by rw [xN]; exact n5, hk, hp, h8, hl.1⟩
    · rw [if_neg (by omega), if_neg (by omega)]
      obtain ⟨q, q1, q2⟩ := c1 w hw2
      exact ⟨q, by simp only [va_up]; rw [if_neg (by omega)]; exact q1, q2.fr hfr (by omega) (fun k e => by cases e; omega)⟩
  · rw [r0]
    have hw : Hy d + 1 ≤ w := hw
    simp only [va_up]; rw [if_neg (by omega)]; exact c2 w (by omega)
/-- behind an item -/
def itP (T : Nat → Int32) (a : Nat) (d : HD) (σ τ : zSt) : Prop := zFr 34 42 (some 39) σ τ ∧ zCl τ ∧ (∀ x, ipB T a d = some x → KH τ 35 d ∧ zX τ 34 3 = nI x) ∧ (ipB T a d = none → KH τ 35 (ipD T a d) ∧ zX τ 34 2 = nI (itN T a) ∧ zX τ 34 3 = (-1))
theorem itP_t {T : Nat → Int32} {a : Nat} {d : HD} {σ : zSt} (hl : Lay σ) (hK : KH σ 35 d) (hW : HW d) (hc : zCl σ) : itP T a d σ (itG T σ a (Hn d) (Ha d) (Hy d)) := by
  unfold itP itG
  have hB : ipB T a d = itB T a (Hn d) (Ha d) (Hy d) := rfl
  unfold itB at hB
  by_cases h4 : wd T a = 4
  · rw [if_pos h4] at hB ⊢
    rw [hB]
    exact ⟨zFr.tS, hc.tS, fun x hx => by cases hx; exact ⟨hK.tS, tS_f⟩, fun h => by cases h⟩
  rw [if_neg h4] at hB ⊢
  by_cases hf : ful (wd T a) (Hn d) (Ha d) (Hy d) = true
  · rw [if_pos hf] at hB ⊢
    rw [hB]
    exact ⟨zFr.tS, hc.tS, fun x hx => by cases hx; exact ⟨hK.tS, tS_f⟩, fun h => by cases h⟩
  rw [if_neg hf] at hB ⊢
  by_cases hb : fbd T (a + wl (wd T a)) (Ha d) (wd T a) < wc (wd T a)
  · rw [if_pos hb] at hB ⊢
    rw [hB]
    exact ⟨zFr.tS, hc.tS, fun x hx => by cases hx; exact ⟨hK.tS, tS_f⟩, fun h => by cases h⟩
  rw [if_neg hb] at hB ⊢
  have hWn := hW.ip hB
  obtain ⟨-, -, hk⟩ := ipB_n hB
  have hw4 := wd_4 (T := T) (a := a)
  have hbd := hW.1
  rw [hB]
  rw [show ps T (a + wl (wd T a)) (wc (wd T a)) = itN T a from rfl]
  have hl1 : Lay (tS σ (itN T a) (-1) (fi (wc (wd T a)) (vs T (a + wl (wd T a))) (zX σ 42))) := hl
  have hK1 := hK.tS (a := itN T a) (f := -1) (r := fi (wc (wd T a)) (vs T (a + wl (wd T a))) (zX σ 42))
  have hc1 := hc.tS (a := itN T a) (f := -1) (r := fi (wc (wd T a)) (vs T (a + wl (wd T a))) (zX σ 42))
  have hf1 := zFr.tS (σ := σ) (a := itN T a) (f := -1) (r := fi (wc (wd T a)) (vs T (a + wl (wd T a))) (zX σ 42))
  have e42 : ∀ j, j < wc (wd T a) → zX (tS σ (itN T a) (-1) (fi (wc (wd T a)) (vs T (a + wl (wd T a))) (zX σ 42))) 42 j = vs T (a + wl (wd T a)) j := fun j hj => by rw [tS_r, fi_at hj]
  have e2 : zX (tS σ (itN T a) (-1) (fi (wc (wd T a)) (vs T (a + wl (wd T a))) (zX σ 42))) 34 2 = nI (itN T a) := tS_a
  have e3 : zX (tS σ (itN T a) (-1) (fi (wc (wd T a)) (vs T (a + wl (wd T a))) (zX σ 42))) 34 3 = -1 := tS_f
  generalize tS σ (itN T a) (-1) (fi (wc (wd T a)) (vs T (a + wl (wd T a))) (zX σ 42)) = τ at hl1 hK1 hc1 hf1 e42 e2 e3 ⊢
  suffices h : zFr 34 42 (some 39) τ (tlS τ (wd T a) (Hn d) (Ha d) (Hy d)) ∧ zCl (tlS τ (wd T a) (Hn d) (Ha d) (Hy d)) ∧ KH (tlS τ (wd T a) (Hn d) (Ha d) (Hy d)) 35 (ipD T a d) ∧ zX (tlS τ (wd T a) (Hn d) (Ha d) (Hy d)) 34 = zX τ 34 from
    ⟨hf1.tr h.1, h.2.1, fun x hx => (by cases hx), fun _ => ⟨h.2.2.1, by rw [h.2.2.2]; exact e2, by rw [h.2.2.2]; exact e3⟩⟩
  unfold tlS ipD
  obtain ⟨⟨a1, a2, a3, a4⟩, ⟨b1, b2, b3⟩, c1, c2⟩ := hK1
  have : wd T a = 0 ∨ wd T a = 1 ∨ wd T a = 2 ∨ wd T a = 3 := by omega
  rcases this with hw | hw | hw | hw
  · rw [hw] at e42 ⊢
    rw [if_pos rfl, if_pos rfl]
    refine ⟨zFr.tr (zFr.uX (by decide) (by decide)) (zFr.uX (by decide) (by decide)), hc1.uX.uX, ⟨⟨?_, ?_, ?_, ?_⟩, ⟨?_, b2, b3⟩, fun w hw2 => ?_, c2⟩, rfl⟩
    · rw [zX_self, upd_self]; rfl
    · rw [zX_self, upd_ne (by decide)]; exact a2
    · rw [zX_self, upd_ne (by decide)]; exact a3
    · rw [zX_self, upd_ne (by decide)]; exact a4
    · show zX (zuX τ 36 _) 36 = _
      rw [zX_self]
      have b1 : zX τ 36 = HF d := b1
      rw [b1]
      exact cpy_cg e42
    · obtain ⟨q, q1, q2⟩ := c1 w hw2
      exact ⟨q, q1, (q2.uX (by decide)).uX (by decide)⟩
  · rw [hw] at e42 ⊢
    rw [if_neg (by decide), if_pos rfl, if_neg (by decide), if_pos rfl]
    refine ⟨zFr.tr (zFr.tr (zFr.uX (by decide) (by decide)) (zFr.uX (by decide) (by decide))) (zFr.uX (by decide) (by decide)), hc1.uX.uX.uX, ⟨⟨?_, ?_, ?_, ?_⟩, ⟨b1, ?_, ?_⟩, fun w hw2 => ?_, c2⟩, rfl⟩
    · rw [zX_self, upd_ne (by decide)]; exact a1
    · rw [zX_self, upd_self]; rfl
    · rw [zX_self, upd_ne (by decide)]; exact a3
    · rw [zX_self, upd_ne (by decide)]; exact a4
    · show zX (zuX (zuX τ 37 _) 38 _) 37 = _
      rw [zX_n (by decide), zX_self]
      have b2 : zX τ 37 = HA d := b2
      rw [b2, e42 0 (by decide), e42 1 (by decide), e42 2 (by decide)]; rfl
    · have b3 : zX τ 38 = HO d := b3
      show zX (zuX (zuX τ 37 (upd (upd (upd (zX τ 37) (Ha d * 3) (zX τ 42 0)) (Ha d * 3 + 1) (zX τ 42 1)) (Ha d * 3 + 2) (zX τ 42 2))) 38 (upd (zX τ 38) (Ha d) (nI (Ha d)))) 38 = _
      rw [zX_self]
      have b3 : zX τ 38 = HO d := b3
      rw [b3]; rfl
    · obtain ⟨q, q1, q2⟩ := c1 w hw2
      exact ⟨q, q1, ((q2.uX (by decide)).uX (by decide)).uX (by decide)⟩
  · rw [hw] at e42 hk ⊢
    rw [if_neg (by decide), if_neg (by decide), if_pos rfl, if_neg (by decide), if_neg (by decide), if_pos rfl]
    rw [e42 0 (by decide), e42 1 (by decide)]
    obtain ⟨x0, g0, f0⟩ := nok_N (M := 6) (hk 0 (by decide)) (by show (zA2 0).toInt = _; decide)
    obtain ⟨x1, g1, f1⟩ := nok_N (M := 99) (hk 1 (by decide)) (by show (zA2 1).toInt = _; decide)
    have f0 : vs T (a + wl 2) 0 = nI x0 := f0
    have f1 : vs T (a + wl 2) 1 = nI x1 := f1
    rw [f0, f1, tN_nI (by omega), tN_nI (by omega)]
    have h8 : Hy d < 8 := by
      rcases Nat.lt_or_ge (Hy d) 8 with h8 | h8
      · exact h8
      · exact absurd (by rw [hw]; simp [ful, show Hy d = 8 by omega]) hf
    have hn18 : 18 < zN τ := hl1.n (by decide)
    have hn39 : 35 + 4 < zN τ := hl1.n (by decide)
    have hKt : KH τ 35 d := ⟨⟨a1, a2, a3, a4⟩, ⟨b1, b2, b3⟩, c1, c2⟩
    refine ⟨zFr.aW (by decide) (by decide), hc1.adW hn18 hn39, hKt.adW hl1 (by decide) g0 g1 h8, ?_⟩
    have hN : 34 ≠ zN τ := by have := hl1.1; omega
    exact (zX_n (by decide)).trans (wS_o hN).2.2.1
  · rw [hw] at e42 hk ⊢
    rw [if_neg (by decide), if_neg (by decide), if_neg (by decide), if_neg (by decide), if_neg (by decide), if_neg (by decide)]
    have b3 : zX τ 38 = HO d := b3
    rw [e42 0 (by decide), b3]
    refine ⟨zFr.uX (by decide) (by decide), hc1.uX, ⟨⟨a1, a2, a3, a4⟩, ⟨b1, b2, ?_⟩, fun w hw2 => ?_, c2⟩, rfl⟩
    · show zX (zuX τ 38 _) 38 = _
      rw [zX_self]; rfl
    · obtain ⟨q, q1, q2⟩ := c1 w hw2
      exact ⟨q, q1, q2.uX (by decide)⟩
