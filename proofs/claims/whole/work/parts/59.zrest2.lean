/-! bodies' numbers, rankings told, images, houses read -/
theorem Rel.r64 {σ : zSt} {j : Nat} {f : Nat → Int32} (h : Rel σ) : Rel (zuX (zuX (zuX σ 43 (upd (zX σ 43) j (zX σ 43 j + nI 1))) 64 f) 46 (upd (zX σ 46) j (zX σ 46 j + nI 1))) := by
  have e : zuX (zuX (zuX σ 43 (upd (zX σ 43) j (zX σ 43 j + nI 1))) 64 f) 46 (upd (zX σ 46) j (zX σ 46 j + nI 1)) = zuX (zuX (zuX σ 43 (upd (zX σ 43) j (zX σ 43 j + nI 1))) 46 (upd (zX σ 46) j (zX σ 46 j + nI 1))) 64 f := zuX_cm (by decide)
  rw [e]
  exact h.r.u rfl
section
variable {σ : zSt} {d e : HD} {b : Nat}
theorem ShR.n {y s k : Nat} {f : Nat → Int32} (h : ShR σ y s) (hs : s < 8) (hk : k = 18 ∨ k = 19 ∨ k = 45 ∨ k = 65) : ShR (zuX σ k f) y s := by
  unfold ShR zRw zMr zWa zMa zNo zMn at h ⊢
  have X : ∀ j, j ≠ k → zX (zuX σ k f) j = zX σ j := fun j hj => zX_n hj
  rw [X (2 + 2 * s) (by omega), X 54 (by omega), X 55 (by omega), X 56 (by omega), X 57 (by omega)]
  exact h
theorem RelD.t (h : RelD σ d e b) {r : Nat} {F G : Nat → Int32} (hr : r < 2 ^ 31) (hFG : F = G) : Rel (zuX (zuX (zuX (zuX σ 18 (upd (zX σ 18) 1 (nI r))) 19 F) 45 (upd (zX σ 45) 31 (nI r))) 65 G) := by
  obtain ⟨hW, hK, hM, hl, hc, hs8, h08, h43, hTr, hg, hz, hwd, hIm⟩ := h
  have hw : ∀ q kd pa w, zWo σ q kd pa w → zWo (zuX (zuX (zuX (zuX σ 18 (upd (zX σ 18) 1 (nI r))) 19 F) 45 (upd (zX σ 45) 31 (nI r))) 65 G) q kd pa w := fun _ _ _ _ hq => (((hq.uX' (by decide)).uX' (by decide)).uX' (by decide)).uX' (by decide)
  obtain ⟨⟨a1, a2, a3, a4⟩, ⟨b1, b2, b3, b4, b5⟩, c⟩ := hM
  obtain ⟨i1, i2, i3, i4, i5⟩ := hIm
  refine ⟨d, e, b, hW, hK.of rfl rfl rfl rfl rfl hw, ⟨⟨a1, a2, a3, a4⟩, ⟨b1, b2, b3, b4, b5⟩, c⟩, hl, hc, fun s hs => ((((hs8 s hs).n hs (by decide)).n hs (by decide)).n hs (by decide)).n hs (by decide), h08, h43, ⟨hFG, r, hr, rfl, rfl⟩, hg, hz, hwd, i1, i2, i3, i4, fun hb => ?_⟩
  obtain ⟨g1, g2, g3⟩ := i5 hb
  exact ⟨g1, g2.of rfl rfl rfl rfl rfl hw, g3⟩
theorem RelD.t0 (h : RelD σ d e b) {r : Nat} (hr : r < 2 ^ 31) : Rel (zuX (zuX σ 18 (upd (zX σ 18) 1 (nI r))) 45 (upd (zX σ 45) 31 (nI r))) := by
  obtain ⟨hW, hK, hM, hl, hc, hs8, h08, h43, hTr, hg, hz, hwd, hIm⟩ := h
  have hw : ∀ q kd pa w, zWo σ q kd pa w → zWo (zuX (zuX σ 18 (upd (zX σ 18) 1 (nI r))) 45 (upd (zX σ 45) 31 (nI r))) q kd pa w := fun _ _ _ _ hq => (hq.uX' (by decide)).uX' (by decide)
  obtain ⟨⟨a1, a2, a3, a4⟩, ⟨b1, b2, b3, b4, b5⟩, c⟩ := hM
  obtain ⟨i1, i2, i3, i4, i5⟩ := hIm
  refine ⟨d, e, b, hW, hK.of rfl rfl rfl rfl rfl hw, ⟨⟨a1, a2, a3, a4⟩, ⟨b1, b2, b3, b4, b5⟩, c⟩, hl, hc, fun s hs => ((hs8 s hs).n hs (by decide)).n hs (by decide), h08, h43, ⟨hTr.1, r, hr, rfl, rfl⟩, hg, hz, hwd, i1, i2, i3, i4, fun hb => ?_⟩
  obtain ⟨g1, g2, g3⟩ := i5 hb
  exact ⟨g1, g2.of rfl rfl rfl rfl rfl hw, g3⟩
/-- an image -/
def imS (σ : zSt) : zSt := zuX (zuX (zuR (zuX (zuX (zuX σ 28 (zX σ 21)) 29 (zX σ 22)) 30 (zX σ 23)) 31 (zR σ 24)) 27 (upd (upd (upd (upd (zX σ 27) 2 (zX σ 20 2)) 5 (zX σ 20 5)) 7 (zX σ 20 7)) 8 (zX σ 20 8))) 0 (upd (zX σ 0) 7 (nI 1))
def imT (σ : zSt) (n a y : Nat) : zSt := zuX (zuX (imS σ) 45 (upd (zX σ 45) 32 (nI 1))) 63 (svX σ 63 n a y)
theorem RelD.image (h : RelD σ d e b) : Rel (imT σ (Hn d) (Ha d) (Hy d)) := by
  obtain ⟨hW, hK, hM, hl, hc, hs8, h08, h43, hTr, hg, hz, hwd, hIm⟩ := id h
  have hw : ∀ q kd pa w, zWo σ q kd pa w → zWo (imT σ (Hn d) (Ha d) (Hy d)) q kd pa w := fun q kd pa w hq => by
    have e1 : zWo (zuX (zuX (zuX σ 28 (zX σ 21)) 29 (zX σ 22)) 30 (zX σ 23)) q kd pa w := ((hq.uX' (by decide)).uX' (by decide)).uX' (by decide)
    have e2 : zWo (zuR (zuX (zuX (zuX σ 28 (zX σ 21)) 29 (zX σ 22)) 30 (zX σ 23)) 31 (zR σ 24)) q kd pa w := by
      obtain ⟨h1, h2, h3, h4, h5, h6, h7, h8, h9, h10⟩ := e1
      refine ⟨h1, h2, ?_, h4, h5, h6, h7, h8, h9, h10⟩
      show zfu _ 31 _ q 3 = _
      rw [zfu_ne (by omega)]; exact h3
    exact (((e2.uX' (by decide)).uX' (by decide)).uX' (by decide)).uX' (by decide)
  obtain ⟨⟨a1, a2, a3, a4⟩, ⟨b1, b2, b3, b4, b5⟩, c⟩ := id hM
  have hl2 : Lay (imT σ (Hn d) (Ha d) (Hy d)) := Lay.uR (σ := zuX (zuX (zuX σ 28 (zX σ 21)) 29 (zX σ 22)) 30 (zX σ 23)) (k := 31) (f := zR σ 24) hl (fun _ => rfl)
  have hc2 : zCl (imT σ (Hn d) (Ha d) (Hy d)) := zCl.uR (σ := zuX (zuX (zuX σ 28 (zX σ 21)) 29 (zX σ 22)) 30 (zX σ 23)) (k := 31) (f := zR σ 24) hc (fun j q hq => hc 24 j q hq)
  obtain ⟨z1, z2, z3, z4⟩ := hK.dz hW
  refine ⟨d, d, 1, hW, hK.of rfl rfl rfl rfl rfl hw, ⟨⟨a1, a2, a3, a4⟩, ⟨b1, b2, b3, b4, b5⟩, c⟩, hl2, hc2, fun s hs => ?_, h08, h43, hTr, hg, hz, hwd, ⟨z1, z2, z3, z4⟩, rfl, rfl, Nat.le_refl _, fun _ => ⟨hW, hK.over ⟨rfl, rfl, rfl, rfl⟩ rfl rfl rfl rfl hw, ?_⟩⟩
  · have h0 := hs8 s hs
    have e : zX (imT σ (Hn d) (Ha d) (Hy d)) (2 + 2 * s) = zX σ (2 + 2 * s) := by
      show zX (zuX (zuX (zuX (zuX (zuX (zuX (zuX σ 28 _) 29 _) 30 _) 27 _) 0 _) 45 _) 63 _) (2 + 2 * s) = _
      rw [zX_n (by omega), zX_n (by omega), zX_n (by omega), zX_n (by omega), zX_n (by omega), zX_n (by omega), zX_n (by omega)]
    unfold ShR zRw zWa zNo at h0 ⊢
    rw [e]
    exact h0
  · have h1 := MK.save (k := 63) hM hW (by decide)
    unfold MK
    rw [show zX (imT σ (Hn d) (Ha d) (Hy d)) 63 = zX (zuX σ 63 (svX σ 63 (Hn d) (Ha d) (Hy d))) 63 from rfl]
    exact h1
/-- an image taken back -/
def rsR (σ : zSt) : zSt := zuX (zuR (zuX (zuX (zuX σ 21 (zX σ 28)) 22 (zX σ 29)) 23 (zX σ 30)) 24 (zR σ 31)) 20 (upd (upd (upd (upd (zX σ 20) 2 (zX σ 27 2)) 5 (zX σ 27 5)) 7 (zX σ 27 7)) 8 (zX σ 27 8))
theorem RelD.restore (h : RelD σ d e 1) : Rel (zuX (bkS (rsS (Hy e) (rsR σ) 8) 63) 54 (rsM (Hy e) 8 (zX σ 54) (zX σ 57))) := by
  obtain ⟨hW, hK, hM, hl, hc, hs8, h08, h43, hTr, hg, hz, hwd, i1, i2, i3, i4, i5⟩ := id h
  obtain ⟨we, ke, me⟩ := i5 rfl
  have hy8 := we.1.2.2
  have hyd := hW.1.2.2
  have hl1 : Lay (rsR σ) := Lay.uR (σ := zuX (zuX (zuX σ 21 (zX σ 28)) 22 (zX σ 29)) 23 (zX σ 30)) (k := 24) (f := zR σ 31) hl (fun _ => rfl)
  have hc1 : zCl (rsR σ) := zCl.uR (σ := zuX (zuX (zuX σ 21 (zX σ 28)) 22 (zX σ 29)) 23 (zX σ 30)) (k := 24) (f := zR σ 31) hc (fun j q hq => hc 31 j q hq)
  obtain ⟨s1, s2, s3, s4, s5⟩ := rsS_same (y := Hy e) (σ := rsR σ) 8
  have hl2 : Lay (rsS (Hy e) (rsR σ) 8) := hl1.rsS
  have hc2 : zCl (rsS (Hy e) (rsR σ) 8) := by unfold zCl; rw [s1, s5]; exact hc1
  have X : ∀ k, (k = 0 ∨ 18 ≤ k) → zX (rsS (Hy e) (rsR σ) 8) k = zX (rsR σ) k := fun k hk => rsS_o 8 (fun t ht => by omega)
  have E0 : ∀ k, k ≠ 54 → zX (zuX (bkS (rsS (Hy e) (rsR σ) 8) 63) 54 (rsM (Hy e) 8 (zX σ 54) (zX σ 57))) k = zX (bkS (rsS (Hy e) (rsR σ) 8) 63) k := fun k hk => zX_n hk
  have B := hFr.b (σ := rsS (Hy e) (rsR σ) 8) (k := 63)
  have Y : ∀ k, k = 0 ∨ (18 ≤ k ∧ ¬ (k = 45 ∨ k = 46 ∨ (47 ≤ k ∧ k ≤ 54) ∨ k = 61 ∨ k = 62)) → zX (zuX (bkS (rsS (Hy e) (rsR σ) 8) 63) 54 (rsM (Hy e) 8 (zX σ 54) (zX σ 57))) k = zX (rsR σ) k := fun k hk => (E0 k (by omega)).trans ((B.2.1 k (by omega)).trans (X k (by omega)))
  have R : ∀ k, zR (zuX (bkS (rsS (Hy e) (rsR σ) 8) 63) 54 (rsM (Hy e) 8 (zX σ 54) (zX σ 57))) k = zR (rsR σ) k := fun k => by
    show zR (rsS (Hy e) (rsR σ) 8) k = _
    rw [s5]
  have Y46 : zX (zuX (bkS (rsS (Hy e) (rsR σ) 8) 63) 54 (rsM (Hy e) 8 (zX σ 54) (zX σ 57))) 46 = zX σ 46 := X 46 (Or.inr (by decide))
  have Y45 : ∀ f, 5 ≤ f → ¬ (21 ≤ f ∧ f ≤ 25) → zX (zuX (bkS (rsS (Hy e) (rsR σ) 8) 63) 54 (rsM (Hy e) 8 (zX σ 54) (zX σ 57))) 45 f = zX σ 45 f := fun f h1 h2 => by
    rw [E0 45 (by decide), B.2.2 f (by omega), X 45 (Or.inr (by decide))]
    rfl
  have Y454 : zX (zuX (bkS (rsS (Hy e) (rsR σ) 8) 63) 54 (rsM (Hy e) 8 (zX σ 54) (zX σ 57))) 45 4 = zX σ 45 4 := by
    show upd (upd (upd (upd (zX (rsS (Hy e) (rsR σ) 8) 45) 0 _) 1 _) 2 _) 3 _ 4 = _
    rw [upd_ne (by decide), upd_ne (by decide), upd_ne (by decide), upd_ne (by decide), X 45 (Or.inr (by decide))]
    rfl
  have hw : ∀ q kd pa w, zWo σ q kd pa w → zWo (zuX (bkS (rsS (Hy e) (rsR σ) 8) 63) 54 (rsM (Hy e) 8 (zX σ 54) (zX σ 57))) q kd pa w := fun q kd pa w hq => by
    obtain ⟨h1, h2, h3, h4, h5, h6, h7, h8, h9, h10⟩ := hq
    have ex : zX (zuX (bkS (rsS (Hy e) (rsR σ) 8) 63) 54 (rsM (Hy e) 8 (zX σ 54) (zX σ 57))) q = zX σ q := by
      rw [Y q (by omega)]
      show zX (zuX (zuX (zuX (zuX σ 21 _) 22 _) 23 _) 20 _) q = _
      rw [zX_n (by omega), zX_n (by omega), zX_n (by omega), zX_n (by omega)]
    have er : zR (zuX (bkS (rsS (Hy e) (rsR σ) 8) 63) 54 (rsM (Hy e) 8 (zX σ 54) (zX σ 57))) q = zR σ q := by
      rw [R q]
      exact zfu_ne (by omega)
    refine ⟨?_, ?_, by rw [er]; exact h3, by rw [ex]; exact h4, by rw [ex]; exact h5, by rw [ex]; exact h6, h7, h8, h9, h10⟩
    · show q < zN (rsS (Hy e) (rsR σ) 8)
      rw [s1]; exact h1
    · show zK (rsS (Hy e) (rsR σ) 8) q = _
      rw [s2]; exact h2
  have hMs : MH (rsS (Hy e) (rsR σ) 8) d := by
    unfold MH
    rw [X 45 (Or.inr (by decide)), X 47 (Or.inr (by decide)), X 48 (Or.inr (by decide)), X 49 (Or.inr (by decide)), X 50 (Or.inr (by decide)), X 51 (Or.inr (by decide)), X 52 (Or.inr (by decide)), X 53 (Or.inr (by decide))]
    exact hM
  have hKs : MK (rsS (Hy e) (rsR σ) 8) 63 e := by
    unfold MK
    rw [X 63 (Or.inr (by decide))]
    exact me
  have hMb : MH (bkS (rsS (Hy e) (rsR σ) 8) 63) e := MH.back hKs we hMs hW
  refine ⟨e, e, 1, we, ke.over ⟨?_, ?_, ?_, ?_⟩ ?_ ?_ ?_ ?_ hw, hMb, hl2, hc2, fun s hs => ?_, ?_, ?_, ?_, ?_, ?_, ?_, ?_, ?_, ?_, Nat.le_refl _, fun _ => ⟨we, ke.of ?_ ?_ ?_ ?_ ?_ hw, ?_⟩⟩
  · rw [Y 20 (by decide)]; rfl
  · rw [Y 20 (by decide)]; rfl
  · rw [Y 20 (by decide)]; rfl
  · rw [Y 20 (by decide)]; rfl
  · exact (Y 21 (by decide)).trans rfl
  · exact (Y 22 (by decide)).trans rfl
  · exact (Y 23 (by decide)).trans rfl
  · exact (R 24).trans rfl
  · obtain ⟨hst, hY⟩ := hs8 s hs
    have ex0 : zX (rsR σ) (2 + 2 * s) = zX σ (2 + 2 * s) := by
      show zX (zuX (zuX (zuX (zuX σ 21 _) 22 _) 23 _) 20 _) (2 + 2 * s) = _
      rw [zX_n (by omega), zX_n (by omega), zX_n (by omega), zX_n (by omega)]
    have ex : zX (zuX (bkS (rsS (Hy e) (rsR σ) 8) 63) 54 (rsM (Hy e) 8 (zX σ 54) (zX σ 57))) (2 + 2 * s) = if ¬ zX σ (2 + 2 * s) 3 = (-1) ∧ zOb (zX σ (2 + 2 * s) 3) (Hy e) = true then upd (upd (upd (zX σ (2 + 2 * s)) 3 (-1)) 1 (-1)) 2 (nI 0) else zX σ (2 + 2 * s) := by
      rw [E0 _ (by omega), B.2.1 _ (by omega), rsS_at 8 hs, ex0]
    have e54 : zX (zuX (bkS (rsS (Hy e) (rsR σ) 8) 63) 54 (rsM (Hy e) 8 (zX σ 54) (zX σ 57))) 54 = rsM (Hy e) 8 (zX σ 54) (zX σ 57) := zX_self
    have e55 : zX (zuX (bkS (rsS (Hy e) (rsR σ) 8) 63) 54 (rsM (Hy e) 8 (zX σ 54) (zX σ 57))) 55 = zX σ 55 := (Y 55 (by decide)).trans rfl
    have e56 : zX (zuX (bkS (rsS (Hy e) (rsR σ) 8) 63) 54 (rsM (Hy e) 8 (zX σ 54) (zX σ 57))) 56 = zX σ 56 := (Y 56 (by decide)).trans rfl
    have e57 : zX (zuX (bkS (rsS (Hy e) (rsR σ) 8) 63) 54 (rsM (Hy e) 8 (zX σ 54) (zX σ 57))) 57 = zX σ 57 := (Y 57 (by decide)).trans rfl
    have eY : zY (zuX (bkS (rsS (Hy e) (rsR σ) 8) 63) 54 (rsM (Hy e) 8 (zX σ 54) (zX σ 57))) = zY σ := by
      show zY (rsS (Hy e) (rsR σ) 8) = _
      rw [s4]; rfl
    unfold ShR zRw zMr zWa zMa zNo zMn
    unfold zRw zMr zWa zMa zNo zMn at hst
    rw [ex, e54, e55, e56, e57, eY]
    refine ⟨?_, hY⟩
    rcases hst with ⟨o, m, ha, hb⟩ | ⟨i8, hi8, ha, hb⟩ | ⟨ha, hb⟩
    · rw [if_neg (fun q => q.1 ha.2.2.2.2)]
      have : rsM (Hy e) 8 (zX σ 54) (zX σ 57) s = zX σ 54 s := by
        unfold rsM
        rw [if_neg (fun q => by rw [hb.1] at q; exact absurd q.2.1 (by decide))]
      rw [this]
      exact Or.inl ⟨o, m, ha, hb⟩
    · rw [ha.2.2.1]
      rcases Nat.lt_or_ge i8 (Hy e) with h1 | h1
      · rw [if_neg (fun q => by
          have := zOb_t.mp q.2
          rcases this with h2 | h2
          · exact nI_nneg (by omega) h2
          · rw [nq_le (by omega) (by omega)] at h2; omega)]
        have : rsM (Hy e) 8 (zX σ 54) (zX σ 57) s = zX σ 54 s := by
          unfold rsM
          rw [if_neg (fun q => by rw [hb.2.1, nq_le (by omega) (by omega)] at q; omega)]
        rw [this]
        exact Or.inr (Or.inl ⟨i8, h1, ha, hb⟩)
      · rw [if_pos ⟨fun q => zm1 (by omega) q, zOb_t.mpr (Or.inr ((nq_le (by omega) (by omega)).mpr h1))⟩]
        have : rsM (Hy e) 8 (zX σ 54) (zX σ 57) s = nI 0 := by
          unfold rsM
          rw [if_pos ⟨hs, hb.1, by rw [hb.2.1]; exact (nq_le (by omega) (by omega)).mpr h1⟩]
        rw [this]
        exact Or.inr (Or.inr ⟨⟨rfl, rfl, rfl⟩, rfl⟩)
    · rw [if_neg (fun q => q.1 ha.2.2)]
      have : rsM (Hy e) 8 (zX σ 54) (zX σ 57) s = zX σ 54 s := by
        unfold rsM
        rw [if_neg (fun q => by rw [hb] at q; exact absurd q.2.1 (by decide))]
      rw [this]
      exact Or.inr (Or.inr ⟨ha, hb⟩)
  · rw [Y 0 (by decide), Y454]; exact h08
  · rw [Y 43 (by decide), Y46]; exact h43
  · obtain ⟨t1, r, t2, t3, t4⟩ := hTr
    refine ⟨?_, r, t2, ?_, ?_⟩
    · rw [Y 19 (by decide), Y 65 (by decide)]; exact t1
    · rw [Y 18 (by decide)]; exact t3
    · rw [Y45 31 (by decide) (by decide)]; exact t4
  · rw [Y45 28 (by decide) (by decide)]; exact hg
  · exact hz.e ((Y 36 (by decide)).trans rfl) ((Y 37 (by decide)).trans rfl) ((Y 38 (by decide)).trans rfl) ((R 39).trans rfl)
  · intro j hj
    rw [Y 60 (by decide)]; exact hwd j hj
  · exact i1.e ((Y 28 (by decide)).trans rfl) ((Y 29 (by decide)).trans rfl) ((Y 30 (by decide)).trans rfl) ((R 31).trans rfl)
  · rw [Y 0 (by decide)]; exact i2
  · rw [Y45 32 (by decide) (by decide)]; exact i3
  · exact (Y 27 (by decide)).trans rfl
  · exact (Y 28 (by decide)).trans rfl
  · exact (Y 29 (by decide)).trans rfl
  · exact (Y 30 (by decide)).trans rfl
  · exact (R 31).trans rfl
  · unfold MK
    rw [Y 63 (by decide)]
    exact me
end

theorem pr_act {σ : zSt} (hR : Rel σ) {i : Int32} {v : Int32} {x : Int32} : Pair mX11_act mX12_act [.int i, .int v, .int x] σ := by
  obtain ⟨d, e, b0, h⟩ := id hR
  obtain ⟨hW, hK, hM, hl, hc, hs8, h08, h43, hTr, hg, hz, hwd, hIm⟩ := id h
  have H := h.hd
  have M := h.md
  have hn8 := hW.1.1
  have ha4 := hW.1.2.1
  have hy8 := hW.1.2.2
  obtain ⟨od, pos, ho, hm, hp, hod, hinj⟩ := h.od
  obtain ⟨E7, E8, E9, E50, E51⟩ := h.eqs
  have t1 : zX σ 19 = zX σ 65 := hTr.1
  rcases znt i (Hy d) (by omega) with hi | ⟨i, hi, rfl⟩
  · exact Pair.of (t_K_act_1 hl H hi) (t_M_act_1 (σ := zuX σ 18 _) hl M hi) rfl (h.t0 (by decide))
  · obtain ⟨q, hq, hw, hy⟩ := h.wy hi
    rcases znt v (3) (by decide) with hv | ⟨v, hv, rfl⟩
    · exact Pair.of (t_K_act_2 hl H hi hq hv) (t_M_act_2 (σ := zuX σ 18 _) hl M hi hv) rfl (h.t0 (by decide))
    · have hk6 := hy.2.2.1
      generalize Hk d i = kd at hw hy hk6
      generalize Hp d i = pa at hw hy
      rcases (by omega : v = 0 ∨ v = 1 ∨ v = 2) with rfl | rfl | rfl
      · rcases (by omega : kd = 0 ∨ kd = 1 ∨ kd = 2 ∨ kd = 3 ∨ kd = 4 ∨ kd = 5 ∨ kd = 6) with rfl | rfl | rfl | rfl | rfl | rfl | rfl
        · exact Pair.of (t_K_act_feels_0 hl H hi hq hw) (t_M_act_feels_0 (σ := zuX (zuX σ 18 _) 19 _) hl M hi hy) rfl (h.t (by decide) (by first | (rw [t1]; done) | (rw [t1]; rfl)))
        · exact Pair.of (t_K_act_feels_1 hl H hi hq hw) (t_M_act_feels_1 (σ := zuX (zuX σ 18 _) 19 _) hl M hi hy) rfl (h.t (by decide) (by first | (rw [t1]; done) | (rw [t1]; rfl)))
        · exact Pair.of (t_K_act_feels_2 hl H hi hq hw) (t_M_act_feels_2 (σ := zuX (zuX σ 18 _) 19 _) hl M hi hy) rfl (h.t (by decide) (by first | (rw [t1]; done) | (rw [t1]; rfl)))
        · exact Pair.of (t_K_act_feels_3 hl H hi hq hw) (t_M_act_feels_3 (σ := zuX (zuX σ 18 _) 19 _) hl M hi hy) rfl (h.t (by decide) (by first | (rw [t1]; done) | (rw [t1]; rfl)))
        · exact Pair.of (t_K_act_feels_4 hl H hi hq hw) (t_M_act_feels_4 (σ := zuX (zuX σ 18 _) 19 _) hl M hi hy) rfl (h.t (by decide) (by first | (rw [t1]; done) | (rw [t1]; rfl)))
        · exact Pair.of (t_K_act_feels_5 hl H hi hq hw) (t_M_act_feels_5 (σ := zuX (zuX σ 18 _) 19 _) hl M hi hy) rfl (h.t (by decide) (by first | (rw [t1]; done) | (rw [t1]; rfl)))
        · exact Pair.of (t_K_act_feels_6 hl H hi hq hw) (t_M_act_feels_6 (σ := zuX (zuX σ 18 _) 19 _) hl M hi hy) rfl (h.t (by decide) (by first | (rw [t1]; done) | (rw [t1]; rfl)))
      · rcases (by omega : kd = 0 ∨ kd = 1 ∨ kd = 2 ∨ kd = 3 ∨ kd = 4 ∨ kd = 5 ∨ kd = 6) with rfl | rfl | rfl | rfl | rfl | rfl | rfl
        · exact Pair.of (t_K_act_asks_0 hl H hi hq hw) (t_M_act_asks_0 (σ := zuX (zuX σ 18 _) 19 _) hl M hi hy) rfl (h.t (by decide) (by first | (rw [t1]; done) | (rw [t1]; rfl)))
        · exact Pair.of (t_K_act_asks_1 hl H hi hq hw) (t_M_act_asks_1 (σ := zuX (zuX σ 18 _) 19 _) hl M hi hy) rfl (h.t (by decide) (by first | (rw [t1]; done) | (rw [t1]; rfl)))
        · exact Pair.of (t_K_act_asks_2 hl H hi hq hw) (t_M_act_asks_2 (σ := zuX (zuX σ 18 _) 19 _) hl M hi hy) rfl (h.t (by decide) (by first | (rw [t1]; done) | (rw [t1]; rfl)))
        · exact Pair.of (t_K_act_asks_3 hl H hi hq hw) (t_M_act_asks_3 (σ := zuX (zuX σ 18 _) 19 _) hl M hi hy) rfl (h.t (by decide) (by first | (rw [t1]; done) | (rw [t1]; rfl)))
        · exact Pair.of (t_K_act_asks_4 hl H hi hq hw) (t_M_act_asks_4 (σ := zuX (zuX σ 18 _) 19 _) hl M hi hy) rfl (h.t (by decide) (by first | (rw [t1]; done) | (rw [t1]; rfl)))
        · exact Pair.of (t_K_act_asks_5 hl H hi hq hw) (t_M_act_asks_5 (σ := zuX (zuX σ 18 _) 19 _) hl M hi hy) rfl (h.t (by decide) (by first | (rw [t1]; done) | (rw [t1]; rfl)))
        · exact Pair.of (t_K_act_asks_6 hl H hi hq hw) (t_M_act_asks_6 (σ := zuX (zuX σ 18 _) 19 _) hl M hi hy) rfl (h.t (by decide) (by first | (rw [t1]; done) | (rw [t1]; rfl)))
      · rcases (by omega : kd = 0 ∨ kd = 1 ∨ kd = 2 ∨ kd = 3 ∨ kd = 4 ∨ kd = 5 ∨ kd = 6) with rfl | rfl | rfl | rfl | rfl | rfl | rfl
        · exact Pair.of (t_K_act_sums_0 hl H hi hq hw) (t_M_act_sums_0 (σ := zuX (zuX σ 18 _) 19 _) hl M hi hy) rfl (h.t (by decide) (by first | (rw [t1]; done) | (rw [t1]; rfl)))
        · exact Pair.of (t_K_act_sums_1 hl H hi hq hw) (t_M_act_sums_1 (σ := zuX (zuX σ 18 _) 19 _) hl M hi hy) rfl (h.t (by decide) (by first | (rw [t1]; done) | (rw [t1]; rfl)))
        · exact Pair.of (t_K_act_sums_2 hl H hi hq hw) (t_M_act_sums_2 (σ := zuX (zuX σ 18 _) 19 _) hl M hi hy) rfl (h.t (by decide) (by first | (rw [t1]; done) | (rw [t1]; rfl)))
        · exact Pair.of (t_K_act_sums_3 hl H hi hq hw) (t_M_act_sums_3 (σ := zuX (zuX σ 18 _) 19 _) hl M hi hy) rfl (h.t (by decide) (by first | (rw [t1]; done) | (rw [t1]; rfl)))
        · exact Pair.of (t_K_act_sums_4 hl H hi hq hw) (t_M_act_sums_4 (σ := zuX (zuX σ 18 _) 19 _) hl M hi hy) rfl (h.t (by decide) (by first | (rw [t1]; done) | (rw [t1]; rfl)))
        · exact Pair.of (t_K_act_sums_5 hl H hi hq hw) (t_M_act_sums_5 (σ := zuX (zuX σ 18 _) 19 _) hl M hi hy) rfl (h.t (by decide) (by first | (rw [t1]; done) | (rw [t1]; rfl)))
        · exact Pair.of (t_K_act_sums_6 hl H hi hq hw) (t_M_act_sums_6 (σ := zuX (zuX σ 18 _) 19 _) hl M hi hy) rfl (h.t (by decide) (by first | (rw [t1]; done) | (rw [t1]; rfl)))

theorem pr_judge {σ : zSt} (hR : Rel σ) {s : Int32} : Pair mX11_judge mX12_judge [.int s] σ := by
  obtain ⟨d, e, b0, h⟩ := id hR
  obtain ⟨hW, hK, hM, hl, hc, hs8, h08, h43, hTr, hg, hz, hwd, hIm⟩ := id h
  have H := h.hd
  have M := h.md
  have hn8 := hW.1.1
  have ha4 := hW.1.2.1
  have hy8 := hW.1.2.2
  obtain ⟨od, pos, ho, hm, hp, hod, hinj⟩ := h.od
  obtain ⟨E7, E8, E9, E50, E51⟩ := h.eqs
  rcases znt s 8 (by decide) with hs | ⟨s, hs, rfl⟩
  · exact Pair.of (t_K_judge_1 hl hs) (t_M_judge_1 (σ := zuX σ 43 _) hl hs) rfl hR.r
  · obtain ⟨hst, hY⟩ := hs8 s hs
    rcases hst with ⟨o, m, ha, hb⟩ | ⟨i8, hi8, ha, hb⟩ | ⟨ha, hb⟩
    · have hm160 := ha.2.2.2.1
      obtain ⟨t, r, htn, hgK, hend⟩ := rk_ex (fun i => (zY σ (2 + 2 * s + 1) i).toInt32) m (Hn d) (by omega)
      have hcong : ∀ i, i < 160 → (fun i => (zY σ (2 + 2 * s + 1) i).toInt32) i = (fun i => (zY σ 58 (s * 160 + i)).toInt32) i := fun i hi => by show (zY σ (2 + 2 * s + 1) i).toInt32 = (zY σ 58 (s * 160 + i)).toInt32; rw [hY i hi]
      have hgM := rkG_cong hm160 hcong hgK
      rcases hend with htn2 | ⟨htn2, hbK⟩
      · exact Pair.of (t_K_judge_ok hl H hs ha hgK htn2) (t_M_judge_ok hl M hs hb hgM htn2) rfl (hR.u rfl)
      · exact Pair.of (t_K_judge_at hl H hs ha hgK htn2 hbK) (t_M_judge_at hl M hs hb hgM htn2 (rkB_cong hm160 hcong hbK)) rfl (hR.u rfl)
    · exact Pair.of (t_K_judge_2 hl hs ha) (t_M_judge_2 (σ := zuX σ 43 _) hl hs hb) rfl hR.r
    · exact Pair.of (t_K_judge_3 hl hs ha) (t_M_judge_3 (σ := zuX σ 43 _) hl hs hb) rfl hR.r

theorem pr_told {σ : zSt} (hR : Rel σ) {s : Int32} : Pair mX11_told mX12_told [.int s] σ := by
  obtain ⟨d, e, b0, h⟩ := id hR
  obtain ⟨hW, hK, hM, hl, hc, hs8, h08, h43, hTr, hg, hz, hwd, hIm⟩ := id h
  have H := h.hd
  have M := h.md
  have hn8 := hW.1.1
  have ha4 := hW.1.2.1
  have hy8 := hW.1.2.2
  obtain ⟨od, pos, ho, hm, hp, hod, hinj⟩ := h.od
  obtain ⟨E7, E8, E9, E50, E51⟩ := h.eqs
  rcases znt s 8 (by decide) with hs | ⟨s, hs, rfl⟩
  · exact Pair.of (t_K_told_1 hl hs) (t_M_told_1 (σ := zuX σ 43 _) hl hs) rfl hR.r
  · obtain ⟨hst, hY⟩ := hs8 s hs
    rcases hst with ⟨o, m, ha, hb⟩ | ⟨i8, hi8, ha, hb⟩ | ⟨ha, hb⟩
    · have hm160 := ha.2.2.2.1
      obtain ⟨t, r, htn, hgK, hend⟩ := rk_ex (fun i => (zY σ (2 + 2 * s + 1) i).toInt32) m (Hn d) (by omega)
      have hcong : ∀ i, i < 160 → (fun i => (zY σ (2 + 2 * s + 1) i).toInt32) i = (fun i => (zY σ 58 (s * 160 + i)).toInt32) i := fun i hi => by show (zY σ (2 + 2 * s + 1) i).toInt32 = (zY σ 58 (s * 160 + i)).toInt32; rw [hY i hi]
      have hgM := rkG_cong hm160 hcong hgK
      rcases hend with htn2 | ⟨htn2, hbK⟩
      · by_cases hnm : Hn d < m
        · exact Pair.of (t_K_told_6b hl H hs ha hgK htn2 hnm) (t_M_told_6b (σ := zuX σ 43 _) hl M hs hb hgM htn2 hnm) rfl (Rel.r64 hR)
        · subst htn2
          exact Pair.of (t_K_told_0 hl H hs ha hgK hnm) (t_M_told_0 (σ := zuX σ 25 _) hl M hs hb hgM hnm) (i_e (by rw [told_pt hn8 hgK, ← E7]; rfl)) ((hR.u rfl).u rfl)
      · exact Pair.of (t_K_told_6a hl H hs ha hgK htn2 hbK) (t_M_told_6a (σ := zuX σ 43 _) hl M hs hb hgM htn2 (rkB_cong hm160 hcong hbK)) rfl (Rel.r64 hR)
    · exact Pair.of (t_K_told_2 hl hs ha) (t_M_told_2 (σ := zuX σ 43 _) hl hs hb) rfl hR.r
    · exact Pair.of (t_K_told_3 hl hs ha) (t_M_told_3 (σ := zuX σ 43 _) hl hs hb) rfl hR.r

theorem pr_image {σ : zSt} (hR : Rel σ)  : Pair mX11_image mX12_image [] σ := by
  obtain ⟨d, e, b0, h⟩ := id hR
  obtain ⟨hW, hK, hM, hl, hc, hs8, h08, h43, hTr, hg, hz, hwd, hIm⟩ := id h
  have H := h.hd
  have M := h.md
  have hn8 := hW.1.1
  have ha4 := hW.1.2.1
  have hy8 := hW.1.2.2
  obtain ⟨od, pos, ho, hm, hp, hod, hinj⟩ := h.od
  obtain ⟨E7, E8, E9, E50, E51⟩ := h.eqs
  obtain ⟨z1, z2, z3, z4⟩ := hIm.1
  obtain ⟨y1, y2, y3, y4⟩ := hK.dz hW
  exact Pair.of (σ1 := imS σ) (t_K_image_0 hl H (fun k hk => (z1 k hk).trans (y1 k hk).symm) (fun k hk => (z2 k hk).trans (y2 k hk).symm) (fun k hk => (z3 k hk).trans (y3 k hk).symm) (fun k hk => (z4 k hk).trans (y4 k hk).symm) hK.ways) (t_M_image_0 (σ := imS σ) (n := Hn d) (a := Ha d) (y := Hy d) (Lay.uR (σ := zuX (zuX (zuX σ 28 (zX σ 21)) 29 (zX σ 22)) 30 (zX σ 23)) (k := 31) (f := zR σ 24) hl (fun _ => rfl)) ⟨Lay.uR (σ := zuX (zuX (zuX σ 28 (zX σ 21)) 29 (zX σ 22)) 30 (zX σ 23)) (k := 31) (f := zR σ 24) hl (fun _ => rfl), M.2⟩) rfl h.image

theorem pr_restore {σ : zSt} (hR : Rel σ)  : Pair mX11_restore mX12_restore [] σ := by
  obtain ⟨d, e, b0, h⟩ := id hR
  obtain ⟨hW, hK, hM, hl, hc, hs8, h08, h43, hTr, hg, hz, hwd, hIm⟩ := id h
  have H := h.hd
  have M := h.md
  have hn8 := hW.1.1
  have ha4 := hW.1.2.1
  have hy8 := hW.1.2.2
  obtain ⟨od, pos, ho, hm, hp, hod, hinj⟩ := h.od
  obtain ⟨E7, E8, E9, E50, E51⟩ := h.eqs
  obtain ⟨i1, i2, i3, i4, i5⟩ := hIm
  rcases (by omega : b0 = 0 ∨ b0 = 1) with rfl | rfl
  · exact Pair.of (t_K_restore_6 hl i2) (t_M_restore_6 (σ := zuX σ 43 _) hl i3) rfl hR.r
  · obtain ⟨we, ke, me⟩ := i5 rfl
    obtain ⟨z1, z2, z3, z4⟩ := i1
    obtain ⟨y1, y2, y3, y4⟩ := hK.dz hW
    have X : ∀ k, (k = 0 ∨ 18 ≤ k) → zX (rsS (Hy e) (rsR σ) 8) k = zX (rsR σ) k := fun k hk => rsS_o 8 (fun t ht => by omega)
    have hl1 : Lay (rsS (Hy e) (rsR σ) 8) := Lay.rsS (Lay.uR (σ := zuX (zuX (zuX σ 21 (zX σ 28)) 22 (zX σ 29)) 23 (zX σ 30)) (k := 24) (f := zR σ 31) hl (fun _ => rfl))
    have hM1 := t_M_restore_0 (σ := rsS (Hy e) (rsR σ) 8) (y := Hy e) hl1 (by rw [X 45 (Or.inr (by decide))]; exact i3) (by rw [X 63 (Or.inr (by decide))]; exact me.2.2.2.2.2.1) we.1.2.2
    rw [X 54 (Or.inr (by decide)), X 57 (Or.inr (by decide))] at hM1
    refine Pair.of (σ1 := rsS (Hy e) (rsR σ) 8) (t_K_restore_0 hl i2 ke.1.1 we.1.1 ke.1.2.1 we.1.2.1 ke.1.2.2.1 we.1.2.2 (fun i hi => ?_) (fun s hs => ?_) (fun k hk => (y1 k hk).trans (z1 k hk).symm) (fun k hk => (y2 k hk).trans (z2 k hk).symm) (fun k hk => (y3 k hk).trans (z3 k hk).symm) (fun k hk => (y4 k hk).trans (z4 k hk).symm) ke.ways) hM1 rfl h.restore
    · obtain ⟨q, q1, q2⟩ := ke.2.2.1 i hi
      exact ⟨q, q1⟩
    · obtain ⟨hst, hY⟩ := hs8 s hs
      rcases hst with ⟨o, m, ha, hb⟩ | ⟨i8, hi8, ha, hb⟩ | ⟨ha, hb⟩
      · exact Or.inl ha.2.2.2.2
      · exact Or.inr ⟨i8, ha.2.2.2, ha.2.2.1⟩
      · exact Or.inl ha.2.2

theorem gF.h {σ τ : zSt} (h : hFr σ τ) : gF σ τ := by
  obtain ⟨⟨h1, h2, h3, h4, h5⟩, h6, h7⟩ := h
  refine ⟨by rw [h1]; exact Nat.le_refl _, fun k _ => ⟨by rw [h2], fun hk => h6 k (fun hx => ?_), fun _ _ => by rw [h5], fun _ _ => by rw [h4]⟩, fun f h8 h9 => h7 f (by omega), by rw [h6 0 (by decide)]⟩
  have : k = 45 ∨ k = 46 ∨ k = 47 ∨ k = 48 ∨ k = 49 ∨ k = 50 ∨ k = 51 ∨ k = 52 ∨ k = 53 ∨ k = 61 ∨ k = 62 := by omega
  rcases this with rfl | rfl | rfl | rfl | rfl | rfl | rfl | rfl | rfl | rfl | rfl <;> cases hk
theorem ipD_y {T : Nat → Int32} {a : Nat} {d : HD} : Hy d ≤ Hy (ipD T a d) := by
  unfold ipD
  split
  · exact Nat.le_refl _
  split
  · exact Nat.le_refl _
  split
  · exact Nat.le_succ _
  · exact Nat.le_refl _
theorem pr_y {T : Nat → Int32} {m : Nat} : ∀ (f a : Nat) (d : HD), Hy d ≤ Hy (pr T m f a d).2.2
  | 0, _, d => Nat.le_refl _
  | f + 1, a, d => by
    cases hB : ipB T a d with
    | some x => rw [pr_b hB]; exact Nat.le_refl _
    | none =>
      rw [pr_g hB]
      show Hy d ≤ Hy (rs T m f (itN T a) (ipD T a d)).2.2
      have h1 := ipD_y (T := T) (a := a) (d := d)
      unfold rs
      split
      · split
        · exact Nat.le_trans h1 (pr_y f _ _)
        · exact h1
      · exact h1
theorem pr_le {T : Nat → Int32} {m x : Nat} : ∀ (f a : Nat) (d : HD), a ≤ m → (pr T m f a d).1 = some x → x ≤ m + 24
  | 0, _, _, _, h => by cases h
  | f + 1, a, d, ha, h => by
    cases hB : ipB T a d with
    | some y =>
      rw [pr_b hB] at h
      cases h
      have := ipB_le hB
      omega
    | none =>
      rw [pr_g hB] at h
      have h : (rs T m f (itN T a) (ipD T a d)).1 = some x := h
      unfold rs at h
      by_cases h1 : itN T a < m
      · rw [if_pos h1] at h
        by_cases h2 : T (itN T a) = nI 59
        · rw [if_pos h2] at h; exact pr_le f _ _ h1 h
        · rw [if_neg h2] at h; cases h; omega
      · rw [if_neg h1] at h; cases h
theorem ht_of {σ : zSt} {s o m : Nat} {T : Nat → Int32} (hl : Lay σ) (hs : s < 8) (ha : zRw σ (2 + 2 * s) o m) (hT : ∀ i, T i = if i < m then (zY σ (2 + 2 * s + 1) i).toInt32 else nI 0) : zTx σ (2 + 2 * s) T := ⟨(hl.shelf hs).2, m, ha.2.2.1, ha.2.2.2.1, hT⟩

theorem pr_house_ok {σ : zSt} {d e : HD} {b s o m : Nat} (h : RelD σ d e b) (hs : s < 8) (ha : zRw σ (2 + 2 * s) o m) (hb : zMr σ s o m) (hY : ∀ i, i < 160 → zY σ (2 + 2 * s + 1) i = zY σ 58 (s * 160 + i)) (hF : (pr (fun i => if i < m then (zY σ (2 + 2 * s + 1) i).toInt32 else nI 0) m (m + 1) 0 d).1 = none) : Pair mX11_house mX12_house [.int (nI s)] σ := by
  obtain ⟨hW, hK, hM, hl, hc, hs8, h08, h43, hTr, hg, hz, hwd, hIm⟩ := id h
  have hm160 := ha.2.2.2.1
  have h66 := hl.1
  have hKd := HW.all (T := (fun i => if i < m then (zY σ (2 + 2 * s + 1) i).toInt32 else nI 0)) (m := m) (m + 1) 0 d hW
  have hyy := pr_y (T := (fun i => if i < m then (zY σ (2 + 2 * s + 1) i).toInt32 else nI 0)) (m := m) (m + 1) 0 d
  refine ⟨_, Ct.mono (t_K_house_ok hl hK hW hc hs ha (ht_of hl hs ha (fun _ => rfl)) hz hF) ?_⟩
  rintro r1 τ1 ⟨rfl, τ, hFr, hc2, hK2, rfl⟩
  refine ⟨rfl, ?_⟩
  have X : ∀ k, k < 66 → (k < 34 ∨ 42 < k) → zX τ k = zX σ k := fun k hk hk2 => ((hFr.2 k (by omega)).2.2.1 hk2).1
  have Y58 : zY τ 58 = zY σ 58 := ((hFr.2 58 (by omega)).2.2.1 (by omega)).2
  have hlt : Lay τ := hl.fr hFr L39
  have hl1 : Lay (zuX (zuR (zuX (zuX (zuX (zuX τ 0 (upd (zX τ 0) 8 (-1))) 21 (zX τ 36)) 22 (zX τ 37)) 23 (zX τ 38)) 24 (zR τ 39)) 20 (upd (upd (upd (upd (zX τ 20) 2 (zX τ 35 2)) 5 (zX τ 35 5)) 7 (zX τ 35 7)) 8 (zX τ 35 8))) := Lay.uR (σ := (zuX (zuX (zuX (zuX τ 0 (upd (zX τ 0) 8 (-1))) 21 (zX τ 36)) 22 (zX τ 37)) 23 (zX τ 38))) (k := 24) (f := zR τ 39) hlt (fun _ => rfl)
  have hc1 : zCl (zuX (zuR (zuX (zuX (zuX (zuX τ 0 (upd (zX τ 0) 8 (-1))) 21 (zX τ 36)) 22 (zX τ 37)) 23 (zX τ 38)) 24 (zR τ 39)) 20 (upd (upd (upd (upd (zX τ 20) 2 (zX τ 35 2)) 5 (zX τ 35 5)) 7 (zX τ 35 7)) 8 (zX τ 35 8))) := zCl.uR (σ := (zuX (zuX (zuX (zuX τ 0 (upd (zX τ 0) 8 (-1))) 21 (zX τ 36)) 22 (zX τ 37)) 23 (zX τ 38))) (k := 24) (f := zR τ 39) hc2 (fun j q hq => hc2 39 j q hq)
  have g1 : gF τ (zuX (zuR (zuX (zuX (zuX (zuX τ 0 (upd (zX τ 0) 8 (-1))) 21 (zX τ 36)) 22 (zX τ 37)) 23 (zX τ 38)) 24 (zR τ 39)) 20 (upd (upd (upd (upd (zX τ 20) 2 (zX τ 35 2)) 5 (zX τ 35 5)) 7 (zX τ 35 7)) 8 (zX τ 35 8))) := ((((gF.u0.tr (gF.u rfl (by decide) (by decide))).tr (gF.u rfl (by decide) (by decide))).tr (gF.u rfl (by decide) (by decide))).tr (gF.r (Or.inl rfl))).tr (gF.u rfl (by decide) (by decide))
  have hK1 : KH (zuX (zuR (zuX (zuX (zuX (zuX τ 0 (upd (zX τ 0) 8 (-1))) 21 (zX τ 36)) 22 (zX τ 37)) 23 (zX τ 38)) 24 (zR τ 39)) 20 (upd (upd (upd (upd (zX τ 20) 2 (zX τ 35 2)) 5 (zX τ 35 5)) 7 (zX τ 35 7)) 8 (zX τ 35 8))) 20 (pr (fun i => if i < m then (zY σ (2 + 2 * s + 1) i).toInt32 else nI 0) m (m + 1) 0 d).2.2 := hK2.over ⟨rfl, rfl, rfl, rfl⟩ rfl rfl rfl rfl (fun _ _ _ _ hq => hq.g g1)
  have hz1 : DZ (zuX (zuR (zuX (zuX (zuX (zuX τ 0 (upd (zX τ 0) 8 (-1))) 21 (zX τ 36)) 22 (zX τ 37)) 23 (zX τ 38)) 24 (zR τ 39)) 20 (upd (upd (upd (upd (zX τ 20) 2 (zX τ 35 2)) 5 (zX τ 35 5)) 7 (zX τ 35 7)) 8 (zX τ 35 8))) 35 := (hK2.dz hKd).e rfl rfl rfl rfl
  have hM1 : MH (zuX (zuR (zuX (zuX (zuX (zuX τ 0 (upd (zX τ 0) 8 (-1))) 21 (zX τ 36)) 22 (zX τ 37)) 23 (zX τ 38)) 24 (zR τ 39)) 20 (upd (upd (upd (upd (zX τ 20) 2 (zX τ 35 2)) 5 (zX τ 35 5)) 7 (zX τ 35 7)) 8 (zX τ 35 8))) d := by
    obtain ⟨⟨a1, a2, a3, a4⟩, ⟨b1, b2, b3, b4, b5⟩, c⟩ := hM
    have e45 := X 45 (by decide) (by decide)
    refine ⟨⟨?_, ?_, ?_, ?_⟩, ⟨(X 47 (by decide) (by decide)).trans b1, (X 48 (by decide) (by decide)).trans b2, (X 49 (by decide) (by decide)).trans b3, (X 50 (by decide) (by decide)).trans b4, (X 51 (by decide) (by decide)).trans b5⟩, fun k hk => ?_⟩
    · show zX τ 45 0 = _
      rw [e45]; exact a1
    · show zX τ 45 1 = _
      rw [e45]; exact a2
    · show zX τ 45 2 = _
      rw [e45]; exact a3
    · show zX τ 45 3 = _
      rw [e45]; exact a4
    · show zX τ 52 k = _ ∧ zX τ 53 k = _
      rw [X 52 (by decide) (by decide), X 53 (by decide) (by decide)]; exact c k hk
  have hb1 : zMr (zuX (zuR (zuX (zuX (zuX (zuX τ 0 (upd (zX τ 0) 8 (-1))) 21 (zX τ 36)) 22 (zX τ 37)) 23 (zX τ 38)) 24 (zR τ 39)) 20 (upd (upd (upd (upd (zX τ 20) 2 (zX τ 35 2)) 5 (zX τ 35 5)) 7 (zX τ 35 7)) 8 (zX τ 35 8))) s o m := by
    show zX τ 54 s = nI 1 ∧ zX τ 55 s = nI o ∧ o ≤ 3 ∧ zX τ 56 s = nI m ∧ m ≤ 160
    rw [X 54 (by decide) (by decide), X 55 (by decide) (by decide), X 56 (by decide) (by decide)]; exact hb
  have hT1 : ∀ i, (fun i => if i < m then (zY σ (2 + 2 * s + 1) i).toInt32 else nI 0) i = if i < m then (zY (zuX (zuR (zuX (zuX (zuX (zuX τ 0 (upd (zX τ 0) 8 (-1))) 21 (zX τ 36)) 22 (zX τ 37)) 23 (zX τ 38)) 24 (zR τ 39)) 20 (upd (upd (upd (upd (zX τ 20) 2 (zX τ 35 2)) 5 (zX τ 35 5)) 7 (zX τ 35 7)) 8 (zX τ 35 8))) 58 (s * 160 + i)).toInt32 else nI 0 := fun i => by
    show (if i < m then (zY σ (2 + 2 * s + 1) i).toInt32 else nI 0) = if i < m then (zY τ 58 (s * 160 + i)).toInt32 else nI 0
    by_cases hi : i < m
    · rw [if_pos hi, if_pos hi, hY i (by omega), Y58]
    · rw [if_neg hi, if_neg hi]
  have hwd1 : ∀ j, j < 26 → zX (zuX (zuR (zuX (zuX (zuX (zuX τ 0 (upd (zX τ 0) 8 (-1))) 21 (zX τ 36)) 22 (zX τ 37)) 23 (zX τ 38)) 24 (zR τ 39)) 20 (upd (upd (upd (upd (zX τ 20) 2 (zX τ 35 2)) 5 (zX τ 35 5)) 7 (zX τ 35 7)) 8 (zX τ 35 8))) 60 j = nI (wds j) := fun j hj => by
    show zX τ 60 j = _
    rw [X 60 (by decide) (by decide)]; exact hwd j hj
  refine Ct.mono (t_M_house_ok hl1 hM1 hW hs hb1 hT1 hwd1 hF) ?_
  rintro r2 τ2 ⟨rfl, hM2, hf2, hFr2, h46⟩
  refine ⟨rfl, ?_⟩
  have hl2 : Lay τ2 := by
    obtain ⟨f1, f2, f3, f4, f5⟩ := hFr2.1
    unfold Lay
    rw [f1, f2, f3, f4]; exact hl1
  have hc3 : zCl τ2 := by
    obtain ⟨f1, f2, f3, f4, f5⟩ := hFr2.1
    unfold zCl
    rw [f1, f4]; exact hc1
  have Z := fun k hk => hFr2.2.1 k hk
  have gA : gF σ τ2 := ((gF.fr hFr h66).tr g1).tr (gF.h hFr2)
  have R2 : ∀ k, zR τ2 k = zR (zuX (zuR (zuX (zuX (zuX (zuX τ 0 (upd (zX τ 0) 8 (-1))) 21 (zX τ 36)) 22 (zX τ 37)) 23 (zX τ 38)) 24 (zR τ 39)) 20 (upd (upd (upd (upd (zX τ 20) 2 (zX τ 35 2)) 5 (zX τ 35 5)) 7 (zX τ 35 7)) 8 (zX τ 35 8))) k := fun k => by rw [hFr2.1.2.2.2.1]
  have hK3 := hK1.g (gF.h hFr2) (Z 20 (by decide)) (Z 21 (by decide)) (Z 22 (by decide)) (Z 23 (by decide)) (R2 24)
  refine h.h (d' := (pr (fun i => if i < m then (zY σ (2 + 2 * s + 1) i).toInt32 else nI 0) m (m + 1) 0 d).2.2) hyy gA hl2 hc3 hKd hK3 hM2 ?_ ?_ (hz1.e (Z 36 (by decide)) (Z 37 (by decide)) (Z 38 (by decide)) (R2 39))
  · rw [Z 0 (by decide), hf2]; rfl
  · rw [Z 43 (by decide), h46]
    show zX τ 43 = zX τ 46
    rw [X 43 (by decide) (by decide), X 46 (by decide) (by decide)]; exact h43

theorem pr_house_bad {σ : zSt} {d e : HD} {b s o m x : Nat} (h : RelD σ d e b) (hs : s < 8) (ha : zRw σ (2 + 2 * s) o m) (hb : zMr σ s o m) (hY : ∀ i, i < 160 → zY σ (2 + 2 * s + 1) i = zY σ 58 (s * 160 + i)) (hF : (pr (fun i => if i < m then (zY σ (2 + 2 * s + 1) i).toInt32 else nI 0) m (m + 1) 0 d).1 = some x) : Pair mX11_house mX12_house [.int (nI s)] σ := by
  obtain ⟨hW, hK, hM, hl, hc, hs8, h08, h43, hTr, hg, hz, hwd, hIm⟩ := id h
  have hm160 := ha.2.2.2.1
  have h66 := hl.1
  have hKd := HW.all (T := (fun i => if i < m then (zY σ (2 + 2 * s + 1) i).toInt32 else nI 0)) (m := m) (m + 1) 0 d hW
  have hyy := pr_y (T := (fun i => if i < m then (zY σ (2 + 2 * s + 1) i).toInt32 else nI 0)) (m := m) (m + 1) 0 d
  have hx3 : x < 2 ^ 31 := by have := pr_le (m + 1) 0 d (Nat.zero_le _) hF; omega
  refine ⟨_, Ct.mono (t_K_house_bad hl hK hW hc hs ha (ht_of hl hs ha (fun _ => rfl)) hz hF hx3) ?_⟩
  rintro r1 τ1 ⟨rfl, τ, hFr, hc2, hK2, rfl⟩
  refine ⟨rfl, ?_⟩
  have X : ∀ k, k < 66 → (k < 34 ∨ 42 < k) → zX τ k = zX σ k := fun k hk hk2 => ((hFr.2 k (by omega)).2.2.1 hk2).1
  have Y58 : zY τ 58 = zY σ 58 := ((hFr.2 58 (by omega)).2.2.1 (by omega)).2
  have hlt : Lay τ := hl.fr hFr L39
  have hl1 : Lay (zuX (zuX τ 0 (upd (zX τ 0) 8 (nI x))) 43 (upd (zX τ 43) 6 (zX τ 43 6 + nI 1))) := hlt
  have hc1 : zCl (zuX (zuX τ 0 (upd (zX τ 0) 8 (nI x))) 43 (upd (zX τ 43) 6 (zX τ 43 6 + nI 1))) := hc2
  have g1 : gF τ (zuX (zuX τ 0 (upd (zX τ 0) 8 (nI x))) 43 (upd (zX τ 43) 6 (zX τ 43 6 + nI 1))) := gF.u0.tr (gF.u rfl (by decide) (by decide))
  have gt : gF σ τ := gF.fr hFr h66
  have R24 : zR τ 24 = zR σ 24 := (hFr.2 24 (by omega)).2.2.2 (by decide)
  have hKt : KH τ 20 d := hK.g gt (X 20 (by decide) (by decide)) (X 21 (by decide) (by decide)) (X 22 (by decide) (by decide)) (X 23 (by decide) (by decide)) R24
  have hK1 : KH (zuX (zuX τ 0 (upd (zX τ 0) 8 (nI x))) 43 (upd (zX τ 43) 6 (zX τ 43 6 + nI 1))) 20 d := hKt.g g1 rfl rfl rfl rfl rfl
  have hz1 : DZ (zuX (zuX τ 0 (upd (zX τ 0) 8 (nI x))) 43 (upd (zX τ 43) 6 (zX τ 43 6 + nI 1))) 35 := (hK2.dz hKd).e rfl rfl rfl rfl
  have hM1 : MH (zuX (zuX τ 0 (upd (zX τ 0) 8 (nI x))) 43 (upd (zX τ 43) 6 (zX τ 43 6 + nI 1))) d := by
    obtain ⟨⟨a1, a2, a3, a4⟩, ⟨b1, b2, b3, b4, b5⟩, c⟩ := hM
    have e45 := X 45 (by decide) (by decide)
    refine ⟨⟨?_, ?_, ?_, ?_⟩, ⟨(X 47 (by decide) (by decide)).trans b1, (X 48 (by decide) (by decide)).trans b2, (X 49 (by decide) (by decide)).trans b3, (X 50 (by decide) (by decide)).trans b4, (X 51 (by decide) (by decide)).trans b5⟩, fun k hk => ?_⟩
    · show zX τ 45 0 = _
      rw [e45]; exact a1
    · show zX τ 45 1 = _
      rw [e45]; exact a2
    · show zX τ 45 2 = _
      rw [e45]; exact a3
    · show zX τ 45 3 = _
      rw [e45]; exact a4
    · show zX τ 52 k = _ ∧ zX τ 53 k = _
      rw [X 52 (by decide) (by decide), X 53 (by decide) (by decide)]; exact c k hk
  have hb1 : zMr (zuX (zuX τ 0 (upd (zX τ 0) 8 (nI x))) 43 (upd (zX τ 43) 6 (zX τ 43 6 + nI 1))) s o m := by
    show zX τ 54 s = nI 1 ∧ zX τ 55 s = nI o ∧ o ≤ 3 ∧ zX τ 56 s = nI m ∧ m ≤ 160
    rw [X 54 (by decide) (by decide), X 55 (by decide) (by decide), X 56 (by decide) (by decide)]; exact hb
  have hT1 : ∀ i, (fun i => if i < m then (zY σ (2 + 2 * s + 1) i).toInt32 else nI 0) i = if i < m then (zY (zuX (zuX τ 0 (upd (zX τ 0) 8 (nI x))) 43 (upd (zX τ 43) 6 (zX τ 43 6 + nI 1))) 58 (s * 160 + i)).toInt32 else nI 0 := fun i => by
    show (if i < m then (zY σ (2 + 2 * s + 1) i).toInt32 else nI 0) = if i < m then (zY τ 58 (s * 160 + i)).toInt32 else nI 0
    by_cases hi : i < m
    · rw [if_pos hi, if_pos hi, hY i (by omega), Y58]
    · rw [if_neg hi, if_neg hi]
  have hwd1 : ∀ j, j < 26 → zX (zuX (zuX τ 0 (upd (zX τ 0) 8 (nI x))) 43 (upd (zX τ 43) 6 (zX τ 43 6 + nI 1))) 60 j = nI (wds j) := fun j hj => by
    show zX τ 60 j = _
    rw [X 60 (by decide) (by decide)]; exact hwd j hj
  refine Ct.mono (t_M_house_bad hl1 hM1 hW hs hb1 hT1 hwd1 hF) ?_
  rintro r2 τ2 ⟨rfl, hM2, hf2, hFr2, h46⟩
  refine ⟨rfl, ?_⟩
  have hl2 : Lay τ2 := by
    obtain ⟨f1, f2, f3, f4, f5⟩ := hFr2.1
    unfold Lay
    rw [f1, f2, f3, f4]; exact hl1
  have hc3 : zCl τ2 := by
    obtain ⟨f1, f2, f3, f4, f5⟩ := hFr2.1
    unfold zCl
    rw [f1, f4]; exact hc1
  have Z := fun k hk => hFr2.2.1 k hk
  have gA : gF σ τ2 := ((gF.fr hFr h66).tr g1).tr (gF.h hFr2)
  have R2 : ∀ k, zR τ2 k = zR (zuX (zuX τ 0 (upd (zX τ 0) 8 (nI x))) 43 (upd (zX τ 43) 6 (zX τ 43 6 + nI 1))) k := fun k => by rw [hFr2.1.2.2.2.1]
  have hK3 := hK1.g (gF.h hFr2) (Z 20 (by decide)) (Z 21 (by decide)) (Z 22 (by decide)) (Z 23 (by decide)) (R2 24)
  refine h.h (d' := d) (Nat.le_refl _) gA hl2 hc3 hW hK3 hM2 ?_ ?_ (hz1.e (Z 36 (by decide)) (Z 37 (by decide)) (Z 38 (by decide)) (R2 39))
  · rw [Z 0 (by decide), hf2]; rfl
  · rw [Z 43 (by decide), h46]
    show upd (zX τ 43) 6 (zX τ 43 6 + nI 1) = upd (zX τ 46) 6 (zX τ 46 6 + nI 1)
    rw [X 43 (by decide) (by decide), X 46 (by decide) (by decide), h43]

theorem pr_house {σ : zSt} (hR : Rel σ) {s : Int32} : Pair mX11_house mX12_house [.int s] σ := by
  obtain ⟨d, e, b0, h⟩ := id hR
  obtain ⟨hW, hK, hM, hl, hc, hs8, h08, h43, hTr, hg, hz, hwd, hIm⟩ := id h
  have H := h.hd
  have M := h.md
  have hn8 := hW.1.1
  have ha4 := hW.1.2.1
  have hy8 := hW.1.2.2
  obtain ⟨od, pos, ho, hm, hp, hod, hinj⟩ := h.od
  obtain ⟨E7, E8, E9, E50, E51⟩ := h.eqs
  rcases znt s 8 (by decide) with hs | ⟨s, hs, rfl⟩
  · exact Pair.of (t_K_house_1 hl hs) (t_M_house_1 (σ := zuX σ 43 _) hl hs) rfl hR.r
  · obtain ⟨hst, hY⟩ := hs8 s hs
    rcases hst with ⟨o, m, ha, hb⟩ | ⟨i8, hi8, ha, hb⟩ | ⟨ha, hb⟩
    · cases hF : (pr (fun i => if i < m then (zY σ (2 + 2 * s + 1) i).toInt32 else nI 0) m (m + 1) 0 d).1 with
      | none => exact pr_house_ok h hs ha hb hY hF
      | some x => exact pr_house_bad h hs ha hb hY hF
    · exact Pair.of (t_K_house_2 hl hs ha) (t_M_house_2 (σ := zuX σ 43 _) hl hs hb) rfl hR.r
    · exact Pair.of (t_K_house_3 hl hs ha) (t_M_house_3 (σ := zuX σ 43 _) hl hs hb) rfl hR.r
