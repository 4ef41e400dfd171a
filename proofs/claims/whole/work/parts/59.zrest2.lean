/-! bodies' numbers, rankings told, images, houses read -/
theorem Rel.r64 {σ : zSt} {j : Nat} {f : Nat → Int32} (h : Rel σ) : Rel (zuX (zuX (zuX σ 43 (upd (zX σ 43) j (zX σ 43 j + nI 1))) 64 f) 46 (upd (zX σ 46) j (zX σ 46 j + nI 1))) := by
  have e : zuX (zuX (zuX σ 43 (upd (zX σ 43) j (zX σ 43 j + nI 1))) 64 f) 46 (upd (zX σ 46) j (zX σ 46 j + nI 1)) = zuX (zuX (zuX σ 43 (upd (zX σ 43) j (zX σ 43 j + nI 1))) 46 (upd (zX σ 46) j (zX σ 46 j + nI 1))) 64 f := zuX_cm (by decide)
  rw [e]
  exact h.r.u rfl
section
variable {σ : zSt} {d e : HD} {b : Nat}
theorem ShR.n {y s k : Nat} {f : Nat → Int32} (h : ShR σ y s) (hs : s < 8) (hk : k = 18 ∨ k = 19 ∨ k = 45 ∨ k = 65) : ShR (zuX σ k f) y s := by
  unfold ShR zRw zMr zWa zMa zNo zMn at h ⊢
  have X : ∀ j, j ≠ k → zX (zuX σ k f) j = zX σ j := fun j hj => zX_n hj
  rw [X (2 + 2 * s) (by omega), X 54 (by omega), X 55 (by omega), X 56 (by omega), X 57 (by omega)]
  exact h
theorem RelD.t (h : RelD σ d e b) {r : Nat} {F G : Nat → Int32} (hr : r < 2 ^ 31) (hFG : F = G) : Rel (zuX (zuX (zuX (zuX σ 18 (upd (zX σ 18) 1 (nI r))) 19 F) 45 (upd (zX σ 45) 31 (nI r))) 65 G) := by
  obtain ⟨hW, hK, hM, hl, hc, hs8, h08, h43, hTr, hg, hz, hwd, hIm⟩ := h
  have hw : ∀ q kd pa w, zWo σ q kd pa w → zWo (zuX (zuX (zuX (zuX σ 18 (upd (zX σ 18) 1 (nI r))) 19 F) 45 (upd (zX σ 45) 31 (nI r))) 65 G) q kd pa w := fun _ _ _ _ hq => (((hq.uX' (by decide)).uX' (by decide)).uX' (by decide)).uX' (by decide)
  obtain ⟨⟨a1, a2, a3, a4⟩, ⟨b1, b2, b3, b4, b5⟩, c⟩ := hM
  obtain ⟨i1, i2, i3, i4, i5⟩ := hIm
  refine ⟨d, e, b, hW, hK.of rfl rfl rfl rfl rfl hw, ⟨⟨a1, a2, a3, a4⟩, ⟨b1, b2, b3, b4, b5⟩, c⟩, hl, hc, fun s hs => ((((hs8 s hs).n hs (by decide)).n hs (by decide)).n hs (by decide)).n hs (by decide), h08, h43, ⟨hFG, r, hr, rfl, rfl⟩, hg, hz, hwd, i1, i2, i3, i4, fun hb => ?_⟩
  obtain ⟨g1, g2, g3⟩ := i5 hb
  exact ⟨g1, g2.of rfl rfl rfl rfl rfl hw, g3⟩
theorem RelD.t0 (h : RelD σ d e b) {r : Nat} (hr : r < 2 ^ 31) : Rel (zuX (zuX σ 18 (upd (zX σ 18) 1 (nI r))) 45 (upd (zX σ 45) 31 (nI r))) := by
  obtain ⟨hW, hK, hM, hl, hc, hs8, h08, h43, hTr, hg, hz, hwd, hIm⟩ := h
  have hw : ∀ q kd pa w, zWo σ q kd pa w → zWo (zuX (zuX σ 18 (upd (zX σ 18) 1 (nI r))) 45 (upd (zX σ 45) 31 (nI r))) q kd pa w := fun _ _ _ _ hq => (hq.uX' (by decide)).uX' (by decide)
  obtain ⟨⟨a1, a2, a3, a4⟩, ⟨b1, b2, b3, b4, b5⟩, c⟩ := hM
  obtain ⟨i1, i2, i3, i4, i5⟩ := hIm
  refine ⟨d, e, b, hW, hK.of rfl rfl rfl rfl rfl hw, ⟨⟨a1, a2, a3, a4⟩, ⟨b1, b2, b3, b4, b5⟩, c⟩, hl, hc, fun s hs => ((hs8 s hs).n hs (by decide)).n hs (by decide), h08, h43, ⟨hTr.1, r, hr, rfl, rfl⟩, hg, hz, hwd, i1, i2, i3, i4, fun hb => ?_⟩
  obtain ⟨g1, g2, g3⟩ := i5 hb
  exact ⟨g1, g2.of rfl rfl rfl rfl rfl hw, g3⟩
theorem stXn {σ : zSt} {k : Nat} {f : Nat → Int32} : zN (zuX σ k f) = zN σ := rfl
theorem stXk {σ : zSt} {k : Nat} {f : Nat → Int32} : zK (zuX σ k f) = zK σ := rfl
theorem stXl {σ : zSt} {k : Nat} {f : Nat → Int32} : zL (zuX σ k f) = zL σ := rfl
theorem stXy {σ : zSt} {k : Nat} {f : Nat → Int32} : zY (zuX σ k f) = zY σ := rfl
theorem stXr {σ : zSt} {k j : Nat} {f : Nat → Int32} : zR (zuX σ k f) j = zR σ j := rfl
theorem stRn {σ : zSt} {k : Nat} {f : Nat → Option Nat} : zN (zuR σ k f) = zN σ := rfl
theorem stRk {σ : zSt} {k : Nat} {f : Nat → Option Nat} : zK (zuR σ k f) = zK σ := rfl
theorem stRl {σ : zSt} {k : Nat} {f : Nat → Option Nat} : zL (zuR σ k f) = zL σ := rfl
theorem stRy {σ : zSt} {k : Nat} {f : Nat → Option Nat} : zY (zuR σ k f) = zY σ := rfl
theorem stRx {σ : zSt} {k j : Nat} {f : Nat → Option Nat} : zX (zuR σ k f) j = zX σ j := rfl
theorem stRs {σ : zSt} {k : Nat} {f : Nat → Option Nat} : zR (zuR σ k f) k = f := zfu_self
theorem stRo {σ : zSt} {k j : Nat} {f : Nat → Option Nat} (h : j ≠ k) : zR (zuR σ k f) j = zR σ j := zfu_ne h
theorem stLay {σ : zSt} {k : Nat} {f : Nat → Int32} (h : Lay σ) : Lay (zuX σ k f) := h
/-- an image -/
theorem RelD.im {τ : zSt} (h : RelD σ d e b) (hl2 : Lay τ) (hc2 : zCl τ) (hN : zN τ = zN σ) (hK2 : zK τ = zK σ) (hY2 : zY τ = zY σ) (hX : ∀ k, ¬ (k = 0 ∨ (27 ≤ k ∧ k ≤ 30) ∨ k = 45 ∨ k = 63) → zX τ k = zX σ k) (hR : ∀ k, k ≠ 31 → zR τ k = zR σ k)
    (e27 : zX τ 27 2 = zX σ 20 2 ∧ zX τ 27 5 = zX σ 20 5 ∧ zX τ 27 7 = zX σ 20 7 ∧ zX τ 27 8 = zX σ 20 8) (e28 : zX τ 28 = zX σ 21) (e29 : zX τ 29 = zX σ 22) (e30 : zX τ 30 = zX σ 23) (e31 : zR τ 31 = zR σ 24) (e08 : zX τ 0 8 = zX σ 0 8) (e07 : zX τ 0 7 = nI 1) (e45 : ∀ f, f ≠ 32 → zX τ 45 f = zX σ 45 f) (e4532 : zX τ 45 32 = nI 1) (e63 : zX τ 63 = svX σ 63 (Hn d) (Ha d) (Hy d)) : Rel τ := by
  obtain ⟨hW, hK, hM, hl, hc, hs8, h08, h43, hTr, hg, hz, hwd, hIm⟩ := id h
  have hw : ∀ q kd pa w, zWo σ q kd pa w → zWo τ q kd pa w := fun q kd pa w hq => by
    obtain ⟨h1, h2, h3, h4, h5, h6, h7, h8, h9, h10⟩ := hq
    have ex := hX q (by omega)
    exact ⟨by rw [hN]; exact h1, by rw [hK2]; exact h2, by rw [hR q (by omega)]; exact h3, by rw [ex]; exact h4, by rw [ex]; exact h5, by rw [ex]; exact h6, h7, h8, h9, h10⟩
  obtain ⟨⟨a1, a2, a3, a4⟩, ⟨b1, b2, b3, b4, b5⟩, c⟩ := id hM
  obtain ⟨z1, z2, z3, z4⟩ := hK.dz hW
  have x : ∀ k, 18 ≤ k → k ≤ 26 → zX τ k = zX σ k := fun k h1 h2 => hX k (by omega)
  have y : ∀ k, 31 ≤ k → k ≠ 45 → k ≠ 63 → zX τ k = zX σ k := fun k h1 h2 h3 => hX k (by omega)
  refine ⟨d, d, 1, hW, hK.of (x 20 (by decide) (by decide)) (x 21 (by decide) (by decide)) (x 22 (by decide) (by decide)) (x 23 (by decide) (by decide)) (hR 24 (by decide)) hw, ⟨⟨?_, ?_, ?_, ?_⟩, ⟨?_, ?_, ?_, ?_, ?_⟩, fun k hk => ?_⟩, hl2, hc2, fun s hs => ?_, ?_, ?_, ?_, ?_, ?_, ?_, ?_, e07, e4532, Nat.le_refl _, fun _ => ⟨hW, hK.over e27 e28 e29 e30 e31 hw, ?_⟩⟩
  · rw [e45 0 (by decide)]; exact a1
  · rw [e45 1 (by decide)]; exact a2
  · rw [e45 2 (by decide)]; exact a3
  · rw [e45 3 (by decide)]; exact a4
  · rw [y 47 (by decide) (by decide) (by decide)]; exact b1
  · rw [y 48 (by decide) (by decide) (by decide)]; exact b2
  · rw [y 49 (by decide) (by decide) (by decide)]; exact b3
  · rw [y 50 (by decide) (by decide) (by decide)]; exact b4
  · rw [y 51 (by decide) (by decide) (by decide)]; exact b5
  · rw [y 52 (by decide) (by decide) (by decide), y 53 (by decide) (by decide) (by decide)]; exact c k hk
  · have h0 := hs8 s hs
    unfold ShR zRw zMr zWa zMa zNo zMn at h0 ⊢
    rw [hX (2 + 2 * s) (by omega), y 54 (by decide) (by decide) (by decide), y 55 (by decide) (by decide) (by decide), y 56 (by decide) (by decide) (by decide), y 57 (by decide) (by decide) (by decide), hY2]
    exact h0
  · rw [e08, e45 4 (by decide)]; exact h08
  · rw [y 43 (by decide) (by decide) (by decide), y 46 (by decide) (by decide) (by decide)]; exact h43
  · obtain ⟨t1, r, t2, t3, t4⟩ := hTr
    refine ⟨?_, r, t2, ?_, ?_⟩
    · rw [x 19 (by decide) (by decide), y 65 (by decide) (by decide) (by decide)]; exact t1
    · rw [x 18 (by decide) (by decide)]; exact t3
    · rw [e45 31 (by decide)]; exact t4
  · rw [e45 28 (by decide)]; exact hg
  · exact hz.e (y 36 (by decide) (by decide) (by decide)) (y 37 (by decide) (by decide) (by decide)) (y 38 (by decide) (by decide) (by decide)) (hR 39 (by decide))
  · intro j hj
    rw [y 60 (by decide) (by decide) (by decide)]; exact hwd j hj
  · refine ⟨?_, ?_, ?_, ?_⟩
    · show ∀ k, 48 ≤ k → zX τ 28 k = 0
      rw [e28]; exact z1
    · show ∀ k, 12 ≤ k → zX τ 29 k = 0
      rw [e29]; exact z2
    · show ∀ k, 4 ≤ k → zX τ 30 k = 0
      rw [e30]; exact z3
    · show ∀ k, 8 ≤ k → zR τ 31 k = none
      rw [e31]; exact z4
  · have h1 := MK.save (k := 63) hM hW (by decide)
    unfold MK at h1 ⊢
    rw [zX_self] at h1
    rw [e63]
    exact h1
def imS (σ : zSt) : zSt := zuX (zuX (zuR (zuX (zuX (zuX σ 28 (zX σ 21)) 29 (zX σ 22)) 30 (zX σ 23)) 31 (zR σ 24)) 27 (upd (upd (upd (upd (zX σ 27) 2 (zX σ 20 2)) 5 (zX σ 20 5)) 7 (zX σ 20 7)) 8 (zX σ 20 8))) 0 (upd (zX σ 0) 7 (nI 1))
theorem imS_l (h : Lay σ) : Lay (imS σ) := by
  unfold imS
  exact stLay (stLay (Lay.uR (stLay (stLay (stLay h))) (fun _ => rfl)))
theorem imS_c (h : zCl σ) : zCl (imS σ) := by
  unfold imS
  exact zCl.uX (zCl.uX (zCl.uR (zCl.uX (zCl.uX (zCl.uX h))) (fun j q hq => h 24 j q hq)))
theorem imS_n : zN (imS σ) = zN σ := by unfold imS; rw [stXn, stXn, stRn, stXn, stXn, stXn]
theorem imS_k : zK (imS σ) = zK σ := by unfold imS; rw [stXk, stXk, stRk, stXk, stXk, stXk]
theorem imS_y : zY (imS σ) = zY σ := by unfold imS; rw [stXy, stXy, stRy, stXy, stXy, stXy]
theorem imS_x {k : Nat} (h : ¬ (k = 0 ∨ (27 ≤ k ∧ k ≤ 30))) : zX (imS σ) k = zX σ k := by unfold imS; rw [zX_n (by omega), zX_n (by omega), stRx, zX_n (by omega), zX_n (by omega), zX_n (by omega)]
theorem imS_r {k : Nat} (h : k ≠ 31) : zR (imS σ) k = zR σ k := by unfold imS; rw [stXr, stXr, stRo h, stXr, stXr, stXr]
theorem imS_r31 : zR (imS σ) 31 = zR σ 24 := by unfold imS; rw [stXr, stXr, stRs]
theorem imS_28 : zX (imS σ) 28 = zX σ 21 := by unfold imS; rw [zX_n (by decide), zX_n (by decide), stRx, zX_n (by decide), zX_n (by decide), zX_self]
theorem imS_29 : zX (imS σ) 29 = zX σ 22 := by unfold imS; rw [zX_n (by decide), zX_n (by decide), stRx, zX_n (by decide), zX_self]
theorem imS_30 : zX (imS σ) 30 = zX σ 23 := by unfold imS; rw [zX_n (by decide), zX_n (by decide), stRx, zX_self]
theorem imS_27 : zX (imS σ) 27 = upd (upd (upd (upd (zX σ 27) 2 (zX σ 20 2)) 5 (zX σ 20 5)) 7 (zX σ 20 7)) 8 (zX σ 20 8) := by unfold imS; rw [zX_n (by decide), zX_self]
theorem imS_0 : zX (imS σ) 0 = upd (zX σ 0) 7 (nI 1) := by unfold imS; rw [zX_self]
def imT (σ : zSt) (n a y : Nat) : zSt := zuX (zuX (imS σ) 45 (upd (zX (imS σ) 45) 32 (nI 1))) 63 (svX (imS σ) 63 n a y)
theorem imT_x {n a y k : Nat} (h : k ≠ 45) (h2 : k ≠ 63) : zX (imT σ n a y) k = zX (imS σ) k := by unfold imT; rw [zX_n h2, zX_n h]
theorem svX_e {σ τ : zSt} {k n a y : Nat} (h : ∀ j, 45 ≤ j → zX σ j = zX τ j) (hk : 45 ≤ k) : svX σ k n a y = svX τ k n a y := by
  unfold svX
  rw [h 53 (by decide), h 52 (by decide), h 51 (by decide), h 50 (by decide), h 49 (by decide), h 48 (by decide), h 47 (by decide), h 45 (by decide), h k hk]
theorem RelD.image (h : RelD σ d e b) : Rel (imT σ (Hn d) (Ha d) (Hy d)) := by
  have hl := h.2.2.2.1
  have hc := h.2.2.2.2.1
  refine RelD.im h ?_ ?_ ?_ ?_ ?_ (fun k hk => ?_) (fun k hk => ?_) ?_ ?_ ?_ ?_ ?_ ?_ ?_ (fun f hf => ?_) ?_ ?_
  · unfold imT; exact stLay (stLay (imS_l hl))
  · unfold imT; exact zCl.uX (zCl.uX (imS_c hc))
  · unfold imT; rw [stXn, stXn, imS_n]
  · unfold imT; rw [stXk, stXk, imS_k]
  · unfold imT; rw [stXy, stXy, imS_y]
  · rw [imT_x (by omega) (by omega), imS_x (by omega)]
  · unfold imT; rw [stXr, stXr, imS_r hk]
  · rw [imT_x (by decide) (by decide), imS_27]; exact ⟨rfl, rfl, rfl, rfl⟩
  · rw [imT_x (by decide) (by decide), imS_28]
  · rw [imT_x (by decide) (by decide), imS_29]
  · rw [imT_x (by decide) (by decide), imS_30]
  · unfold imT; rw [stXr, stXr, imS_r31]
  · rw [imT_x (by decide) (by decide), imS_0]; exact upd_ne (by decide)
  · rw [imT_x (by decide) (by decide), imS_0]; exact pk_us
  · unfold imT; rw [zX_n (by decide), zX_self, upd_ne hf, imS_x (by decide)]
  · unfold imT; rw [zX_n (by decide), zX_self]; exact pk_us
  · unfold imT; rw [zX_self]; exact svX_e (fun j hj => imS_x (by omega)) (by decide)
/-- an image taken back -/
theorem RelD.re {τ : zSt} (h : RelD σ d e 1) (hl2 : Lay τ) (hc2 : zCl τ) (hN : zN τ = zN σ) (hK2 : zK τ = zK σ) (hY2 : zY τ = zY σ) (hX : ∀ k, ¬ (k < 18 ∨ (20 ≤ k ∧ k ≤ 23) ∨ k = 45 ∨ (47 ≤ k ∧ k ≤ 54)) → zX τ k = zX σ k) (hR : ∀ k, k ≠ 24 → zR τ k = zR σ k) (hMb : MH τ e)
    (e27 : zX τ 20 2 = zX σ 27 2 ∧ zX τ 20 5 = zX σ 27 5 ∧ zX τ 20 7 = zX σ 27 7 ∧ zX τ 20 8 = zX σ 27 8) (e28 : zX τ 21 = zX σ 28) (e29 : zX τ 22 = zX σ 29) (e30 : zX τ 23 = zX σ 30) (e31 : zR τ 24 = zR σ 31) (e0 : zX τ 0 = zX σ 0) (e45 : ∀ f, 4 ≤ f → zX τ 45 f = zX σ 45 f) (e54 : zX τ 54 = rsM (Hy e) 8 (zX σ 54) (zX σ 57))
    (esh : ∀ s, s < 8 → zX τ (2 + 2 * s) = if ¬ zX σ (2 + 2 * s) 3 = (-1) ∧ zOb (zX σ (2 + 2 * s) 3) (Hy e) = true then upd (upd (upd (zX σ (2 + 2 * s)) 3 (-1)) 1 (-1)) 2 (nI 0) else zX σ (2 + 2 * s)) : Rel τ := by
  obtain ⟨hW, hK, hM, hl, hc, hs8, h08, h43, hTr, hg, hz, hwd, i1, i2, i3, i4, i5⟩ := id h
  obtain ⟨we, ke, me⟩ := i5 rfl
  have hy8 := we.1.2.2
  have hyd := hW.1.2.2
  have hw : ∀ q kd pa w, zWo σ q kd pa w → zWo τ q kd pa w := fun q kd pa w hq => by
    obtain ⟨h1, h2, h3, h4, h5, h6, h7, h8, h9, h10⟩ := hq
    have ex := hX q (by omega)
    exact ⟨by rw [hN]; exact h1, by rw [hK2]; exact h2, by rw [hR q (by omega)]; exact h3, by rw [ex]; exact h4, by rw [ex]; exact h5, by rw [ex]; exact h6, h7, h8, h9, h10⟩
  have x : ∀ k, 24 ≤ k → k ≤ 44 → zX τ k = zX σ k := fun k h1 h2 => hX k (by omega)
  have y : ∀ k, 55 ≤ k → zX τ k = zX σ k := fun k h1 => hX k (by omega)
  refine ⟨e, e, 1, we, ke.over e27 e28 e29 e30 e31 hw, hMb, hl2, hc2, fun s hs => ?_, ?_, ?_, ?_, ?_, ?_, ?_, ?_, ?_, ?_, Nat.le_refl _, fun _ => ⟨we, ke.of ?_ ?_ ?_ ?_ ?_ hw, ?_⟩⟩
  · obtain ⟨hst, hY⟩ := hs8 s hs
    unfold ShR zRw zMr zWa zMa zNo zMn
    unfold zRw zMr zWa zMa zNo zMn at hst
    rw [esh s hs, e54, y 55 (by decide), y 56 (by decide), y 57 (by decide), hY2]
    refine ⟨?_, hY⟩
    rcases hst with ⟨o, m, ha, hb⟩ | ⟨i8, hi8, ha, hb⟩ | ⟨ha, hb⟩
    · rw [if_neg (fun q => q.1 ha.2.2.2.2)]
      have : rsM (Hy e) 8 (zX σ 54) (zX σ 57) s = zX σ 54 s := by
        unfold rsM
        rw [if_neg (fun q => by rw [hb.1] at q; exact absurd q.2.1 (by decide))]
      rw [this]
      exact Or.inl ⟨o, m, ha, hb⟩
    · rw [ha.2.2.1]
      rcases Nat.lt_or_ge i8 (Hy e) with h1 | h1
      · rw [if_neg (fun q => by
          have := zOb_t.mp q.2
          rcases this with h2 | h2
          · exact nI_nneg (by omega) h2
          · rw [nq_le (by omega) (by omega)] at h2; omega)]
        have : rsM (Hy e) 8 (zX σ 54) (zX σ 57) s = zX σ 54 s := by
          unfold rsM
          rw [if_neg (fun q => by rw [hb.2.1, nq_le (by omega) (by omega)] at q; omega)]
        rw [this]
        exact Or.inr (Or.inl ⟨i8, h1, ha, hb⟩)
      · rw [if_pos ⟨fun q => zm1 (by omega) q, zOb_t.mpr (Or.inr ((nq_le (by omega) (by omega)).mpr h1))⟩]
        have : rsM (Hy e) 8 (zX σ 54) (zX σ 57) s = nI 0 := by
          unfold rsM
          rw [if_pos ⟨hs, hb.1, by rw [hb.2.1]; exact (nq_le (by omega) (by omega)).mpr h1⟩]
        rw [this]
        exact Or.inr (Or.inr ⟨⟨rfl, rfl, rfl⟩, rfl⟩)
    · rw [if_neg (fun q => q.1 ha.2.2)]
      have : rsM (Hy e) 8 (zX σ 54) (zX σ 57) s = zX σ 54 s := by
        unfold rsM
        rw [if_neg (fun q => by rw [hb] at q; exact absurd q.2.1 (by decide))]
      rw [this]
      exact Or.inr (Or.inr ⟨ha, hb⟩)
  · rw [e0, e45 4 (by decide)]; exact h08
  · rw [x 43 (by decide) (by decide), hX 46 (by decide)]; exact h43
  · obtain ⟨t1, r, t2, t3, t4⟩ := hTr
    refine ⟨?_, r, t2, ?_, ?_⟩
    · rw [hX 19 (by decide), y 65 (by decide)]; exact t1
    · rw [hX 18 (by decide)]; exact t3
    · rw [e45 31 (by decide)]; exact t4
  · rw [e45 28 (by decide)]; exact hg
  · exact hz.e (x 36 (by decide) (by decide)) (x 37 (by decide) (by decide)) (x 38 (by decide) (by decide)) (hR 39 (by decide))
  · intro j hj
    rw [y 60 (by decide)]; exact hwd j hj
  · exact i1.e (x 28 (by decide) (by decide)) (x 29 (by decide) (by decide)) (x 30 (by decide) (by decide)) (hR 31 (by decide))
  · rw [e0]; exact i2
  · rw [e45 32 (by decide)]; exact i3
  · exact x 27 (by decide) (by decide)
  · exact x 28 (by decide) (by decide)
  · exact x 29 (by decide) (by decide)
  · exact x 30 (by decide) (by decide)
  · exact hR 31 (by decide)
  · unfold MK
    rw [y 63 (by decide)]
    exact me
def rsR (σ : zSt) : zSt := zuX (zuR (zuX (zuX (zuX σ 21 (zX σ 28)) 22 (zX σ 29)) 23 (zX σ 30)) 24 (zR σ 31)) 20 (upd (upd (upd (upd (zX σ 20) 2 (zX σ 27 2)) 5 (zX σ 27 5)) 7 (zX σ 27 7)) 8 (zX σ 27 8))
theorem rsR_l (h : Lay σ) : Lay (rsR σ) := by
  unfold rsR
  exact stLay (Lay.uR (stLay (stLay (stLay h))) (fun _ => rfl))
theorem rsR_c (h : zCl σ) : zCl (rsR σ) := by
  unfold rsR
  exact zCl.uX (zCl.uR (zCl.uX (zCl.uX (zCl.uX h))) (fun j q hq => h 31 j q hq))
theorem rsR_n : zN (rsR σ) = zN σ := by unfold rsR; rw [stXn, stRn, stXn, stXn, stXn]
theorem rsR_k : zK (rsR σ) = zK σ := by unfold rsR; rw [stXk, stRk, stXk, stXk, stXk]
theorem rsR_y : zY (rsR σ) = zY σ := by unfold rsR; rw [stXy, stRy, stXy, stXy, stXy]
theorem rsR_x {k : Nat} (h : ¬ (20 ≤ k ∧ k ≤ 23)) : zX (rsR σ) k = zX σ k := by unfold rsR; rw [zX_n (by omega), stRx, zX_n (by omega), zX_n (by omega), zX_n (by omega)]
theorem rsR_r {k : Nat} (h : k ≠ 24) : zR (rsR σ) k = zR σ k := by unfold rsR; rw [stXr, stRo h, stXr, stXr, stXr]
theorem rsR_r24 : zR (rsR σ) 24 = zR σ 31 := by unfold rsR; rw [stXr, stRs]
theorem rsR_21 : zX (rsR σ) 21 = zX σ 28 := by unfold rsR; rw [zX_n (by decide), stRx, zX_n (by decide), zX_n (by decide), zX_self]
theorem rsR_22 : zX (rsR σ) 22 = zX σ 29 := by unfold rsR; rw [zX_n (by decide), stRx, zX_n (by decide), zX_self]
theorem rsR_23 : zX (rsR σ) 23 = zX σ 30 := by unfold rsR; rw [zX_n (by decide), stRx, zX_self]
theorem rsR_20 : zX (rsR σ) 20 = upd (upd (upd (upd (zX σ 20) 2 (zX σ 27 2)) 5 (zX σ 27 5)) 7 (zX σ 27 7)) 8 (zX σ 27 8) := by unfold rsR; rw [zX_self]
def rsU (σ : zSt) (y : Nat) : zSt := rsS y (rsR σ) 8
theorem rsU_l {y : Nat} (h : Lay σ) : Lay (rsU σ y) := by unfold rsU; exact (rsR_l h).rsS
theorem rsU_c {y : Nat} (h : zCl σ) : zCl (rsU σ y) := by
  obtain ⟨s1, s2, s3, s4, s5⟩ := rsS_same (y := y) (σ := rsR σ) 8
  unfold rsU zCl
  rw [s1, s5]
  exact rsR_c h
theorem rsU_n {y : Nat} : zN (rsU σ y) = zN σ := (rsS_same 8).1.trans rsR_n
theorem rsU_k {y : Nat} : zK (rsU σ y) = zK σ := (rsS_same 8).2.1.trans rsR_k
theorem rsU_y {y : Nat} : zY (rsU σ y) = zY σ := (rsS_same 8).2.2.2.1.trans rsR_y
theorem rsU_r {y k : Nat} : zR (rsU σ y) k = zR (rsR σ) k := congrFun (rsS_same 8).2.2.2.2 k
theorem rsU_o {y k : Nat} (h : k = 0 ∨ 18 ≤ k) : zX (rsU σ y) k = zX (rsR σ) k := rsS_o 8 (fun t ht => by omega)
theorem rsU_s {y s : Nat} (h : s < 8) : zX (rsU σ y) (2 + 2 * s) = if ¬ zX σ (2 + 2 * s) 3 = (-1) ∧ zOb (zX σ (2 + 2 * s) 3) y = true then upd (upd (upd (zX σ (2 + 2 * s)) 3 (-1)) 1 (-1)) 2 (nI 0) else zX σ (2 + 2 * s) := by
  have h1 := rsS_at (y := y) (σ := rsR σ) 8 h
  rw [rsR_x (by omega)] at h1
  exact h1
def rsV (σ : zSt) (y : Nat) : zSt := zuX (bkS (rsU σ y) 63) 54 (rsM y 8 (zX (rsU σ y) 54) (zX (rsU σ y) 57))
theorem rsV_x {y k : Nat} (h : k ≠ 54) : zX (rsV σ y) k = zX (bkS (rsU σ y) 63) k := by unfold rsV; exact zX_n h
theorem rsV_o {y k : Nat} (h : k ≠ 54) (h2 : ¬ (k = 45 ∨ k = 46 ∨ (47 ≤ k ∧ k ≤ 53) ∨ k = 61 ∨ k = 62)) : zX (rsV σ y) k = zX (rsU σ y) k := (rsV_x h).trans (hFr.b.2.1 k h2)
theorem bkS_46 {σ : zSt} {k j : Nat} (h : j ≠ 45) (h2 : ¬ (47 ≤ j ∧ j ≤ 53)) : zX (bkS σ k) j = zX σ j := by
  unfold bkS
  rw [zX_n (by omega), zX_n (by omega), zX_n (by omega), zX_n (by omega), zX_n (by omega), zX_n (by omega), zX_n (by omega), zX_n (by omega)]
theorem bkS_45 {σ : zSt} {k f : Nat} (h : 4 ≤ f) : zX (bkS σ k) 45 f = zX σ 45 f := by
  unfold bkS
  rw [zX_self, upd_ne (by omega), upd_ne (by omega), upd_ne (by omega), upd_ne (by omega)]
theorem RelD.restore (h : RelD σ d e 1) : Rel (rsV σ (Hy e)) := by
  obtain ⟨hW, hK, hM, hl, hc, hs8, h08, h43, hTr, hg, hz, hwd, i1, i2, i3, i4, i5⟩ := id h
  obtain ⟨we, ke, me⟩ := i5 rfl
  have X : ∀ k, 24 ≤ k → zX (rsU σ (Hy e)) k = zX σ k := fun k hk => (rsU_o (by omega)).trans (rsR_x (by omega))
  have hMs : MH (rsU σ (Hy e)) d := by
    unfold MH
    rw [X 45 (by decide), X 47 (by decide), X 48 (by decide), X 49 (by decide), X 50 (by decide), X 51 (by decide), X 52 (by decide), X 53 (by decide)]
    exact hM
  have hKs : MK (rsU σ (Hy e)) 63 e := by
    unfold MK
    rw [X 63 (by decide)]
    exact me
  have hMb : MH (bkS (rsU σ (Hy e)) 63) e := MH.back hKs we hMs hW
  have hB := (hFr.b (σ := rsU σ (Hy e)) (k := 63)).1
  have hMv : MH (rsV σ (Hy e)) e := by
    unfold MH at hMb ⊢
    rw [rsV_x (by decide), rsV_x (by decide), rsV_x (by decide), rsV_x (by decide), rsV_x (by decide), rsV_x (by decide), rsV_x (by decide), rsV_x (by decide)]
    exact hMb
  refine RelD.re h ?_ ?_ ?_ ?_ ?_ (fun k hk => ?_) (fun k hk => ?_) hMv ?_ ?_ ?_ ?_ ?_ ?_ (fun f hf => ?_) ?_ (fun s hs => ?_)
  · have h1 : Lay (bkS (rsU σ (Hy e)) 63) := by unfold bkS; exact stLay (stLay (stLay (stLay (stLay (stLay (stLay (stLay (rsU_l hl))))))))
    unfold rsV; exact stLay h1
  · have h1 : zCl (bkS (rsU σ (Hy e)) 63) := by unfold bkS; exact zCl.uX (zCl.uX (zCl.uX (zCl.uX (zCl.uX (zCl.uX (zCl.uX (zCl.uX (rsU_c hc))))))))
    unfold rsV; exact zCl.uX h1
  · unfold rsV; rw [stXn, hB.1, rsU_n]
  · unfold rsV; rw [stXk, hB.2.1, rsU_k]
  · unfold rsV; rw [stXy, hB.2.2.2.2, rsU_y]
  · rw [rsV_x (by omega), bkS_46 (by omega) (by omega), rsU_o (by omega), rsR_x (by omega)]
  · unfold rsV; rw [stXr, hB.2.2.2.1, rsU_r, rsR_r hk]
  · rw [rsV_o (by decide) (by decide), rsU_o (by decide), rsR_20]; exact ⟨rfl, rfl, rfl, rfl⟩
  · rw [rsV_o (by decide) (by decide), rsU_o (by decide), rsR_21]
  · rw [rsV_o (by decide) (by decide), rsU_o (by decide), rsR_22]
  · rw [rsV_o (by decide) (by decide), rsU_o (by decide), rsR_23]
  · unfold rsV; rw [stXr, hB.2.2.2.1, rsU_r, rsR_r24]
  · rw [rsV_o (by decide) (by decide), rsU_o (by decide), rsR_x (by decide)]
  · rw [rsV_x (by decide), bkS_45 hf, X 45 (by decide)]
  · unfold rsV; rw [zX_self, X 54 (by decide), X 57 (by decide)]
  · rw [rsV_o (by omega) (by omega), rsU_s hs]
end

theorem pr_act {σ : zSt} (hR : Rel σ) {i : Int32} {v : Int32} {x : Int32} : Pair mX11_act mX12_act [.int i, .int v, .int x] σ := by
  obtain ⟨d, e, b0, h⟩ := id hR
  obtain ⟨hW, hK, hM, hl, hc, hs8, h08, h43, hTr, hg, hz, hwd, hIm⟩ := id h
  have H := h.hd
  have M := h.md
  have hn8 := hW.1.1
  have ha4 := hW.1.2.1
  have hy8 := hW.1.2.2
  obtain ⟨od, pos, ho, hm, hp, hod, hinj⟩ := h.od
  obtain ⟨E7, E8, E9, E50, E51⟩ := h.eqs
  have t1 : zX σ 19 = zX σ 65 := hTr.1
  rcases znt i (Hy d) (by omega) with hi | ⟨i, hi, rfl⟩
  · exact Pair.of (t_K_act_1 hl H hi) (t_M_act_1 (σ := zuX σ 18 _) hl M hi) rfl (h.t0 (by decide))
  · obtain ⟨q, hq, hw, hy⟩ := h.wy hi
    rcases znt v (3) (by decide) with hv | ⟨v, hv, rfl⟩
    · exact Pair.of (t_K_act_2 hl H hi hq hv) (t_M_act_2 (σ := zuX σ 18 _) hl M hi hv) rfl (h.t0 (by decide))
    · have hk6 := hy.2.2.1
      generalize Hk d i = kd at hw hy hk6
      generalize Hp d i = pa at hw hy
      rcases (by omega : v = 0 ∨ v = 1 ∨ v = 2) with rfl | rfl | rfl
      · rcases (by omega : kd = 0 ∨ kd = 1 ∨ kd = 2 ∨ kd = 3 ∨ kd = 4 ∨ kd = 5 ∨ kd = 6) with rfl | rfl | rfl | rfl | rfl | rfl | rfl
        · exact Pair.of (t_K_act_feels_0 hl H hi hq hw) (t_M_act_feels_0 (σ := zuX (zuX σ 18 _) 19 _) hl M hi hy) rfl (h.t (by decide) (by first | (rw [t1]; done) | (rw [t1]; rfl)))
        · exact Pair.of (t_K_act_feels_1 hl H hi hq hw) (t_M_act_feels_1 (σ := zuX (zuX σ 18 _) 19 _) hl M hi hy) rfl (h.t (by decide) (by first | (rw [t1]; done) | (rw [t1]; rfl)))
        · exact Pair.of (t_K_act_feels_2 hl H hi hq hw) (t_M_act_feels_2 (σ := zuX (zuX σ 18 _) 19 _) hl M hi hy) rfl (h.t (by decide) (by first | (rw [t1]; done) | (rw [t1]; rfl)))
        · exact Pair.of (t_K_act_feels_3 hl H hi hq hw) (t_M_act_feels_3 (σ := zuX (zuX σ 18 _) 19 _) hl M hi hy) rfl (h.t (by decide) (by first | (rw [t1]; done) | (rw [t1]; rfl)))
        · exact Pair.of (t_K_act_feels_4 hl H hi hq hw) (t_M_act_feels_4 (σ := zuX (zuX σ 18 _) 19 _) hl M hi hy) rfl (h.t (by decide) (by first | (rw [t1]; done) | (rw [t1]; rfl)))
        · exact Pair.of (t_K_act_feels_5 hl H hi hq hw) (t_M_act_feels_5 (σ := zuX (zuX σ 18 _) 19 _) hl M hi hy) rfl (h.t (by decide) (by first | (rw [t1]; done) | (rw [t1]; rfl)))
        · exact Pair.of (t_K_act_feels_6 hl H hi hq hw) (t_M_act_feels_6 (σ := zuX (zuX σ 18 _) 19 _) hl M hi hy) rfl (h.t (by decide) (by first | (rw [t1]; done) | (rw [t1]; rfl)))
      · rcases (by omega : kd = 0 ∨ kd = 1 ∨ kd = 2 ∨ kd = 3 ∨ kd = 4 ∨ kd = 5 ∨ kd = 6) with rfl | rfl | rfl | rfl | rfl | rfl | rfl
        · exact Pair.of (t_K_act_asks_0 hl H hi hq hw) (t_M_act_asks_0 (σ := zuX (zuX σ 18 _) 19 _) hl M hi hy) rfl (h.t (by decide) (by first | (rw [t1]; done) | (rw [t1]; rfl)))
        · exact Pair.of (t_K_act_asks_1 hl H hi hq hw) (t_M_act_asks_1 (σ := zuX (zuX σ 18 _) 19 _) hl M hi hy) rfl (h.t (by decide) (by first | (rw [t1]; done) | (rw [t1]; rfl)))
        · exact Pair.of (t_K_act_asks_2 hl H hi hq hw) (t_M_act_asks_2 (σ := zuX (zuX σ 18 _) 19 _) hl M hi hy) rfl (h.t (by decide) (by first | (rw [t1]; done) | (rw [t1]; rfl)))
        · exact Pair.of (t_K_act_asks_3 hl H hi hq hw) (t_M_act_asks_3 (σ := zuX (zuX σ 18 _) 19 _) hl M hi hy) rfl (h.t (by decide) (by first | (rw [t1]; done) | (rw [t1]; rfl)))
        · exact Pair.of (t_K_act_asks_4 hl H hi hq hw) (t_M_act_asks_4 (σ := zuX (zuX σ 18 _) 19 _) hl M hi hy) rfl (h.t (by decide) (by first | (rw [t1]; done) | (rw [t1]; rfl)))
        · exact Pair.of (t_K_act_asks_5 hl H hi hq hw) (t_M_act_asks_5 (σ := zuX (zuX σ 18 _) 19 _) hl M hi hy) rfl (h.t (by decide) (by first | (rw [t1]; done) | (rw [t1]; rfl)))
        · exact Pair.of (t_K_act_asks_6 hl H hi hq hw) (t_M_act_asks_6 (σ := zuX (zuX σ 18 _) 19 _) hl M hi hy) rfl (h.t (by decide) (by first | (rw [t1]; done) | (rw [t1]; rfl)))
      · rcases (by omega : kd = 0 ∨ kd = 1 ∨ kd = 2 ∨ kd = 3 ∨ kd = 4 ∨ kd = 5 ∨ kd = 6) with rfl | rfl | rfl | rfl | rfl | rfl | rfl
        · exact Pair.of (t_K_act_sums_0 hl H hi hq hw) (t_M_act_sums_0 (σ := zuX (zuX σ 18 _) 19 _) hl M hi hy) rfl (h.t (by decide) (by first | (rw [t1]; done) | (rw [t1]; rfl)))
        · exact Pair.of (t_K_act_sums_1 hl H hi hq hw) (t_M_act_sums_1 (σ := zuX (zuX σ 18 _) 19 _) hl M hi hy) rfl (h.t (by decide) (by first | (rw [t1]; done) | (rw [t1]; rfl)))
        · exact Pair.of (t_K_act_sums_2 hl H hi hq hw) (t_M_act_sums_2 (σ := zuX (zuX σ 18 _) 19 _) hl M hi hy) rfl (h.t (by decide) (by first | (rw [t1]; done) | (rw [t1]; rfl)))
        · exact Pair.of (t_K_act_sums_3 hl H hi hq hw) (t_M_act_sums_3 (σ := zuX (zuX σ 18 _) 19 _) hl M hi hy) rfl (h.t (by decide) (by first | (rw [t1]; done) | (rw [t1]; rfl)))
        · exact Pair.of (t_K_act_sums_4 hl H hi hq hw) (t_M_act_sums_4 (σ := zuX (zuX σ 18 _) 19 _) hl M hi hy) rfl (h.t (by decide) (by first | (rw [t1]; done) | (rw [t1]; rfl)))
        · exact Pair.of (t_K_act_sums_5 hl H hi hq hw) (t_M_act_sums_5 (σ := zuX (zuX σ 18 _) 19 _) hl M hi hy) rfl (h.t (by decide) (by first | (rw [t1]; done) | (rw [t1]; rfl)))
        · exact Pair.of (t_K_act_sums_6 hl H hi hq hw) (t_M_act_sums_6 (σ := zuX (zuX σ 18 _) 19 _) hl M hi hy) rfl (h.t (by decide) (by first | (rw [t1]; done) | (rw [t1]; rfl)))

theorem pr_judge {σ : zSt} (hR : Rel σ) {s : Int32} : Pair mX11_judge mX12_judge [.int s] σ := by
  obtain ⟨d, e, b0, h⟩ := id hR
  obtain ⟨hW, hK, hM, hl, hc, hs8, h08, h43, hTr, hg, hz, hwd, hIm⟩ := id h
  have H := h.hd
  have M := h.md
  have hn8 := hW.1.1
  have ha4 := hW.1.2.1
  have hy8 := hW.1.2.2
  obtain ⟨od, pos, ho, hm, hp, hod, hinj⟩ := h.od
  obtain ⟨E7, E8, E9, E50, E51⟩ := h.eqs
  rcases znt s 8 (by decide) with hs | ⟨s, hs, rfl⟩
  · exact Pair.of (t_K_judge_1 hl hs) (t_M_judge_1 (σ := zuX σ 43 _) hl hs) rfl hR.r
  · obtain ⟨hst, hY⟩ := hs8 s hs
    rcases hst with ⟨o, m, ha, hb⟩ | ⟨i8, hi8, ha, hb⟩ | ⟨ha, hb⟩
    · have hm160 := ha.2.2.2.1
      obtain ⟨t, r, htn, hgK, hend⟩ := rk_ex (fun i => (zY σ (2 + 2 * s + 1) i).toInt32) m (Hn d) (by omega)
      have hcong : ∀ i, i < 160 → (fun i => (zY σ (2 + 2 * s + 1) i).toInt32) i = (fun i => (zY σ 58 (s * 160 + i)).toInt32) i := fun i hi => by show (zY σ (2 + 2 * s + 1) i).toInt32 = (zY σ 58 (s * 160 + i)).toInt32; rw [hY i hi]
      have hgM := rkG_cong hm160 hcong hgK
      rcases hend with htn2 | ⟨htn2, hbK⟩
      · exact Pair.of (t_K_judge_ok hl H hs ha hgK htn2) (t_M_judge_ok hl M hs hb hgM htn2) rfl (hR.u rfl)
      · exact Pair.of (t_K_judge_at hl H hs ha hgK htn2 hbK) (t_M_judge_at hl M hs hb hgM htn2 (rkB_cong hm160 hcong hbK)) rfl (hR.u rfl)
    · exact Pair.of (t_K_judge_2 hl hs ha) (t_M_judge_2 (σ := zuX σ 43 _) hl hs hb) rfl hR.r
    · exact Pair.of (t_K_judge_3 hl hs ha) (t_M_judge_3 (σ := zuX σ 43 _) hl hs hb) rfl hR.r

theorem pr_told {σ : zSt} (hR : Rel σ) {s : Int32} : Pair mX11_told mX12_told [.int s] σ := by
  obtain ⟨d, e, b0, h⟩ := id hR
  obtain ⟨hW, hK, hM, hl, hc, hs8, h08, h43, hTr, hg, hz, hwd, hIm⟩ := id h
  have H := h.hd
  have M := h.md
  have hn8 := hW.1.1
  have ha4 := hW.1.2.1
  have hy8 := hW.1.2.2
  obtain ⟨od, pos, ho, hm, hp, hod, hinj⟩ := h.od
  obtain ⟨E7, E8, E9, E50, E51⟩ := h.eqs
  rcases znt s 8 (by decide) with hs | ⟨s, hs, rfl⟩
  · exact Pair.of (t_K_told_1 hl hs) (t_M_told_1 (σ := zuX σ 43 _) hl hs) rfl hR.r
  · obtain ⟨hst, hY⟩ := hs8 s hs
    rcases hst with ⟨o, m, ha, hb⟩ | ⟨i8, hi8, ha, hb⟩ | ⟨ha, hb⟩
    · have hm160 := ha.2.2.2.1
      obtain ⟨t, r, htn, hgK, hend⟩ := rk_ex (fun i => (zY σ (2 + 2 * s + 1) i).toInt32) m (Hn d) (by omega)
      have hcong : ∀ i, i < 160 → (fun i => (zY σ (2 + 2 * s + 1) i).toInt32) i = (fun i => (zY σ 58 (s * 160 + i)).toInt32) i := fun i hi => by show (zY σ (2 + 2 * s + 1) i).toInt32 = (zY σ 58 (s * 160 + i)).toInt32; rw [hY i hi]
      have hgM := rkG_cong hm160 hcong hgK
      rcases hend with htn2 | ⟨htn2, hbK⟩
      · by_cases hnm : Hn d < m
        · exact Pair.of (t_K_told_6b hl H hs ha hgK htn2 hnm) (t_M_told_6b (σ := zuX σ 43 _) hl M hs hb hgM htn2 hnm) rfl (Rel.r64 hR)
        · subst htn2
          exact Pair.of (t_K_told_0 hl H hs ha hgK hnm) (t_M_told_0 (σ := zuX σ 25 _) hl M hs hb hgM hnm) (i_e (by rw [told_pt hn8 hgK, ← E7]; rfl)) ((hR.u rfl).u rfl)
      · exact Pair.of (t_K_told_6a hl H hs ha hgK htn2 hbK) (t_M_told_6a (σ := zuX σ 43 _) hl M hs hb hgM htn2 (rkB_cong hm160 hcong hbK)) rfl (Rel.r64 hR)
    · exact Pair.of (t_K_told_2 hl hs ha) (t_M_told_2 (σ := zuX σ 43 _) hl hs hb) rfl hR.r
    · exact Pair.of (t_K_told_3 hl hs ha) (t_M_told_3 (σ := zuX σ 43 _) hl hs hb) rfl hR.r

theorem pr_image {σ : zSt} (hR : Rel σ)  : Pair mX11_image mX12_image [] σ := by
  obtain ⟨d, e, b0, h⟩ := id hR
  obtain ⟨hW, hK, hM, hl, hc, hs8, h08, h43, hTr, hg, hz, hwd, hIm⟩ := id h
  have H := h.hd
  have M := h.md
  have hn8 := hW.1.1
  have ha4 := hW.1.2.1
  have hy8 := hW.1.2.2
  obtain ⟨od, pos, ho, hm, hp, hod, hinj⟩ := h.od
  obtain ⟨E7, E8, E9, E50, E51⟩ := h.eqs
  obtain ⟨z1, z2, z3, z4⟩ := hIm.1
  obtain ⟨y1, y2, y3, y4⟩ := hK.dz hW
  have hk1 := t_K_image_0 hl H (fun k hk => (z1 k hk).trans (y1 k hk).symm) (fun k hk => (z2 k hk).trans (y2 k hk).symm) (fun k hk => (z3 k hk).trans (y3 k hk).symm) (fun k hk => (z4 k hk).trans (y4 k hk).symm) hK.ways
  have hMi : zMd (imS σ) (Hn d) (Ha d) (Hy d) := by
    obtain ⟨m0, m1⟩ := M
    refine ⟨imS_l hl, ?_⟩
    rw [imS_x (by decide)]
    exact m1
  have hm1 := t_M_image_0 (imS_l hl) hMi
  exact Pair.oq (σ1 := imS σ) hk1 hm1 rfl h.image (L45 (imS_l hl))

theorem pr_restore {σ : zSt} (hR : Rel σ)  : Pair mX11_restore mX12_restore [] σ := by
  obtain ⟨d, e, b0, h⟩ := id hR
  obtain ⟨hW, hK, hM, hl, hc, hs8, h08, h43, hTr, hg, hz, hwd, hIm⟩ := id h
  have H := h.hd
  have M := h.md
  have hn8 := hW.1.1
  have ha4 := hW.1.2.1
  have hy8 := hW.1.2.2
  obtain ⟨od, pos, ho, hm, hp, hod, hinj⟩ := h.od
  obtain ⟨E7, E8, E9, E50, E51⟩ := h.eqs
  obtain ⟨i1, i2, i3, i4, i5⟩ := hIm
  rcases (by omega : b0 = 0 ∨ b0 = 1) with rfl | rfl
  · exact Pair.of (t_K_restore_6 hl i2) (t_M_restore_6 (σ := zuX σ 43 _) hl i3) rfl hR.r
  · obtain ⟨we, ke, me⟩ := i5 rfl
    obtain ⟨z1, z2, z3, z4⟩ := i1
    obtain ⟨y1, y2, y3, y4⟩ := hK.dz hW
    have X : ∀ k, 24 ≤ k → zX (rsU σ (Hy e)) k = zX σ k := fun k hk => (rsU_o (by omega)).trans (rsR_x (by omega))
    have hM1 := t_M_restore_0 (σ := rsU σ (Hy e)) (y := Hy e) (rsU_l hl) (by rw [X 45 (by decide)]; exact i3) (by rw [X 63 (by decide)]; exact me.2.2.2.2.2.1) we.1.2.2
    refine Pair.oq (σ1 := rsU σ (Hy e)) (t_K_restore_0 hl i2 ke.1.1 we.1.1 ke.1.2.1 we.1.2.1 ke.1.2.2.1 we.1.2.2 (fun i hi => ?_) (fun s hs => ?_) (fun k hk => (y1 k hk).trans (z1 k hk).symm) (fun k hk => (y2 k hk).trans (z2 k hk).symm) (fun k hk => (y3 k hk).trans (z3 k hk).symm) (fun k hk => (y4 k hk).trans (z4 k hk).symm) ke.ways) hM1 rfl h.restore (L45 (rsU_l hl))
    · obtain ⟨q, q1, q2⟩ := ke.2.2.1 i hi
      exact ⟨q, q1⟩
    · obtain ⟨hst, hY⟩ := hs8 s hs
      rcases hst with ⟨o, m, ha, hb⟩ | ⟨i8, hi8, ha, hb⟩ | ⟨ha, hb⟩
      · exact Or.inl ha.2.2.2.2
      · exact Or.inr ⟨i8, ha.2.2.2, ha.2.2.1⟩
      · exact Or.inl ha.2.2

theorem gF.h {σ τ : zSt} (h : hFr σ τ) : gF σ τ := by
  obtain ⟨⟨h1, h2, h3, h4, h5⟩, h6, h7⟩ := h
  refine ⟨by rw [h1]; exact Nat.le_refl _, fun k _ => ⟨by rw [h2], fun hk => h6 k (fun hx => ?_), fun _ _ => by rw [h5], fun _ _ => by rw [h4]⟩, fun f h8 h9 => h7 f (by omega), by rw [h6 0 (by decide)]⟩
  have : k = 45 ∨ k = 46 ∨ k = 47 ∨ k = 48 ∨ k = 49 ∨ k = 50 ∨ k = 51 ∨ k = 52 ∨ k = 53 ∨ k = 61 ∨ k = 62 := by omega
  rcases this with rfl | rfl | rfl | rfl | rfl | rfl | rfl | rfl | rfl | rfl | rfl <;> cases hk
theorem ipD_y {T : Nat → Int32} {a : Nat} {d : HD} : Hy d ≤ Hy (ipD T a d) := by
  unfold ipD
  split
  · exact Nat.le_refl _
  split
  · exact Nat.le_refl _
  split
  · exact Nat.le_succ _
  · exact Nat.le_refl _
theorem pr_y {T : Nat → Int32} {m : Nat} : ∀ (f a : Nat) (d : HD), Hy d ≤ Hy (pr T m f a d).2.2
  | 0, _, d => Nat.le_refl _
  | f + 1, a, d => by
    cases hB : ipB T a d with
    | some x => rw [pr_b hB]; exact Nat.le_refl _
    | none =>
      rw [pr_g hB]
      show Hy d ≤ Hy (rs T m f (itN T a) (ipD T a d)).2.2
      have h1 := ipD_y (T := T) (a := a) (d := d)
      unfold rs
      split
      · split
        · exact Nat.le_trans h1 (pr_y f _ _)
        · exact h1
      · exact h1
theorem pr_le {T : Nat → Int32} {m x : Nat} : ∀ (f a : Nat) (d : HD), a ≤ m → (pr T m f a d).1 = some x → x ≤ m + 24
  | 0, _, _, _, h => by cases h
  | f + 1, a, d, ha, h => by
    cases hB : ipB T a d with
    | some y =>
      rw [pr_b hB] at h
      cases h
      have := ipB_le hB
      omega
    | none =>
      rw [pr_g hB] at h
      have h : (rs T m f (itN T a) (ipD T a d)).1 = some x := h
      unfold rs at h
      by_cases h1 : itN T a < m
      · rw [if_pos h1] at h
        by_cases h2 : T (itN T a) = nI 59
        · rw [if_pos h2] at h; exact pr_le f _ _ h1 h
        · rw [if_neg h2] at h; cases h; omega
      · rw [if_neg h1] at h; cases h
theorem ht_of {σ : zSt} {s o m : Nat} {T : Nat → Int32} (hl : Lay σ) (hs : s < 8) (ha : zRw σ (2 + 2 * s) o m) (hT : ∀ i, T i = if i < m then (zY σ (2 + 2 * s + 1) i).toInt32 else nI 0) : zTx σ (2 + 2 * s) T := ⟨(hl.shelf hs).2, m, ha.2.2.1, ha.2.2.2.1, hT⟩

/-- the class's house read well -/
def hoS (τ : zSt) : zSt := zuX (zuR (zuX (zuX (zuX (zuX τ 0 (upd (zX τ 0) 8 (-1))) 21 (zX τ 36)) 22 (zX τ 37)) 23 (zX τ 38)) 24 (zR τ 39)) 20 (upd (upd (upd (upd (zX τ 20) 2 (zX τ 35 2)) 5 (zX τ 35 5)) 7 (zX τ 35 7)) 8 (zX τ 35 8))
section
variable {τ : zSt}
theorem hoS_l (h : Lay τ) : Lay (hoS τ) := by
  unfold hoS
  exact stLay (Lay.uR (stLay (stLay (stLay (stLay h)))) (fun _ => rfl))
theorem hoS_c (h : zCl τ) : zCl (hoS τ) := by
  unfold hoS
  exact zCl.uX (zCl.uR (zCl.uX (zCl.uX (zCl.uX (zCl.uX h)))) (fun j q hq => h 39 j q hq))
theorem hoS_y : zY (hoS τ) = zY τ := by unfold hoS; rw [stXy, stRy, stXy, stXy, stXy, stXy]
theorem hoS_x {k : Nat} (h : ¬ (k = 0 ∨ (20 ≤ k ∧ k ≤ 23))) : zX (hoS τ) k = zX τ k := by unfold hoS; rw [zX_n (by omega), stRx, zX_n (by omega), zX_n (by omega), zX_n (by omega), zX_n (by omega)]
theorem hoS_r {k : Nat} (h : k ≠ 24) : zR (hoS τ) k = zR τ k := by unfold hoS; rw [stXr, stRo h, stXr, stXr, stXr, stXr]
theorem hoS_r24 : zR (hoS τ) 24 = zR τ 39 := by unfold hoS; rw [stXr, stRs]
theorem hoS_21 : zX (hoS τ) 21 = zX τ 36 := by unfold hoS; rw [zX_n (by decide), stRx, zX_n (by decide), zX_n (by decide), zX_self]
theorem hoS_22 : zX (hoS τ) 22 = zX τ 37 := by unfold hoS; rw [zX_n (by decide), stRx, zX_n (by decide), zX_self]
theorem hoS_23 : zX (hoS τ) 23 = zX τ 38 := by unfold hoS; rw [zX_n (by decide), stRx, zX_self]
theorem hoS_20 : zX (hoS τ) 20 = upd (upd (upd (upd (zX τ 20) 2 (zX τ 35 2)) 5 (zX τ 35 5)) 7 (zX τ 35 7)) 8 (zX τ 35 8) := by unfold hoS; rw [zX_self]
theorem hoS_0 : zX (hoS τ) 0 = upd (zX τ 0) 8 (-1) := by unfold hoS; rw [zX_n (by decide), stRx, zX_n (by decide), zX_n (by decide), zX_n (by decide), zX_self]
theorem hoS_g : gF τ (hoS τ) := by
  unfold hoS
  exact ((((gF.u0.tr (gF.u rfl (by decide) (by decide))).tr (gF.u rfl (by decide) (by decide))).tr (gF.u rfl (by decide) (by decide))).tr (gF.r (Or.inl rfl))).tr (gF.u rfl (by decide) (by decide))
def hbS (τ : zSt) (x : Nat) : zSt := zuX (zuX τ 0 (upd (zX τ 0) 8 (nI x))) 43 (upd (zX τ 43) 6 (zX τ 43 6 + nI 1))
variable {x : Nat}
theorem hbS_l (h : Lay τ) : Lay (hbS τ x) := by unfold hbS; exact stLay (stLay h)
theorem hbS_c (h : zCl τ) : zCl (hbS τ x) := by unfold hbS; exact zCl.uX (zCl.uX h)
theorem hbS_y : zY (hbS τ x) = zY τ := by unfold hbS; rw [stXy, stXy]
theorem hbS_x {k : Nat} (h : ¬ (k = 0 ∨ k = 43)) : zX (hbS τ x) k = zX τ k := by unfold hbS; rw [zX_n (by omega), zX_n (by omega)]
theorem hbS_r {k : Nat} : zR (hbS τ x) k = zR τ k := by unfold hbS; rw [stXr, stXr]
theorem hbS_0 : zX (hbS τ x) 0 = upd (zX τ 0) 8 (nI x) := by unfold hbS; rw [zX_n (by decide), zX_self]
theorem hbS_43 : zX (hbS τ x) 43 = upd (zX τ 43) 6 (zX τ 43 6 + nI 1) := by unfold hbS; rw [zX_self]
theorem hbS_g : gF τ (hbS τ x) := by unfold hbS; exact gF.u0.tr (gF.u rfl (by decide) (by decide))
end

theorem pr_house_ok {σ : zSt} {d e : HD} {b s o m : Nat} (h : RelD σ d e b) (hs : s < 8) (ha : zRw σ (2 + 2 * s) o m) (hb : zMr σ s o m) (hY : ∀ i, i < 160 → zY σ (2 + 2 * s + 1) i = zY σ 58 (s * 160 + i)) (hF : (pr (fun i => if i < m then (zY σ (2 + 2 * s + 1) i).toInt32 else nI 0) m (m + 1) 0 d).1 = none) : Pair mX11_house mX12_house [.int (nI s)] σ := by
  obtain ⟨hW, hK, hM, hl, hc, hs8, h08, h43, hTr, hg, hz, hwd, hIm⟩ := id h
  have hm160 := ha.2.2.2.1
  have h66 := hl.1
  have hKd := HW.all (T := (fun i => if i < m then (zY σ (2 + 2 * s + 1) i).toInt32 else nI 0)) (m := m) (m + 1) 0 d hW
  have hyy := pr_y (T := (fun i => if i < m then (zY σ (2 + 2 * s + 1) i).toInt32 else nI 0)) (m := m) (m + 1) 0 d
  refine ⟨.int (nI (pr (fun i => if i < m then (zY σ (2 + 2 * s + 1) i).toInt32 else nI 0) m (m + 1) 0 d).2.1), rfl, Ct.mono (t_K_house_ok hl hK hW hc hs ha (ht_of hl hs ha (fun _ => rfl)) hz hF) ?_⟩
  rintro r1 τ1 ⟨rfl, τ, hFr, hc2, hK2, hτ1⟩
  have hτ2 : τ1 = (hoS τ) := hτ1
  clear hτ1
  subst hτ2
  have X : ∀ k, k < 66 → (k < 34 ∨ 42 < k) → zX τ k = zX σ k := fun k hk hk2 => ((hFr.2 k (by omega)).2.2.1 hk2).1
  have Y58 : zY τ 58 = zY σ 58 := ((hFr.2 58 (by omega)).2.2.1 (by omega)).2
  have hlt : Lay τ := hl.fr hFr L39
  have hl1 : Lay (hoS τ) := hoS_l hlt
  have hc1 : zCl (hoS τ) := hoS_c hc2
  have g1 : gF τ (hoS τ) := hoS_g
  have hK1 : KH (hoS τ) 20 (pr (fun i => if i < m then (zY σ (2 + 2 * s + 1) i).toInt32 else nI 0) m (m + 1) 0 d).2.2 := hK2.over (by rw [hoS_20]; exact ⟨rfl, rfl, rfl, rfl⟩) hoS_21 hoS_22 hoS_23 hoS_r24 (fun _ _ _ _ hq => hq.g g1)
  have hz1 : DZ (hoS τ) 35 := (hK2.dz hKd).e (hoS_x (by decide)) (hoS_x (by decide)) (hoS_x (by decide)) (hoS_r (by decide))
  have x1 : ∀ k, 44 ≤ k → k < 66 → zX (hoS τ) k = zX σ k := fun k h1 h2 => (hoS_x (by omega)).trans (X k h2 (by omega))
  have hM1 : MH (hoS τ) d := by
    unfold MH
    rw [x1 45 (by decide) (by decide), x1 47 (by decide) (by decide), x1 48 (by decide) (by decide), x1 49 (by decide) (by decide), x1 50 (by decide) (by decide), x1 51 (by decide) (by decide), x1 52 (by decide) (by decide), x1 53 (by decide) (by decide)]
    exact hM
  have hb1 : zMr (hoS τ) s o m := by
    unfold zMr at hb ⊢
    rw [x1 54 (by decide) (by decide), x1 55 (by decide) (by decide), x1 56 (by decide) (by decide)]
    exact hb
  have hT1 : ∀ i, (fun i => if i < m then (zY σ (2 + 2 * s + 1) i).toInt32 else nI 0) i = if i < m then (zY (hoS τ) 58 (s * 160 + i)).toInt32 else nI 0 := fun i => by
    rw [hoS_y, Y58]
    show (if i < m then (zY σ (2 + 2 * s + 1) i).toInt32 else nI 0) = if i < m then (zY σ 58 (s * 160 + i)).toInt32 else nI 0
    by_cases hi : i < m
    · rw [if_pos hi, if_pos hi, hY i (by omega)]
    · rw [if_neg hi, if_neg hi]
  have hwd1 : ∀ j, j < 26 → zX (hoS τ) 60 j = nI (wds j) := fun j hj => by
    rw [x1 60 (by decide) (by decide)]; exact hwd j hj
  refine ⟨rfl, L45 hl1, Ct.mono (t_M_house_ok hl1 hM1 hW hs hb1 hT1 hwd1 hF) ?_⟩
  rintro r2 τ2 ⟨rfl, hM2, hf2, hFr2, h46⟩
  refine ⟨rfl, ?_⟩
  have hl2 : Lay τ2 := by
    obtain ⟨f1, f2, f3, f4, f5⟩ := hFr2.1
    unfold Lay at hl1 ⊢
    rw [f1, f2, f3, f4]; exact hl1
  have hc3 : zCl τ2 := by
    obtain ⟨f1, f2, f3, f4, f5⟩ := hFr2.1
    unfold zCl at hc1 ⊢
    rw [f1, f4]; exact hc1
  have Z := fun k hk => hFr2.2.1 k hk
  have gA : gF σ τ2 := ((gF.fr hFr h66).tr g1).tr (gF.h hFr2)
  have R2 : ∀ k, zR τ2 k = zR (hoS τ) k := fun k => by rw [hFr2.1.2.2.2.1]
  have hK3 := hK1.g (gF.h hFr2) (Z 20 (by decide)) (Z 21 (by decide)) (Z 22 (by decide)) (Z 23 (by decide)) (R2 24)
  refine RelD.h (d' := (pr (fun i => if i < m then (zY σ (2 + 2 * s + 1) i).toInt32 else nI 0) m (m + 1) 0 d).2.2) h hyy gA hl2 hc3 hKd hK3 hM2 ?_ ?_ (hz1.e (Z 36 (by decide)) (Z 37 (by decide)) (Z 38 (by decide)) (R2 39))
  · rw [Z 0 (by decide), hf2, hoS_0]; exact pk_us
  · rw [Z 43 (by decide), h46, hoS_x (by decide), hoS_x (by decide), X 43 (by decide) (by decide), X 46 (by decide) (by decide)]; exact h43

theorem pr_house_bad {σ : zSt} {d e : HD} {b s o m x : Nat} (h : RelD σ d e b) (hs : s < 8) (ha : zRw σ (2 + 2 * s) o m) (hb : zMr σ s o m) (hY : ∀ i, i < 160 → zY σ (2 + 2 * s + 1) i = zY σ 58 (s * 160 + i)) (hF : (pr (fun i => if i < m then (zY σ (2 + 2 * s + 1) i).toInt32 else nI 0) m (m + 1) 0 d).1 = some x) : Pair mX11_house mX12_house [.int (nI s)] σ := by
  obtain ⟨hW, hK, hM, hl, hc, hs8, h08, h43, hTr, hg, hz, hwd, hIm⟩ := id h
  have hm160 := ha.2.2.2.1
  have h66 := hl.1
  have hKd := HW.all (T := (fun i => if i < m then (zY σ (2 + 2 * s + 1) i).toInt32 else nI 0)) (m := m) (m + 1) 0 d hW
  have hyy := pr_y (T := (fun i => if i < m then (zY σ (2 + 2 * s + 1) i).toInt32 else nI 0)) (m := m) (m + 1) 0 d
  have hx3 : x < 2 ^ 31 := by have := pr_le (m + 1) 0 d (Nat.zero_le _) hF; omega
  refine ⟨.int (-nI 6), rfl, Ct.mono (t_K_house_bad hl hK hW hc hs ha (ht_of hl hs ha (fun _ => rfl)) hz hF hx3) ?_⟩
  rintro r1 τ1 ⟨rfl, τ, hFr, hc2, hK2, hτ1⟩
  have hτ2 : τ1 = (hbS τ x) := hτ1
  clear hτ1
  subst hτ2
  have X : ∀ k, k < 66 → (k < 34 ∨ 42 < k) → zX τ k = zX σ k := fun k hk hk2 => ((hFr.2 k (by omega)).2.2.1 hk2).1
  have Y58 : zY τ 58 = zY σ 58 := ((hFr.2 58 (by omega)).2.2.1 (by omega)).2
  have hlt : Lay τ := hl.fr hFr L39
  have hl1 : Lay (hbS τ x) := hbS_l hlt
  have hc1 : zCl (hbS τ x) := hbS_c hc2
  have g1 : gF τ (hbS τ x) := hbS_g
  have gt : gF σ τ := gF.fr hFr h66
  have R24 : zR τ 24 = zR σ 24 := (hFr.2 24 (by omega)).2.2.2 (by decide)
  have hKt : KH τ 20 d := hK.g gt (X 20 (by decide) (by decide)) (X 21 (by decide) (by decide)) (X 22 (by decide) (by decide)) (X 23 (by decide) (by decide)) R24
  have hK1 : KH (hbS τ x) 20 d := hKt.g g1 (hbS_x (by decide)) (hbS_x (by decide)) (hbS_x (by decide)) (hbS_x (by decide)) hbS_r
  have hz1 : DZ (hbS τ x) 35 := (hK2.dz hKd).e (hbS_x (by decide)) (hbS_x (by decide)) (hbS_x (by decide)) hbS_r
  have x1 : ∀ k, 44 ≤ k → k < 66 → zX (hbS τ x) k = zX σ k := fun k h1 h2 => (hbS_x (by omega)).trans (X k h2 (by omega))
  have hM1 : MH (hbS τ x) d := by
    unfold MH
    rw [x1 45 (by decide) (by decide), x1 47 (by decide) (by decide), x1 48 (by decide) (by decide), x1 49 (by decide) (by decide), x1 50 (by decide) (by decide), x1 51 (by decide) (by decide), x1 52 (by decide) (by decide), x1 53 (by decide) (by decide)]
    exact hM
  have hb1 : zMr (hbS τ x) s o m := by
    unfold zMr at hb ⊢
    rw [x1 54 (by decide) (by decide), x1 55 (by decide) (by decide), x1 56 (by decide) (by decide)]
    exact hb
  have hT1 : ∀ i, (fun i => if i < m then (zY σ (2 + 2 * s + 1) i).toInt32 else nI 0) i = if i < m then (zY (hbS τ x) 58 (s * 160 + i)).toInt32 else nI 0 := fun i => by
    rw [hbS_y, Y58]
    show (if i < m then (zY σ (2 + 2 * s + 1) i).toInt32 else nI 0) = if i < m then (zY σ 58 (s * 160 + i)).toInt32 else nI 0
    by_cases hi : i < m
    · rw [if_pos hi, if_pos hi, hY i (by omega)]
    · rw [if_neg hi, if_neg hi]
  have hwd1 : ∀ j, j < 26 → zX (hbS τ x) 60 j = nI (wds j) := fun j hj => by
    rw [x1 60 (by decide) (by decide)]; exact hwd j hj
  refine ⟨rfl, L45 hl1, Ct.mono (t_M_house_bad hl1 hM1 hW hs hb1 hT1 hwd1 hF) ?_⟩
  rintro r2 τ2 ⟨rfl, hM2, hf2, hFr2, h46⟩
  refine ⟨rfl, ?_⟩
  have hl2 : Lay τ2 := by
    obtain ⟨f1, f2, f3, f4, f5⟩ := hFr2.1
    unfold Lay at hl1 ⊢
    rw [f1, f2, f3, f4]; exact hl1
  have hc3 : zCl τ2 := by
    obtain ⟨f1, f2, f3, f4, f5⟩ := hFr2.1
    unfold zCl at hc1 ⊢
    rw [f1, f4]; exact hc1
  have Z := fun k hk => hFr2.2.1 k hk
  have gA : gF σ τ2 := ((gF.fr hFr h66).tr g1).tr (gF.h hFr2)
  have R2 : ∀ k, zR τ2 k = zR (hbS τ x) k := fun k => by rw [hFr2.1.2.2.2.1]
  have hK3 := hK1.g (gF.h hFr2) (Z 20 (by decide)) (Z 21 (by decide)) (Z 22 (by decide)) (Z 23 (by decide)) (R2 24)
  refine RelD.h (d' := d) h (Nat.le_refl _) gA hl2 hc3 hW hK3 hM2 ?_ ?_ (hz1.e (Z 36 (by decide)) (Z 37 (by decide)) (Z 38 (by decide)) (R2 39))
  · rw [Z 0 (by decide), hf2, hbS_0]; exact pk_us
  · rw [Z 43 (by decide), h46, hbS_43, hbS_x (by decide), X 43 (by decide) (by decide), X 46 (by decide) (by decide), h43]

theorem pr_house {σ : zSt} (hR : Rel σ) {s : Int32} : Pair mX11_house mX12_house [.int s] σ := by
  obtain ⟨d, e, b0, h⟩ := id hR
  obtain ⟨hW, hK, hM, hl, hc, hs8, h08, h43, hTr, hg, hz, hwd, hIm⟩ := id h
  have H := h.hd
  have M := h.md
  have hn8 := hW.1.1
  have ha4 := hW.1.2.1
  have hy8 := hW.1.2.2
  obtain ⟨od, pos, ho, hm, hp, hod, hinj⟩ := h.od
  obtain ⟨E7, E8, E9, E50, E51⟩ := h.eqs
  rcases znt s 8 (by decide) with hs | ⟨s, hs, rfl⟩
  · exact Pair.of (t_K_house_1 hl hs) (t_M_house_1 (σ := zuX σ 43 _) hl hs) rfl hR.r
  · obtain ⟨hst, hY⟩ := hs8 s hs
    rcases hst with ⟨o, m, ha, hb⟩ | ⟨i8, hi8, ha, hb⟩ | ⟨ha, hb⟩
    · cases hF : (pr (fun i => if i < m then (zY σ (2 + 2 * s + 1) i).toInt32 else nI 0) m (m + 1) 0 d).1 with
      | none => exact pr_house_ok h hs ha hb hY hF
      | some x => exact pr_house_bad h hs ha hb hY hF
    · exact Pair.of (t_K_house_2 hl hs ha) (t_M_house_2 (σ := zuX σ 43 _) hl hs hb) rfl hR.r
    · exact Pair.of (t_K_house_3 hl hs ha) (t_M_house_3 (σ := zuX σ 43 _) hl hs hb) rfl hR.r
