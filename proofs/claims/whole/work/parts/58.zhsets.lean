/-! houses told anew -/
theorem HW.v {d : HD} {c w v : Nat} (h : HW d) (hc : c < Hn d) (hw : w < 6) (hv : v ≤ mo w) : HW ((Hn d, Ha d, Hy d, Hz d), (upd (HF d) (c * 6 + w) (nI v), HA d, HO d), Hk d, Hp d) := by
  obtain ⟨h0, h1, h2, h3⟩ := h
  refine ⟨h0, fun c' w' hc' hw' => ?_, fun j hj => ?_, h3⟩
  · show ∃ x, x ≤ mo w' ∧ upd (HF d) (c * 6 + w) (nI v) (c' * 6 + w') = nI x
    by_cases e : c' * 6 + w' = c * 6 + w
    · have e2 : w' = w := by omega
      rw [e, upd_self, e2]; exact ⟨v, hv, rfl⟩
    · rw [upd_ne e]; exact h1 c' w' hc' hw'
  · show upd (HF d) (c * 6 + w) (nI v) j = 0
    rw [upd_ne (by omega)]; exact h2 j hj
theorem HW.r {d : HD} {b v : Nat} (h : HW d) (hb : b < Ha d) (hv : v ≤ 10) : HW ((Hn d, Ha d, Hy d, Hz d), (HF d, upd (HA d) (b * 3 + 2) (nI v), HO d), Hk d, Hp d) := by
  obtain ⟨h0, h1, h2, h3, h4, h5⟩ := h
  refine ⟨h0, h1, h2, fun c hc => ?_, fun j hj => ?_, h5⟩
  · obtain ⟨s, l, r, g1, g2, g3, g4, g5, g6⟩ := h3 c hc
    show ∃ s l r, s ≤ 3 ∧ l ≤ 9 ∧ r ≤ 10 ∧ upd (HA d) (b * 3 + 2) (nI v) (c * 3) = nI s ∧ upd (HA d) (b * 3 + 2) (nI v) (c * 3 + 1) = nI l ∧ upd (HA d) (b * 3 + 2) (nI v) (c * 3 + 2) = nI r
    rw [upd_ne (show c * 3 ≠ b * 3 + 2 by omega), upd_ne (show c * 3 + 1 ≠ b * 3 + 2 by omega)]
    by_cases e : c = b
    · subst e; rw [upd_self]; exact ⟨s, l, v, g1, g2, hv, g4, g5, rfl⟩
    · rw [upd_ne (by omega)]; exact ⟨s, l, r, g1, g2, g3, g4, g5, g6⟩
  · show upd (HA d) (b * 3 + 2) (nI v) j = 0
    rw [upd_ne (by have := h0.2.1; omega)]; exact h4 j hj
theorem HW.z {d : HD} (h : HW d) (t : Int32) : HW ((Hn d, Ha d, Hy d, t), (HF d, HA d, HO d), Hk d, Hp d) := h
theorem HW.n0 {d : HD} (h : HW d) : HW ((0, Ha d, Hy d, Hz d), (HF d, HA d, HO d), Hk d, Hp d) := by
  obtain ⟨⟨h0, h1⟩, h2, h3⟩ := h
  exact ⟨⟨Nat.zero_le _, h1⟩, fun c w hc _ => absurd hc (Nat.not_lt_zero c), h3⟩
section
variable {σ : zSt} {d e : HD} {b : Nat}
theorem RelD.eF (h : RelD σ d e b) : zX σ 21 = HF d := h.2.1.2.1.1
theorem RelD.eA (h : RelD σ d e b) : zX σ 22 = HA d := h.2.1.2.1.2.1
theorem RelD.eO (h : RelD σ d e b) : zX σ 23 = HO d := h.2.1.2.1.2.2
theorem RelD.change (h : RelD σ d e b) {c w v : Nat} (hc : c < Hn d) (hw : w < 6) (hv : v ≤ mo w) : Rel (zuX (zuX σ 21 (upd (zX σ 21) (c * 6 + w) (nI v))) 47 (upd (zX σ 47) (c * 6 + w) (nI v))) := by
  obtain ⟨hW, hK, hM, hR⟩ := id h
  obtain ⟨l0, c0, s0, f0, r0, t0, g0, z0, w0, i0⟩ := id hR
  have hg : gF σ (zuX (zuX σ 21 (upd (zX σ 21) (c * 6 + w) (nI v))) 47 (upd (zX σ 47) (c * 6 + w) (nI v))) := (gF.u rfl (by decide) (by decide)).tr (gF.u rfl (by decide) (by decide))
  refine h.h (d' := ((Hn d, Ha d, Hy d, Hz d), (upd (HF d) (c * 6 + w) (nI v), HA d, HO d), Hk d, Hp d)) (Nat.le_refl _) hg l0 c0 (hW.v hc hw hv) (hK.set hg hK.1.1 hK.1.2.1 rfl hK.1.2.2.2 ?_ hK.2.1.2.1 hK.2.1.2.2 rfl) (hM.set hM.1.1 hM.1.2.1 rfl hM.1.2.2.2 ?_ hM.2.1.2.1 hM.2.1.2.2.1 hM.2.1.2.2.2.1 hM.2.1.2.2.2.2 rfl rfl) f0 r0 z0
  · show upd (zX σ 21) (c * 6 + w) (nI v) = _
    rw [h.eF]
  · show upd (zX σ 47) (c * 6 + w) (nI v) = _
    rw [hM.2.1.1]
theorem RelD.drawn (h : RelD σ d e b) {a v : Nat} (ha : a < Ha d) (hv : v ≤ 10) : Rel (zuX (zuX σ 22 (upd (zX σ 22) (a * 3 + 2) (nI v))) 50 (upd (zX σ 50) a (nI v))) := by
  obtain ⟨hW, hK, hM, hR⟩ := id h
  obtain ⟨l0, c0, s0, f0, r0, t0, g0, z0, w0, i0⟩ := id hR
  have hg : gF σ (zuX (zuX σ 22 (upd (zX σ 22) (a * 3 + 2) (nI v))) 50 (upd (zX σ 50) a (nI v))) := (gF.u rfl (by decide) (by decide)).tr (gF.u rfl (by decide) (by decide))
  refine h.h (d' := ((Hn d, Ha d, Hy d, Hz d), (HF d, upd (HA d) (a * 3 + 2) (nI v), HO d), Hk d, Hp d)) (Nat.le_refl _) hg l0 c0 (hW.r ha hv) (hK.set hg hK.1.1 hK.1.2.1 rfl hK.1.2.2.2 hK.2.1.1 ?_ hK.2.1.2.2 rfl) (hM.set hM.1.1 hM.1.2.1 rfl hM.1.2.2.2 hM.2.1.1 ?_ ?_ ?_ hM.2.1.2.2.2.2 rfl rfl) f0 r0 z0
  · show upd (zX σ 22) (a * 3 + 2) (nI v) = _
    rw [h.eA]
  · show zX σ 48 = _
    rw [hM.2.1.2.1]; funext x; rw [upd_ne (by omega)]
  · show zX σ 49 = _
    rw [hM.2.1.2.2.1]; funext x; rw [upd_ne (by omega)]
  · show upd (zX σ 50) a (nI v) = _
    rw [hM.2.1.2.2.2.1]; funext x
    by_cases ex : x = a
    · subst ex; rw [upd_self, upd_self]
    · rw [upd_ne ex, upd_ne (by omega)]
theorem RelD.chief (h : RelD σ d e b) {od pos : Nat → Nat} (ho : HOk (Ha d) (HO d) od pos) {p a : Nat} (hp : p < Ha d) (ha : od p = a) : Rel (zuX (zuX σ 23 (pf p a (zX σ 23))) 51 (pf p a (zX σ 51))) := by
  obtain ⟨hW, hK, hM, hR⟩ := id h
  obtain ⟨l0, c0, s0, f0, r0, t0, g0, z0, w0, i0⟩ := id hR
  have hg : gF σ (zuX (zuX σ 23 (pf p a (zX σ 23))) 51 (pf p a (zX σ 51))) := (gF.u rfl (by decide) (by decide)).tr (gF.u rfl (by decide) (by decide))
  refine h.h (d' := hP d p a) (Nat.le_refl _) hg l0 c0 (hW.P ho hp ha) (hK.set hg hK.1.1 hK.1.2.1 rfl hK.1.2.2.2 hK.2.1.1 hK.2.1.2.1 ?_ rfl) (hM.set hM.1.1 hM.1.2.1 rfl hM.1.2.2.2 hM.2.1.1 hM.2.1.2.1 hM.2.1.2.2.1 hM.2.1.2.2.2.1 ?_ rfl rfl) f0 r0 z0
  · show pf p a (zX σ 23) = _
    rw [h.eO]
  · show pf p a (zX σ 51) = _
    rw [hM.2.1.2.2.2.2]
theorem RelD.seed (h : RelD σ d e b) {v : Int32} : Rel (zuX (zuX σ 20 (upd (zX σ 20) 8 v)) 45 (upd (zX σ 45) 3 v)) := by
  obtain ⟨hW, hK, hM, hR⟩ := id h
  obtain ⟨l0, c0, s0, f0, r0, t0, g0, z0, w0, i0⟩ := id hR
  have hg : gF σ (zuX (zuX σ 20 (upd (zX σ 20) 8 v)) 45 (upd (zX σ 45) 3 v)) := (gF.u rfl (by decide) (by decide)).tr (gF.c1 (σ := zuX σ 20 (upd (zX σ 20) 8 v)) (by decide))
  exact h.h (d' := ((Hn d, Ha d, Hy d, v), (HF d, HA d, HO d), Hk d, Hp d)) (Nat.le_refl _) hg l0 c0 (hW.z v) (hK.set hg hK.1.1 hK.1.2.1 rfl rfl hK.2.1.1 hK.2.1.2.1 hK.2.1.2.2 rfl) (hM.set hM.1.1 hM.1.2.1 rfl rfl hM.2.1.1 hM.2.1.2.1 hM.2.1.2.2.1 hM.2.1.2.2.2.1 hM.2.1.2.2.2.2 rfl rfl) f0 r0 z0
theorem RelD.clear (h : RelD σ d e b) : Rel (zuX (zuX σ 20 (upd (zX σ 20) 2 (nI 0))) 45 (upd (zX σ 45) 0 (nI 0))) := by
  obtain ⟨hW, hK, hM, hR⟩ := id h
  obtain ⟨l0, c0, s0, f0, r0, t0, g0, z0, w0, i0⟩ := id hR
  have hg : gF σ (zuX (zuX σ 20 (upd (zX σ 20) 2 (nI 0))) 45 (upd (zX σ 45) 0 (nI 0))) := (gF.u rfl (by decide) (by decide)).tr (gF.c1 (σ := zuX σ 20 (upd (zX σ 20) 2 (nI 0))) (by decide))
  exact h.h (d' := ((0, Ha d, Hy d, Hz d), (HF d, HA d, HO d), Hk d, Hp d)) (Nat.le_refl _) hg l0 c0 hW.n0 (hK.set hg rfl hK.1.2.1 rfl hK.1.2.2.2 hK.2.1.1 hK.2.1.2.1 hK.2.1.2.2 rfl) (hM.set rfl hM.1.2.1 rfl hM.1.2.2.2 hM.2.1.1 hM.2.1.2.1 hM.2.1.2.2.1 hM.2.1.2.2.2.1 hM.2.1.2.2.2.2 rfl rfl) f0 r0 z0
theorem RelD.come (h : RelD σ d e b) {k : Nat} (hk : Hn d + k ≤ 8) : Rel (zuX (zuX (zuX (zuX σ 20 (upd (upd (zX σ 20) 8 (dS (zX σ 20 8) k)) 2 (nI (Hn d + k)))) 21 (dX (zX σ 21) (Hn d) (zX σ 20 8) k)) 45 (upd (upd (zX σ 45) 3 (dS (zX σ 45 3) k)) 0 (nI (Hn d + k)))) 47 (dX (zX σ 47) (Hn d) (zX σ 45 3) k)) := by
  obtain ⟨hW, hK, hM, hR⟩ := id h
  obtain ⟨l0, c0, s0, f0, r0, t0, g0, z0, w0, i0⟩ := id hR
  have es : zX σ 20 8 = Hz d := hK.1.2.2.2
  have es2 : zX σ 45 3 = Hz d := hM.1.2.2.2
  have hg : gF σ (zuX (zuX (zuX (zuX σ 20 (upd (upd (zX σ 20) 8 (dS (zX σ 20 8) k)) 2 (nI (Hn d + k)))) 21 (dX (zX σ 21) (Hn d) (zX σ 20 8) k)) 45 (upd (upd (zX σ 45) 3 (dS (zX σ 45 3) k)) 0 (nI (Hn d + k)))) 47 (dX (zX σ 47) (Hn d) (zX σ 45 3) k)) :=
    (((gF.u rfl (by decide) (by decide)).tr (gF.u rfl (by decide) (by decide))).tr (gF.c (fun f h1 h2 => (upd_ne (by omega)).trans (upd_ne (by omega))))).tr (gF.u rfl (by decide) (by decide))
  refine h.h (d' := ((Hn d + k, Ha d, Hy d, dS (Hz d) k), (dX (HF d) (Hn d) (Hz d) k, HA d, HO d), Hk d, Hp d)) (Nat.le_refl _) hg l0 c0 (hW.D (s := Hz d) hk (dS (Hz d) k)) (hK.set hg rfl hK.1.2.1 rfl ?_ ?_ hK.2.1.2.1 hK.2.1.2.2 rfl) (hM.set rfl hM.1.2.1 rfl ?_ ?_ hM.2.1.2.1 hM.2.1.2.2.1 hM.2.1.2.2.2.1 hM.2.1.2.2.2.2 rfl rfl) f0 r0 z0
  · show dS (zX σ 20 8) k = _
    rw [es]
  · show dX (zX σ 21) (Hn d) (zX σ 20 8) k = _
    rw [es, h.eF]
  · show dS (zX σ 45 3) k = _
    rw [es2]
  · show dX (zX σ 47) (Hn d) (zX σ 45 3) k = _
    rw [es2, hM.2.1.1]
theorem RelD.asker (h : RelD σ d e b) {s l r : Nat} (h4 : Ha d < 4) (hs : s ≤ 3) (hl : l ≤ 9) (hr : r ≤ 10) : Rel (zuX (zuX (zuX (zuX (zuX (zuX (zuX (zuX σ 22 (upd (upd (upd (zX σ 22) (Ha d * 3) (nI s)) (Ha d * 3 + 1) (nI l)) (Ha d * 3 + 2) (nI r))) 23 (upd (zX σ 23) (Ha d) (nI (Ha d)))) 20 (upd (zX σ 20) 5 (nI (Ha d + 1)))) 48 (upd (zX σ 48) (Ha d) (nI s))) 49 (upd (zX σ 49) (Ha d) (nI l))) 50 (upd (zX σ 50) (Ha d) (nI r))) 51 (upd (zX σ 51) (Ha d) (nI (Ha d)))) 45 (upd (zX σ 45) 1 (nI (Ha d + 1)))) := by
  obtain ⟨hW, hK, hM, hR⟩ := id h
  obtain ⟨l0, c0, s0, f0, r0, t0, g0, z0, w0, i0⟩ := id hR
  have hg : gF σ (zuX (zuX (zuX (zuX (zuX (zuX (zuX (zuX σ 22 (upd (upd (upd (zX σ 22) (Ha d * 3) (nI s)) (Ha d * 3 + 1) (nI l)) (Ha d * 3 + 2) (nI r))) 23 (upd (zX σ 23) (Ha d) (nI (Ha d)))) 20 (upd (zX σ 20) 5 (nI (Ha d + 1)))) 48 (upd (zX σ 48) (Ha d) (nI s))) 49 (upd (zX σ 49) (Ha d) (nI l))) 50 (upd (zX σ 50) (Ha d) (nI r))) 51 (upd (zX σ 51) (Ha d) (nI (Ha d)))) 45 (upd (zX σ 45) 1 (nI (Ha d + 1)))) :=
    (((((((gF.u rfl (by decide) (by decide)).tr (gF.u rfl (by decide) (by decide))).tr (gF.u rfl (by decide) (by decide))).tr (gF.u rfl (by decide) (by decide))).tr (gF.u rfl (by decide) (by decide))).tr (gF.u rfl (by decide) (by decide))).tr (gF.u rfl (by decide) (by decide))).tr (gF.c (fun f h1 h2 => upd_ne (by omega)))
  refine h.h (d' := hA d (nI s) (nI l) (nI r)) (Nat.le_refl _) hg l0 c0 (hW.A h4 hs hl hr) (hK.set hg hK.1.1 rfl rfl hK.1.2.2.2 hK.2.1.1 ?_ ?_ rfl) (hM.set hM.1.1 rfl rfl hM.1.2.2.2 hM.2.1.1 ?_ ?_ ?_ ?_ rfl rfl) f0 r0 z0
  · show upd (upd (upd (zX σ 22) (Ha d * 3) (nI s)) (Ha d * 3 + 1) (nI l)) (Ha d * 3 + 2) (nI r) = _
    rw [h.eA]
  · show upd (zX σ 23) (Ha d) (nI (Ha d)) = _
    rw [h.eO]
  · show upd (zX σ 48) (Ha d) (nI s) = _
    rw [hM.2.1.2.1]; funext x
    by_cases ex : x = Ha d
    · subst ex; rw [upd_self, upd_ne (by omega), upd_ne (by omega), upd_self]
    · rw [upd_ne ex, upd_ne (by omega), upd_ne (by omega), upd_ne (by omega)]
  · show upd (zX σ 49) (Ha d) (nI l) = _
    rw [hM.2.1.2.2.1]; funext x
    by_cases ex : x = Ha d
    · subst ex; rw [upd_self, upd_ne (by omega), upd_self]
    · rw [upd_ne ex, upd_ne (by omega), upd_ne (by omega), upd_ne (by omega)]
  · show upd (zX σ 50) (Ha d) (nI r) = _
    rw [hM.2.1.2.2.2.1]; funext x
    by_cases ex : x = Ha d
    · subst ex; rw [upd_self, upd_self]
    · rw [upd_ne ex, upd_ne (by omega), upd_ne (by omega), upd_ne (by omega)]
  · show upd (zX σ 51) (Ha d) (nI (Ha d)) = _
    rw [hM.2.1.2.2.2.2]
theorem RelD.comer (h : RelD σ d e b) {v w : Nat → Int32} {f : Nat → Int32} (h8 : Hn d < 8) (hv : ∀ j, j < 6 → ∃ x, x ≤ mo j ∧ v j = nI x) (hvw : ∀ j, j < 6 → w j = v j) : Rel (zuX (zuX (zuX (zuX (zuX σ 44 f) 21 (va_cpy (fi 6 v (zX σ 44)) (zX σ 21) 0 (Hn d * 6) 6)) 20 (upd (zX σ 20) 2 (nI (Hn d + 1)))) 47 (va_cpy w (zX σ 47) 0 (Hn d * 6) 6)) 45 (upd (zX σ 45) 0 (nI (Hn d + 1)))) := by
  obtain ⟨hW, hK, hM, hR⟩ := id h
  obtain ⟨l0, c0, s0, f0, r0, t0, g0, z0, w0, i0⟩ := id hR
  have hg : gF σ (zuX (zuX (zuX (zuX (zuX σ 44 f) 21 (va_cpy (fi 6 v (zX σ 44)) (zX σ 21) 0 (Hn d * 6) 6)) 20 (upd (zX σ 20) 2 (nI (Hn d + 1)))) 47 (va_cpy w (zX σ 47) 0 (Hn d * 6) 6)) 45 (upd (zX σ 45) 0 (nI (Hn d + 1)))) :=
    ((((gF.u rfl (by decide) (by decide)).tr (gF.u rfl (by decide) (by decide))).tr (gF.u rfl (by decide) (by decide))).tr (gF.u rfl (by decide) (by decide))).tr (gF.c (fun f h1 h2 => upd_ne (by omega)))
  refine h.h (d' := hC d v) (Nat.le_refl _) hg l0 c0 (hW.C h8 hv) (hK.set hg rfl hK.1.2.1 rfl hK.1.2.2.2 ?_ hK.2.1.2.1 hK.2.1.2.2 rfl) (hM.set rfl hM.1.2.1 rfl hM.1.2.2.2 ?_ hM.2.1.2.1 hM.2.1.2.2.1 hM.2.1.2.2.2.1 hM.2.1.2.2.2.2 rfl rfl) f0 r0 z0
  · show va_cpy (fi 6 v (zX σ 44)) (zX σ 21) 0 (Hn d * 6) 6 = va_cpy v (HF d) 0 (Hn d * 6) 6
    rw [h.eF]; exact cpy_cg fun j hj => fi_at hj
  · show va_cpy w (zX σ 47) 0 (Hn d * 6) 6 = va_cpy v (HF d) 0 (Hn d * 6) 6
    rw [hM.2.1.1]; exact cpy_cg hvw
theorem aW_X {k kd v y : Nat} (hl : Lay σ) (hk : k < 66) (h20 : k ≠ 20) : zX (aW σ 20 kd v y) k = zX σ k := by
  have h66 := hl.1
  unfold aW
  rw [zX_n h20]
  exact (wS_o (by omega)).2.2.1
theorem aW_R {k kd v y : Nat} (hl : Lay σ) (hk : k < 66) (h24 : k ≠ 24) : zR (aW σ 20 kd v y) k = zR σ k := by
  have h66 := hl.1
  have e1 : zR (aW σ 20 kd v y) k = zR (wS σ (zWk kd) kd y v) k := zfu_ne h24
  rw [e1]
  exact (wS_o (by omega)).2.2.2.2
theorem RelD.way (h : RelD σ d e b) {kd v : Nat} (h8 : Hy d < 8) (hk : kd ≤ 6) (hv : v ≤ 99) : Rel (zuX (zuX (zuX (aW σ 20 kd v (Hy d)) 52 (upd (zX σ 52) (Hy d) (nI kd))) 53 (upd (zX σ 53) (Hy d) (nI v))) 45 (upd (zX σ 45) 2 (nI (Hy d + 1)))) := by
  obtain ⟨hW, hK, hM, hR⟩ := id h
  obtain ⟨l0, c0, s0, f0, r0, t0, g0, z0, w0, i0⟩ := id hR
  have h66 := l0.1
  have X := fun k (hk : k < 66) (h20 : k ≠ 20) => aW_X (σ := σ) (kd := kd) (v := v) (y := Hy d) l0 hk h20
  have la : Lay (aW σ 20 kd v (Hy d)) := l0.fr (zFr.aW (lo := 20) (hi := 24) (Nat.le_refl _) (by decide)) (fun _ => rfl)
  have ca : zCl (aW σ 20 kd v (Hy d)) := c0.adW (by omega) (by omega)
  have Ka : KH (aW σ 20 kd v (Hy d)) 20 (hY d kd v) := hK.adW l0 (by decide) hk hv h8
  have ga : gF σ (aW σ 20 kd v (Hy d)) := ((gF.n h66).tr (gF.r (Or.inl rfl))).tr (gF.u rfl (by decide) (by decide))
  have e45 := X 45 (by decide) (by decide)
  have hg : gF σ (zuX (zuX (zuX (aW σ 20 kd v (Hy d)) 52 (upd (zX σ 52) (Hy d) (nI kd))) 53 (upd (zX σ 53) (Hy d) (nI v))) 45 (upd (zX σ 45) 2 (nI (Hy d + 1)))) := by
    refine ga.tr (((gF.u rfl (by decide) (by decide)).tr (gF.u rfl (by decide) (by decide))).tr (gF.c (fun f h1 h2 => ?_)))
    show upd (zX σ 45) 2 (nI (Hy d + 1)) f = zX (aW σ 20 kd v (Hy d)) 45 f
    rw [e45, upd_ne (by omega)]
  have R39 : zR (aW σ 20 kd v (Hy d)) 39 = zR σ 39 := aW_R l0 (by decide) (by decide)
  refine h.h (d' := hY d kd v) (Nat.le_succ _) hg la ca (hW.Y h8 hk hv) (Ka.of rfl rfl rfl rfl rfl (fun _ _ _ _ hq => ((hq.uX' (by decide)).uX' (by decide)).uX' (by decide))) ?_ ?_ ?_ ?_
  · obtain ⟨⟨a1, a2, a3, a4⟩, ⟨b1, b2, b3, b4, b5⟩, c⟩ := hM
    refine ⟨⟨a1, a2, rfl, a4⟩, ⟨(X 47 (by decide) (by decide)).trans b1, (X 48 (by decide) (by decide)).trans b2, (X 49 (by decide) (by decide)).trans b3, (X 50 (by decide) (by decide)).trans b4, (X 51 (by decide) (by decide)).trans b5⟩, fun k hk => ?_⟩
    show upd (zX σ 52) (Hy d) (nI kd) k = nI (if k = Hy d then kd else Hk d k) ∧ upd (zX σ 53) (Hy d) (nI v) k = nI (if k = Hy d then v else Hp d k)
    have hk : k < Hy d + 1 := hk
    by_cases ex : k = Hy d
    · subst ex; rw [upd_self, upd_self, if_pos rfl, if_pos rfl]; exact ⟨rfl, rfl⟩
    · rw [upd_ne ex, upd_ne ex, if_neg ex, if_neg ex]; exact c k (by omega)
  · show zX (aW σ 20 kd v (Hy d)) 0 8 = zX σ 45 4
    rw [X 0 (by decide) (by decide)]; exact f0
  · show zX (aW σ 20 kd v (Hy d)) 43 = zX (aW σ 20 kd v (Hy d)) 46
    rw [X 43 (by decide) (by decide), X 46 (by decide) (by decide)]; exact r0
  · exact z0.e (X 36 (by decide) (by decide)) (X 37 (by decide) (by decide)) (X 38 (by decide) (by decide)) R39
end
/-- the first number of six that won't do -/
theorem sixN (f : Nat → Int32) : (∃ (k0 : Nat) (d : Nat → Nat), k0 < 6 ∧ (∀ z, z < k0 → f z = nI (d z) ∧ d z ≤ mo z) ∧ zOut (f k0) (mo k0 + 1)) ∨ ∃ d : Nat → Nat, ∀ z, z < 6 → f z = nI (d z) ∧ d z ≤ mo z := by
  have key : ∀ t, t ≤ 6 → (∃ k0, k0 < t ∧ (∀ z, z < k0 → f z = nI (f z).toInt.toNat ∧ (f z).toInt.toNat ≤ mo z) ∧ zOut (f k0) (mo k0 + 1)) ∨ ∀ z, z < t → f z = nI (f z).toInt.toNat ∧ (f z).toInt.toNat ≤ mo z := by
    intro t
    induction t with
    | zero => intro _; exact Or.inr fun z hz => absurd hz (Nat.not_lt_zero z)
    | succ t ih =>
      intro ht
      rcases ih (by omega) with ⟨k0, h1, h2⟩ | h
      · exact Or.inl ⟨k0, by omega, h2⟩
      · have hmo : mo t ≤ 9 := mo_le
        rcases znt (f t) (mo t + 1) (by omega) with ho | ⟨c, hc, ec⟩
        · exact Or.inl ⟨t, by omega, h, ho⟩
        · refine Or.inr fun z hz => ?_
          rcases (by omega : z < t ∨ z = t) with h3 | rfl
          · exact h z h3
          · rw [ec, nI_toInt (by omega)]
            exact ⟨rfl, by show c ≤ mo z; omega⟩
  rcases key 6 (Nat.le_refl _) with ⟨k0, h1, h2, h3⟩ | h
  · exact Or.inl ⟨k0, fun z => (f z).toInt.toNat, h1, h2, h3⟩
  · exact Or.inr ⟨fun z => (f z).toInt.toNat, h⟩

theorem pr_change {σ : zSt} (hR : Rel σ) {c : Int32} {w : Int32} {v : Int32} : Pair mX11_change mX12_change [.int c, .int w, .int v] σ := by
  obtain ⟨d, e, b0, h⟩ := id hR
  obtain ⟨hW, hK, hM, hl, hc, hs8, h08, h43, hTr, hg, hz, hwd, hIm⟩ := id h
  have H := h.hd
  have M := h.md
  have hn8 := hW.1.1
  have ha4 := hW.1.2.1
  have hy8 := hW.1.2.2
  obtain ⟨od, pos, ho, hm, hp, hod, hinj⟩ := h.od
  obtain ⟨E7, E8, E9, E50, E51⟩ := h.eqs
  rcases znt c (Hn d) (by omega) with hcc | ⟨c, hcc, rfl⟩
  · exact Pair.of (t_K_change_1 hl H hcc) (t_M_change_1 (σ := zuX σ 43 _) hl M hcc) rfl hR.r
  · rcases znt w (6) (by decide) with hw | ⟨w, hw, rfl⟩
    · exact Pair.of (t_K_change_5 hl H hcc hw) (t_M_change_5 (σ := zuX σ 43 _) hl M hcc hw) rfl hR.r
    · have hmo : mo w ≤ 9 := mo_le
      rcases znt v (mo w + 1) (by omega) with hv | ⟨v, hv, rfl⟩
      · exact Pair.of (t_K_change_6 hl H hcc hw hv) (t_M_change_6 (σ := zuX σ 43 _) hl M hcc hw hv) rfl hR.r
      · exact Pair.of (t_K_change_0 hl H hcc hw (v := v) (by omega)) (t_M_change_0 (σ := zuX σ 21 _) hl M hcc hw (v := v) (by omega)) (by rw [show zX (zuX σ 21 (upd (zX σ 21) (c * 6 + w) (nI v))) 47 = zX σ 21 from E7]) (h.change hcc hw (by omega))

theorem pr_drawn {σ : zSt} (hR : Rel σ) {b : Int32} {v : Int32} : Pair mX11_drawn mX12_drawn [.int b, .int v] σ := by
  obtain ⟨d, e, b0, h⟩ := id hR
  obtain ⟨hW, hK, hM, hl, hc, hs8, h08, h43, hTr, hg, hz, hwd, hIm⟩ := id h
  have H := h.hd
  have M := h.md
  have hn8 := hW.1.1
  have ha4 := hW.1.2.1
  have hy8 := hW.1.2.2
  obtain ⟨od, pos, ho, hm, hp, hod, hinj⟩ := h.od
  obtain ⟨E7, E8, E9, E50, E51⟩ := h.eqs
  rcases znt b (Ha d) (by omega) with hb | ⟨b, hb, rfl⟩
  · exact Pair.of (t_K_drawn_1 hl H hb) (t_M_drawn_1 (σ := zuX σ 43 _) hl M hb) rfl hR.r
  · rcases znt v (11) (by decide) with hv | ⟨v, hv, rfl⟩
    · exact Pair.of (t_K_drawn_6 hl H hb hv) (t_M_drawn_6 (σ := zuX σ 43 _) hl M hb hv) rfl hR.r
    · exact Pair.of (t_K_drawn_0 hl H hb (v := v) (by omega)) (t_M_drawn_0 (σ := zuX σ 22 _) hl M hb (v := v) (by omega)) (by rw [show zX (zuX σ 22 (upd (zX σ 22) (b * 3 + 2) (nI v))) 50 = zDr σ from E50]; rfl) (h.drawn hb (by omega))

theorem pr_chief {σ : zSt} (hR : Rel σ) {b : Int32} : Pair mX11_chief mX12_chief [.int b] σ := by
  obtain ⟨d, e, b0, h⟩ := id hR
  obtain ⟨hW, hK, hM, hl, hc, hs8, h08, h43, hTr, hg, hz, hwd, hIm⟩ := id h
  have H := h.hd
  have M := h.md
  have hn8 := hW.1.1
  have ha4 := hW.1.2.1
  have hy8 := hW.1.2.2
  obtain ⟨od, pos, ho, hm, hp, hod, hinj⟩ := h.od
  obtain ⟨E7, E8, E9, E50, E51⟩ := h.eqs
  rcases znt b (Ha d) (by omega) with hb | ⟨b, hb, rfl⟩
  · exact Pair.of (t_K_chief_1 hl H hb) (t_M_chief_1 (σ := zuX σ 43 _) hl M hb) rfl hR.r
  · obtain ⟨od2, pos2, ho2⟩ := hW.2.2.2.2.2.1
    have hod2 : zOd σ (Ha d) od2 := fun i hi => by rw [show zX σ 23 = HO d from h.eO]; exact ho2.1 i hi
    have hmo2 : zMo σ (Ha d) od2 := fun i hi => by rw [E51, show zX σ 23 = HO d from h.eO]; exact ho2.1 i hi
    obtain ⟨p1, p2, p3⟩ := ho2.2.1 b hb
    exact Pair.of (t_K_chief_0 hl H hod2 p1 p2 p3) (t_M_chief_0 (σ := zuX σ 23 _) hl M hmo2 p1 p2 p3) rfl (h.chief ho2 p1 p2)

theorem pr_seed {σ : zSt} (hR : Rel σ) {v : Int32} : Pair mX11_seed mX12_seed [.int v] σ := by
  obtain ⟨d, e, b0, h⟩ := id hR
  obtain ⟨hW, hK, hM, hl, hc, hs8, h08, h43, hTr, hg, hz, hwd, hIm⟩ := id h
  have H := h.hd
  have M := h.md
  have hn8 := hW.1.1
  have ha4 := hW.1.2.1
  have hy8 := hW.1.2.2
  obtain ⟨od, pos, ho, hm, hp, hod, hinj⟩ := h.od
  obtain ⟨E7, E8, E9, E50, E51⟩ := h.eqs
  exact Pair.of (t_K_seed_0 hl) (t_X12_seed (σ := zuX σ 20 _) hl) (i_e (hM.1.2.2.2.trans hK.1.2.2.2.symm)) (h.seed)

theorem pr_clear {σ : zSt} (hR : Rel σ)  : Pair mX11_clear mX12_clear [] σ := by
  obtain ⟨d, e, b0, h⟩ := id hR
  obtain ⟨hW, hK, hM, hl, hc, hs8, h08, h43, hTr, hg, hz, hwd, hIm⟩ := id h
  have H := h.hd
  have M := h.md
  have hn8 := hW.1.1
  have ha4 := hW.1.2.1
  have hy8 := hW.1.2.2
  obtain ⟨od, pos, ho, hm, hp, hod, hinj⟩ := h.od
  obtain ⟨E7, E8, E9, E50, E51⟩ := h.eqs
  exact Pair.of (t_K_clear_0 hl H) (t_X12_clear (σ := zuX σ 20 _) M) rfl (h.clear)

theorem pr_come {σ : zSt} (hR : Rel σ) {m : Int32} : Pair mX11_come mX12_come [.int m] σ := by
  obtain ⟨d, e, b0, h⟩ := id hR
  obtain ⟨hW, hK, hM, hl, hc, hs8, h08, h43, hTr, hg, hz, hwd, hIm⟩ := id h
  have H := h.hd
  have M := h.md
  have hn8 := hW.1.1
  have ha4 := hW.1.2.1
  have hy8 := hW.1.2.2
  obtain ⟨od, pos, ho, hm, hp, hod, hinj⟩ := h.od
  obtain ⟨E7, E8, E9, E50, E51⟩ := h.eqs
  rcases zrg m 1 8 (by decide) (by decide) with hm1 | ⟨m, hm1, hm8, rfl⟩
  · exact Pair.of (t_K_come_6 hl H hm1) (t_M_come_6 (σ := zuX σ 43 _) hl M hm1) rfl hR.r
  · exact Pair.of (t_K_come_0 hl H hm8 hm1) (t_M_come_0 (σ := zuX (zuX σ 20 _) 21 _) hl M hm8 hm1) rfl (h.come (by omega))

theorem pr_asker {σ : zSt} (hR : Rel σ) {s : Int32} {l : Int32} {d2 : Int32} : Pair mX11_asker mX12_asker [.int s, .int l, .int d2] σ := by
  obtain ⟨d, e, b0, h⟩ := id hR
  obtain ⟨hW, hK, hM, hl, hc, hs8, h08, h43, hTr, hg, hz, hwd, hIm⟩ := id h
  have H := h.hd
  have M := h.md
  have hn8 := hW.1.1
  have ha4 := hW.1.2.1
  have hy8 := hW.1.2.2
  obtain ⟨od, pos, ho, hm, hp, hod, hinj⟩ := h.od
  obtain ⟨E7, E8, E9, E50, E51⟩ := h.eqs
  rcases znt s 4 (by decide) with hs | ⟨s, hs, rfl⟩
  · exact Pair.of (t_K_asker_1 hl hs) (t_M_asker_1 (σ := zuX σ 43 _) hl M hs) rfl hR.r
  · rcases znt l 10 (by decide) with hl2 | ⟨l, hl2, rfl⟩
    · exact Pair.of (t_K_asker_2 hl (s := s) (by omega) hl2) (t_M_asker_2 (σ := zuX σ 43 _) hl M (s := s) (by omega) hl2) rfl hR.r
    · rcases znt d2 11 (by decide) with hd2 | ⟨r, hd2, rfl⟩
      · exact Pair.of (t_K_asker_3 hl (s := s) (l := l) (by omega) (by omega) hd2) (t_M_asker_3 (σ := zuX σ 43 _) hl M (s := s) (l := l) (by omega) (by omega) hd2) rfl hR.r
      · rcases (by omega : Ha d = 4 ∨ Ha d < 4) with h4 | h4
        · exact Pair.of (t_K_asker_7 hl H (s := s) (l := l) (d := r) (by omega) (by omega) (by omega) h4) (t_M_asker_7 (σ := zuX σ 43 _) hl M (s := s) (l := l) (d := r) (by omega) (by omega) (by omega) h4) rfl hR.r
        · exact Pair.of (t_K_asker_0 hl H (s := s) (l := l) (d := r) (by omega) (by omega) (by omega) h4) (t_M_asker_0 (σ := zuX (zuX (zuX σ 22 _) 23 _) 20 _) hl M (s := s) (l := l) (d := r) (by omega) (by omega) (by omega) h4) rfl (h.asker h4 (by omega) (by omega) (by omega))

theorem pr_way {σ : zSt} (hR : Rel σ) {k : Int32} {v : Int32} : Pair mX11_way mX12_way [.int k, .int v] σ := by
  obtain ⟨d, e, b0, h⟩ := id hR
  obtain ⟨hW, hK, hM, hl, hc, hs8, h08, h43, hTr, hg, hz, hwd, hIm⟩ := id h
  have H := h.hd
  have M := h.md
  have hn8 := hW.1.1
  have ha4 := hW.1.2.1
  have hy8 := hW.1.2.2
  obtain ⟨od, pos, ho, hm, hp, hod, hinj⟩ := h.od
  obtain ⟨E7, E8, E9, E50, E51⟩ := h.eqs
  rcases znt k 7 (by decide) with hk | ⟨k, hk, rfl⟩
  · exact Pair.of (t_K_way_1 hl hk) (t_M_way_1 (σ := zuX σ 43 _) hl M hk) rfl hR.r
  · rcases znt v 100 (by decide) with hv | ⟨v, hv, rfl⟩
    · exact Pair.of (t_K_way_6 hl (k := k) (by omega) hv) (t_M_way_6 (σ := zuX σ 43 _) hl M (k := k) (by omega) hv) rfl hR.r
    · rcases (by omega : Hy d = 8 ∨ Hy d < 8) with h8 | h8
      · exact Pair.of (t_K_way_7 hl H (k := k) (v := v) (by omega) (by omega) h8) (t_M_way_7 (σ := zuX σ 43 _) hl M (k := k) (v := v) (by omega) (by omega) h8) rfl hR.r
      · have la : Lay (aW σ 20 k v (Hy d)) := hl.fr (zFr.aW (lo := 20) (hi := 24) (Nat.le_refl _) (by decide)) (fun _ => rfl)
        have h66 := hl.1
        have X := fun j (hj : j < 66) (h20 : j ≠ 20) => aW_X (σ := σ) (kd := k) (v := v) (y := Hy d) hl hj h20
        have Ma : zMd (aW σ 20 k v (Hy d)) (Hn d) (Ha d) (Hy d) := by
          refine ⟨la, ?_, hn8, ?_, ha4, ?_, hy8⟩
          · rw [X 45 (by decide) (by decide)]; exact M.2.1
          · rw [X 45 (by decide) (by decide)]; exact M.2.2.2.1
          · rw [X 45 (by decide) (by decide)]; exact M.2.2.2.2.2.1
        have hM1 := t_M_way_0 la Ma (k := k) (v := v) (by omega) (by omega) h8
        rw [X 45 (by decide) (by decide), X 52 (by decide) (by decide), X 53 (by decide) (by decide)] at hM1
        have hRw := h.way (kd := k) (v := v) h8 (by omega) (by omega)
        rcases (by omega : k = 0 ∨ k = 1 ∨ k = 2 ∨ k = 3 ∨ k = 4 ∨ k = 5 ∨ k = 6) with rfl | rfl | rfl | rfl | rfl | rfl | rfl
        · exact Pair.oq (t_K_way_0_0 hl H hc (v := v) (by omega) h8) hM1 rfl hRw (L45 la)
        · exact Pair.oq (t_K_way_0_1 hl H hc (v := v) (by omega) h8) hM1 rfl hRw (L45 la)
        · exact Pair.oq (t_K_way_0_2 hl H hc (v := v) (by omega) h8) hM1 rfl hRw (L45 la)
        · exact Pair.oq (t_K_way_0_3 hl H hc (v := v) (by omega) h8) hM1 rfl hRw (L45 la)
        · exact Pair.oq (t_K_way_0_4 hl H hc (v := v) (by omega) h8) hM1 rfl hRw (L45 la)
        · exact Pair.oq (t_K_way_0_5 hl H hc (v := v) (by omega) h8) hM1 rfl hRw (L45 la)
        · exact Pair.oq (t_K_way_0_6 hl H hc (v := v) (by omega) h8) hM1 rfl hRw (L45 la)

theorem pr_comer {σ : zSt} (hR : Rel σ) {s : Int32} {i : Int32} : Pair mX11_comer mX12_comer [.int s, .int i] σ := by
  obtain ⟨d, e, b0, h⟩ := id hR
  obtain ⟨hW, hK, hM, hl, hc, hs8, h08, h43, hTr, hg, hz, hwd, hIm⟩ := id h
  have H := h.hd
  have M := h.md
  have hn8 := hW.1.1
  have ha4 := hW.1.2.1
  have hy8 := hW.1.2.2
  obtain ⟨od, pos, ho, hm, hp, hod, hinj⟩ := h.od
  obtain ⟨E7, E8, E9, E50, E51⟩ := h.eqs
  rcases znt s 8 (by decide) with hs | ⟨s, hs, rfl⟩
  · exact Pair.of (t_K_comer_1 hl hs) (t_M_comer_1 (σ := zuX σ 43 _) hl hs) rfl hR.r
  · obtain ⟨hst, hY⟩ := hs8 s hs
    rcases hst with ⟨o, m, ha, hb⟩ | ⟨i8, hi8, ha, hb⟩ | ⟨ha, hb⟩
    · have hm := ha.2.2.2.1
      rcases zneg i with hi | ⟨i, hi3, rfl⟩
      · exact Pair.of (t_K_comer_5 hl hs ha (Or.inl hi)) (t_M_comer_5a (σ := zuX σ 43 _) hl M hs hb hi) rfl hR.r
      · rcases Nat.lt_or_ge m (i + 6) with hi | hi
        · exact Pair.of (t_K_comer_5 hl hs ha (Or.inr ⟨i, rfl, hi3, hi⟩)) (t_M_comer_5b (σ := zuX σ 43 _) hl M hs hb hi3 hi) rfl hR.r
        · have eE : ∀ z, z < 6 → (fun o => (zY σ 58 (s * 160 + (i + o))).toInt32) z = (fun o => (zY σ (2 + 2 * s + 1) (i + o)).toInt32) z := fun z hz => by show (zY σ 58 (s * 160 + (i + z))).toInt32 = (zY σ (2 + 2 * s + 1) (i + z)).toInt32; rw [hY (i + z) (by omega)]
          rcases sixN (fun o => (zY σ (2 + 2 * s + 1) (i + o)).toInt32) with ⟨k0, dz, hk0, hd, hbd⟩ | ⟨dz, hd⟩
          · exact Pair.of (t_K_comer_6 hl hs ha hi hk0 hd hbd) (t_M_comer_6 (σ := zuX (zuX σ 44 _) 43 _) hl M hs hb hi hk0 (d := dz) (fun z hz => by rw [show (fun o => (zY (zuX (zuX σ 44 _) 43 _) 58 (s * 160 + (i + o))).toInt32) z = (fun o => (zY σ (2 + 2 * s + 1) (i + o)).toInt32) z from eE z (by omega)]; exact hd z hz) (by rw [show (fun o => (zY (zuX (zuX σ 44 _) 43 _) 58 (s * 160 + (i + o))).toInt32) k0 = (fun o => (zY σ (2 + 2 * s + 1) (i + o)).toInt32) k0 from eE k0 hk0]; exact hbd)) rfl (Rel.r (hR.u rfl))
          · have hd2 : ∀ z, z < 6 → (fun o => (zY σ 58 (s * 160 + (i + o))).toInt32) z = nI (dz z) ∧ dz z ≤ mo z := fun z hz => by rw [eE z hz]; exact hd z hz
            rcases (by omega : Hn d = 8 ∨ Hn d < 8) with h8 | h8
            · exact Pair.of (t_K_comer_7 hl H hs ha hi hd h8) (t_M_comer_7 (σ := zuX (zuX σ 44 _) 43 _) hl M hs hb hi hd2 h8) rfl (Rel.r (hR.u rfl))
            · exact Pair.of (t_K_comer_0 hl H hs ha hi hd h8) (t_M_comer_0 (σ := zuX (zuX (zuX σ 44 _) 21 _) 20 _) hl M hs hb hi hd2 h8) rfl (h.comer h8 (fun j hj => ⟨dz j, (hd j hj).2, (hd j hj).1⟩) eE)
    · exact Pair.of (t_K_comer_2 hl hs ha) (t_M_comer_2 (σ := zuX σ 43 _) hl hs hb) rfl hR.r
    · exact Pair.of (t_K_comer_3 hl hs ha) (t_M_comer_3 (σ := zuX σ 43 _) hl hs hb) rfl hR.r
