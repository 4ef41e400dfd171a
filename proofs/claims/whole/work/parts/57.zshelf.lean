/-! shelves -/
/-- all stays but one shelf -/
def sF (s : Nat) (σ τ : zSt) : Prop := (zN τ = zN σ ∧ zK τ = zK σ ∧ zL τ = zL σ ∧ zR τ = zR σ) ∧ (∀ k, k ≠ 2 + 2 * s → ¬ (54 ≤ k ∧ k ≤ 57) → zX τ k = zX σ k) ∧ (∀ k, k ≠ 2 + 2 * s + 1 → k ≠ 58 → k ≠ 59 → zY τ k = zY σ k) ∧ (∀ k, 54 ≤ k → k ≤ 57 → ∀ t, t ≠ s → zX τ k t = zX σ k t) ∧ ∀ t i, t ≠ s → i < 160 → zY τ 58 (t * 160 + i) = zY σ 58 (t * 160 + i)
theorem sF.tr {s : Nat} {σ τ υ : zSt} (h : sF s σ τ) (g : sF s τ υ) : sF s σ υ :=
  ⟨⟨g.1.1.trans h.1.1, g.1.2.1.trans h.1.2.1, g.1.2.2.1.trans h.1.2.2.1, g.1.2.2.2.trans h.1.2.2.2⟩, fun k a b => (g.2.1 k a b).trans (h.2.1 k a b), fun k a b c => (g.2.2.1 k a b c).trans (h.2.2.1 k a b c), fun k a b t c => (g.2.2.2.1 k a b t c).trans (h.2.2.2.1 k a b t c), fun t i a b => (g.2.2.2.2 t i a b).trans (h.2.2.2.2 t i a b)⟩
theorem sF.x {s : Nat} {σ : zSt} {f : Nat → Int32} (hs : s < 8) : sF s σ (zuX σ (2 + 2 * s) f) :=
  ⟨⟨rfl, rfl, rfl, rfl⟩, fun k a b => zX_n a, fun _ _ _ _ => rfl, fun k a b t _ => by rw [zX_n (by omega)], fun _ _ _ _ => rfl⟩
theorem sF.y {s : Nat} {σ : zSt} {f : Nat → Int64} (hs : s < 8) : sF s σ (zuY σ (2 + 2 * s + 1) f) :=
  ⟨⟨rfl, rfl, rfl, rfl⟩, fun _ _ _ => rfl, fun k a b c => zfu_ne a, fun _ _ _ _ _ => rfl, fun t i _ _ => by rw [show zY (zuY σ (2 + 2 * s + 1) f) 58 = zY σ 58 from zfu_ne (by omega)]⟩
theorem sF.m {s k : Nat} {σ : zSt} {v : Int32} (hk : 54 ≤ k ∧ k ≤ 57) : sF s σ (zuX σ k (upd (zX σ k) s v)) :=
  ⟨⟨rfl, rfl, rfl, rfl⟩, fun j a b => zX_n (by omega), fun _ _ _ _ => rfl, fun j a b t ht => by
    by_cases e : j = k
    · subst e; rw [zX_self, upd_ne ht]
    · rw [zX_n e], fun _ _ _ _ => rfl⟩
theorem sF.n {s k : Nat} {σ : zSt} {g : Nat → Int32} (hk : 54 ≤ k ∧ k ≤ 57) (hg : ∀ t, t ≠ s → g t = zX σ k t) : sF s σ (zuX σ k g) :=
  ⟨⟨rfl, rfl, rfl, rfl⟩, fun j a b => zX_n (by omega), fun _ _ _ _ => rfl, fun j a b t ht => by
    by_cases e : j = k
    · subst e; rw [zX_self]; exact hg t ht
    · rw [zX_n e], fun _ _ _ _ => rfl⟩
theorem sF.b {s : Nat} {σ : zSt} {g : Nat → Int64} (h : ∀ t i, t ≠ s → i < 160 → g (t * 160 + i) = zY σ 58 (t * 160 + i)) : sF s σ (zuY σ 58 g) :=
  ⟨⟨rfl, rfl, rfl, rfl⟩, fun _ _ _ => rfl, fun k a b c => zfu_ne b, fun _ _ _ _ _ => rfl, fun t i a b => by rw [zY_self]; exact h t i a b⟩
theorem sF.c {s : Nat} {σ : zSt} {g : Nat → Int64} : sF s σ (zuY σ 59 g) :=
  ⟨⟨rfl, rfl, rfl, rfl⟩, fun _ _ _ => rfl, fun k a b c => zfu_ne c, fun _ _ _ _ _ => rfl, fun t i a b => rfl⟩
theorem zWo.s {s : Nat} {σ τ : zSt} {q kd pa num : Nat} (h : zWo σ q kd pa num) (hs : s < 8) (hf : sF s σ τ) : zWo τ q kd pa num := by
  obtain ⟨h1, h2, h3, h4, h5, h6, h7, h8, h9, h10⟩ := h
  have e := hf.2.1 q (by omega) (by omega)
  unfold zWo
  rw [hf.1.1, hf.1.2.1, hf.1.2.2.2, e]
  exact ⟨h1, h2, h3, h4, h5, h6, h7, h8, h9, h10⟩
theorem ShR.s {σ τ : zSt} {y s t : Nat} (h : ShR σ y t) (hs : s < 8) (ht : t < 8) (hne : t ≠ s) (hf : sF s σ τ) : ShR τ y t := by
  obtain ⟨-, a1, a2, a3, a4⟩ := hf
  unfold ShR zRw zMr zWa zMa zNo zMn at h ⊢
  rw [a1 (2 + 2 * t) (by omega) (by omega), a2 (2 + 2 * t + 1) (by omega) (by omega) (by omega), a3 54 (by decide) (by decide) t hne, a3 55 (by decide) (by decide) t hne, a3 56 (by decide) (by decide) t hne, a3 57 (by decide) (by decide) t hne]
  exact ⟨h.1, fun i hi => (h.2 i hi).trans (a4 t i hne hi).symm⟩
theorem RelD.s {σ τ : zSt} {d e : HD} {b s : Nat} (h : RelD σ d e b) (hs : s < 8) (hf : sF s σ τ) (hsh : ShR τ (Hy d) s) : Rel τ := by
  obtain ⟨hW, hK, hM, hl, hc, hs8, h08, h43, hTr, hg, hz, hwd, hIm⟩ := h
  have X : ∀ k, k = 0 ∨ (18 ≤ k ∧ ¬ (54 ≤ k ∧ k ≤ 57)) → zX τ k = zX σ k := fun k hk => hf.2.1 k (by omega) (by omega)
  obtain ⟨eN, eK, eL, eR⟩ := hf.1
  have R : ∀ k, zR τ k = zR σ k := fun k => by rw [eR]
  have hKs : ∀ (p : Nat) (g : HD), p = 20 ∨ p = 27 → KH σ p g → KH τ p g := fun p g hp hk => hk.of (X p (by omega)) (X (p + 1) (by omega)) (X (p + 2) (by omega)) (X (p + 3) (by omega)) (R (p + 4)) (fun _ _ _ _ hq => hq.s hs hf)
  refine ⟨d, e, b, hW, hKs 20 d (Or.inl rfl) hK, ?_, ?_, ?_, fun t ht => ?_, ?_, ?_, ?_, ?_, ?_, ?_, ?_⟩
  · unfold MH
    rw [X 45 (by decide), X 47 (by decide), X 48 (by decide), X 49 (by decide), X 50 (by decide), X 51 (by decide), X 52 (by decide), X 53 (by decide)]
    exact hM
  · unfold Lay
    rw [eN, eK, eL, eR]
    exact hl
  · unfold zCl
    rw [eN, eR]
    exact hc
  · by_cases e2 : t = s
    · subst e2; exact hsh
    · exact (hs8 t ht).s hs ht e2 hf
  · rw [X 0 (by decide), X 45 (by decide)]; exact h08
  · rw [X 43 (by decide), X 46 (by decide)]; exact h43
  · unfold TrR
    rw [X 19 (by decide), X 65 (by decide), X 18 (by decide), X 45 (by decide)]
    exact hTr
  · rw [X 45 (by decide)]; exact hg
  · exact hz.e (X 36 (by decide)) (X 37 (by decide)) (X 38 (by decide)) (R 39)
  · unfold WdR
    rw [X 60 (by decide)]
    exact hwd
  · obtain ⟨i1, i2, i3, i4, i5⟩ := hIm
    refine ⟨i1.e (X 28 (by decide)) (X 29 (by decide)) (X 30 (by decide)) (R 31), by rw [X 0 (by decide)]; exact i2, by rw [X 45 (by decide)]; exact i3, i4, fun hb => ?_⟩
    obtain ⟨g1, g2, g3⟩ := i5 hb
    refine ⟨g1, hKs 27 e (Or.inr rfl) g2, ?_⟩
    unfold MK
    rw [X 63 (by decide)]
    exact g3
theorem sh_row {σ : zSt} {d e : HD} {b s o m : Nat} (h : RelD σ d e b) (hs : s < 8) (ho : o < 4) (hm : m ≤ 160) {f : Nat → Int32} {g : Nat → Int64} (hf : f = upd (upd (upd (zX σ (2 + 2 * s)) 3 (-1)) 1 (nI o)) 2 (nI m)) (hg : g = zfl 160 0 (zY σ (2 + 2 * s + 1))) : Rel (zuY (zuX (zuX (zuX (zuY (zuX σ (2 + 2 * s) f) (2 + 2 * s + 1) g) 54 (upd (zX σ 54) s (nI 1))) 55 (upd (zX σ 55) s (nI o))) 56 (upd (zX σ 56) s (nI m))) 58 (zfr (s * 160) 160 (zY σ 58))) := by
  have e54 : zX (zuX σ (2 + 2 * s) f) 54 = zX σ 54 := zX_n (by omega)
  have e55 : zX (zuX σ (2 + 2 * s) f) 55 = zX σ 55 := zX_n (by omega)
  have e56 : zX (zuX σ (2 + 2 * s) f) 56 = zX σ 56 := zX_n (by omega)
  have e58 : zY (zuY (zuX σ (2 + 2 * s) f) (2 + 2 * s + 1) g) 58 = zY σ 58 := zfu_ne (by omega)
  have s1 : sF s σ (zuY (zuX σ (2 + 2 * s) f) (2 + 2 * s + 1) g) := (sF.x hs).tr (sF.y hs)
  have s2 := s1.tr (sF.n (k := 54) (g := upd (zX σ 54) s (nI 1)) (by decide) (fun t ht => (upd_ne ht).trans (congrFun e54.symm t)))
  have s3 := s2.tr (sF.n (k := 55) (g := upd (zX σ 55) s (nI o)) (by decide) (fun t ht => (upd_ne ht).trans (congrFun e55.symm t)))
  have s4 := s3.tr (sF.n (k := 56) (g := upd (zX σ 56) s (nI m)) (by decide) (fun t ht => (upd_ne ht).trans (congrFun e56.symm t)))
  refine h.s hs (s4.tr ?_) ?_
  · refine sF.b fun t i ht hi => ?_
    show zfr (s * 160) 160 (zY σ 58) (t * 160 + i) = zY (zuY (zuX σ (2 + 2 * s) f) (2 + 2 * s + 1) g) 58 (t * 160 + i)
    rw [e58]
    unfold zfr
    rw [if_neg (by omega)]
  · refine ⟨Or.inl ⟨o, m, ?_, ?_⟩, fun i hi => ?_⟩
    · have e : zX (zuY (zuX (zuX (zuX (zuY (zuX σ (2 + 2 * s) f) (2 + 2 * s + 1) g) 54 (upd (zX σ 54) s (nI 1))) 55 (upd (zX σ 55) s (nI o))) 56 (upd (zX σ 56) s (nI m))) 58 (zfr (s * 160) 160 (zY σ 58))) (2 + 2 * s) = f := by
        show zX (zuX (zuX (zuX (zuY (zuX σ (2 + 2 * s) f) (2 + 2 * s + 1) g) 54 _) 55 _) 56 _) (2 + 2 * s) = f
        rw [zX_n (by omega), zX_n (by omega), zX_n (by omega)]
        exact zX_self
      unfold zRw
      rw [e, hf]
      exact ⟨rfl, by omega, rfl, hm, rfl⟩
    · exact ⟨upd_self, upd_self, by omega, upd_self, hm⟩
    · have e1 : zY (zuY (zuX (zuX (zuX (zuY (zuX σ (2 + 2 * s) f) (2 + 2 * s + 1) g) 54 (upd (zX σ 54) s (nI 1))) 55 (upd (zX σ 55) s (nI o))) 56 (upd (zX σ 56) s (nI m))) 58 (zfr (s * 160) 160 (zY σ 58))) (2 + 2 * s + 1) = g := (zfu_ne (by omega)).trans zfu_self
      rw [e1, hg]
      show zfl 160 0 (zY σ (2 + 2 * s + 1)) i = zfr (s * 160) 160 (zY σ 58) (s * 160 + i)
      unfold zfl zfr
      rw [if_pos (by omega), if_pos (by omega)]
theorem sh_set {σ : zSt} {d e : HD} {b s o m i : Nat} {v : Int64} (h : RelD σ d e b) (hs : s < 8) (ha : zRw σ (2 + 2 * s) o m) (hb : zMr σ s o m) (hY : ∀ i, i < 160 → zY σ (2 + 2 * s + 1) i = zY σ 58 (s * 160 + i)) (hi : i < m) : Rel (zuY (zuY σ (2 + 2 * s + 1) (vp_updL (zY σ (2 + 2 * s + 1)) i v)) 58 (vp_updL (zY σ 58) (s * 160 + i) v)) := by
  have hm := ha.2.2.2.1
  have e58 : zY (zuY σ (2 + 2 * s + 1) (vp_updL (zY σ (2 + 2 * s + 1)) i v)) 58 = zY σ 58 := zfu_ne (by omega)
  refine h.s hs (sF.tr (sF.y hs) (sF.b fun t j ht hj => ?_)) ⟨Or.inl ⟨o, m, ha, hb⟩, fun j hj => ?_⟩
  · rw [e58]
    unfold vp_updL
    rw [if_neg (by omega)]
  · have e1 : zY (zuY (zuY σ (2 + 2 * s + 1) (vp_updL (zY σ (2 + 2 * s + 1)) i v)) 58 (vp_updL (zY σ 58) (s * 160 + i) v)) (2 + 2 * s + 1) = vp_updL (zY σ (2 + 2 * s + 1)) i v := (zfu_ne (by omega)).trans zfu_self
    rw [e1]
    show vp_updL (zY σ (2 + 2 * s + 1)) i v j = vp_updL (zY σ 58) (s * 160 + i) v (s * 160 + j)
    unfold vp_updL
    by_cases e : j = i
    · rw [if_pos e, if_pos (by omega)]
    · rw [if_neg e, if_neg (by omega)]
      exact hY j hj
theorem sh_cpy {σ : zSt} {d e : HD} {b s t i j n o m o2 m2 : Nat} (h : RelD σ d e b) (hs : s < 8) (ht : t < 8) (ha : zRw σ (2 + 2 * s) o m) (ha2 : zRw σ (2 + 2 * t) o2 m2) (hb2 : zMr σ t o2 m2) (hYs : ∀ i, i < 160 → zY σ (2 + 2 * s + 1) i = zY σ 58 (s * 160 + i)) (hYt : ∀ i, i < 160 → zY σ (2 + 2 * t + 1) i = zY σ 58 (t * 160 + i)) (hi : i + n ≤ m) (hj : j + n ≤ m2) : Rel (zuY (zuY (zuY σ (2 + 2 * t + 1) (va_cpy (zY σ (2 + 2 * s + 1)) (zY σ (2 + 2 * t + 1)) i j n)) 59 (va_cpy (zY σ 58) (zY σ 59) (s * 160 + i) 0 n)) 58 (va_cpy (va_cpy (zY σ 58) (zY σ 59) (s * 160 + i) 0 n) (zY σ 58) 0 (t * 160 + j) n)) := by
  have hm := ha.2.2.2.1
  have hm2 := ha2.2.2.2.1
  have e58 : zY (zuY σ (2 + 2 * t + 1) (va_cpy (zY σ (2 + 2 * s + 1)) (zY σ (2 + 2 * t + 1)) i j n)) 58 = zY σ 58 := zfu_ne (by omega)
  refine h.s ht (sF.tr (sF.tr (sF.y ht) sF.c) (sF.b fun u x hu hx => ?_)) ⟨Or.inl ⟨o2, m2, ha2, hb2⟩, fun x hx => ?_⟩
  · show va_cpy _ (zY σ 58) 0 (t * 160 + j) n (u * 160 + x) = zY (zuY σ (2 + 2 * t + 1) (va_cpy (zY σ (2 + 2 * s + 1)) (zY σ (2 + 2 * t + 1)) i j n)) 58 (u * 160 + x)
    rw [e58]
    unfold va_cpy
    rw [if_neg (by omega)]
  · have e1 : zY (zuY (zuY (zuY σ (2 + 2 * t + 1) (va_cpy (zY σ (2 + 2 * s + 1)) (zY σ (2 + 2 * t + 1)) i j n)) 59 (va_cpy (zY σ 58) (zY σ 59) (s * 160 + i) 0 n)) 58 (va_cpy (va_cpy (zY σ 58) (zY σ 59) (s * 160 + i) 0 n) (zY σ 58) 0 (t * 160 + j) n)) (2 + 2 * t + 1) = va_cpy (zY σ (2 + 2 * s + 1)) (zY σ (2 + 2 * t + 1)) i j n := ((zfu_ne (by omega)).trans (zfu_ne (by omega))).trans zfu_self
    rw [e1]
    show va_cpy (zY σ (2 + 2 * s + 1)) (zY σ (2 + 2 * t + 1)) i j n x = va_cpy (va_cpy (zY σ 58) (zY σ 59) (s * 160 + i) 0 n) (zY σ 58) 0 (t * 160 + j) n (t * 160 + x)
    unfold va_cpy
    by_cases hx2 : j ≤ x ∧ x < j + n
    · rw [if_pos hx2, if_pos (by omega), if_pos (by omega), hYs _ (by omega)]
      congr 1; omega
    · rw [if_neg hx2, if_neg (by omega)]
      exact hYt x hx
theorem sh_way {σ : zSt} {d e : HD} {b s i : Nat} (h : RelD σ d e b) (hs : s < 8) (hi : i < Hy d) {f : Nat → Int32} (hf : f = upd (upd (upd (zX σ (2 + 2 * s)) 3 (nI i)) 1 (-1)) 2 (nI 0)) : Rel (zuX (zuX (zuX σ (2 + 2 * s) f) 54 (upd (zX σ 54) s (nI 2))) 57 (upd (zX σ 57) s (nI i))) := by
  have hy8 := h.1.1.2.2
  have e54 : zX (zuX σ (2 + 2 * s) f) 54 = zX σ 54 := zX_n (by omega)
  have e57 : zX (zuX σ (2 + 2 * s) f) 57 = zX σ 57 := zX_n (by omega)
  have h0 := h.2.2.2.2.2.1 s hs
  have s1 : sF s σ (zuX σ (2 + 2 * s) f) := sF.x hs
  have s2 := s1.tr (sF.n (k := 54) (g := upd (zX σ 54) s (nI 2)) (by decide) (fun t ht => (upd_ne ht).trans (congrFun e54.symm t)))
  have s3 := s2.tr (sF.n (k := 57) (g := upd (zX σ 57) s (nI i)) (by decide) (fun t ht => (upd_ne ht).trans (congrFun e57.symm t)))
  refine h.s hs s3 ?_
  · refine ⟨Or.inr (Or.inl ⟨i, hi, ?_, ?_⟩), h0.2⟩
    · have e : zX (zuX (zuX (zuX σ (2 + 2 * s) f) 54 (upd (zX σ 54) s (nI 2))) 57 (upd (zX σ 57) s (nI i))) (2 + 2 * s) = f := by
        rw [zX_n (by omega), zX_n (by omega)]
        exact zX_self
      unfold zWa
      rw [e, hf]
      exact ⟨rfl, rfl, rfl, by omega⟩
    · exact ⟨upd_self, upd_self, by omega⟩
theorem sh_none {σ : zSt} {d e : HD} {b s : Nat} (h : RelD σ d e b) (hs : s < 8) {f : Nat → Int32} (hf : f = upd (upd (upd (zX σ (2 + 2 * s)) 3 (-1)) 1 (-1)) 2 (nI 0)) : Rel (zuX (zuX (zuX σ (2 + 2 * s) f) 54 (upd (zX σ 54) s (nI 0))) 57 (upd (zX σ 57) s (-1))) := by
  have e54 : zX (zuX σ (2 + 2 * s) f) 54 = zX σ 54 := zX_n (by omega)
  have e57 : zX (zuX σ (2 + 2 * s) f) 57 = zX σ 57 := zX_n (by omega)
  have h0 := h.2.2.2.2.2.1 s hs
  have s1 : sF s σ (zuX σ (2 + 2 * s) f) := sF.x hs
  have s2 := s1.tr (sF.n (k := 54) (g := upd (zX σ 54) s (nI 0)) (by decide) (fun t ht => (upd_ne ht).trans (congrFun e54.symm t)))
  have s3 := s2.tr (sF.n (k := 57) (g := upd (zX σ 57) s (-1)) (by decide) (fun t ht => (upd_ne ht).trans (congrFun e57.symm t)))
  refine h.s hs s3 ?_
  · refine ⟨Or.inr (Or.inr ⟨?_, upd_self⟩), h0.2⟩
    have e : zX (zuX (zuX (zuX σ (2 + 2 * s) f) 54 (upd (zX σ 54) s (nI 0))) 57 (upd (zX σ 57) s (-1))) (2 + 2 * s) = f := by
      rw [zX_n (by omega), zX_n (by omega)]
      exact zX_self
    unfold zNo
    rw [e, hf]
    exact ⟨rfl, rfl, rfl⟩
theorem zMd.x {σ : zSt} {n a y k : Nat} {f : Nat → Int32} (h : zMd σ n a y) (hk : k ≠ 45) : zMd (zuX σ k f) n a y := by
  obtain ⟨h1, h2, h3, h4, h5, h6, h7⟩ := h
  have e : zX (zuX σ k f) 45 = zX σ 45 := zX_n (Ne.symm hk)
  exact ⟨h1, by rw [e]; exact h2, h3, by rw [e]; exact h4, h5, by rw [e]; exact h6, h7⟩
theorem if_sym {x y a b : Int32} : (if x = y then a else b) = if y = x then a else b := by
  by_cases q : x = y
  · subst q; rfl
  · rw [if_neg q, if_neg (fun z => q z.symm)]
theorem zbad_or (i : Int32) (m n : Nat) (hm : m ≤ 160) : (i < 0 ∨ ∃ j : Nat, i = nI j ∧ j < 2 ^ 31 ∧ m < j + n) ∨ ∃ j, j + n ≤ m ∧ i = nI j := by
  rcases zneg i with h | ⟨j, hj, rfl⟩
  · exact Or.inl (Or.inl h)
  · rcases Nat.lt_or_ge m (j + n) with h2 | h2
    · exact Or.inl (Or.inr ⟨j, rfl, hj, h2⟩)
    · exact Or.inr ⟨j, h2, rfl⟩

theorem pr_row {σ : zSt} (hR : Rel σ) {s : Int32} {o : Int32} {n : Int32} : Pair mX11_row mX12_row [.int s, .int o, .int n] σ := by
  obtain ⟨d, e, b0, h⟩ := id hR
  obtain ⟨hW, hK, hM, hl, hc, hs8, h08, h43, hTr, hg, hz, hwd, hIm⟩ := id h
  have H := h.hd
  have M := h.md
  have hn8 := hW.1.1
  have ha4 := hW.1.2.1
  have hy8 := hW.1.2.2
  obtain ⟨od, pos, ho, hm, hp, hod, hinj⟩ := h.od
  obtain ⟨E7, E8, E9, E50, E51⟩ := h.eqs
  rcases znt s 8 (by decide) with hs | ⟨s, hs, rfl⟩
  · exact Pair.of (t_K_row_1 hl hs) (t_M_row_1 (σ := zuX σ 43 _) hl hs) rfl hR.r
  · rcases zneg n with hn | ⟨n, hn, rfl⟩
    · exact Pair.of (t_K_row_4 hl hs hn) (t_M_row_4 (σ := zuX σ 43 _) hl hs hn) rfl hR.r
    · rcases znt o 4 (by decide) with ho4 | ⟨o, ho4, rfl⟩
      · exact Pair.of (t_K_row_6 hl hs (nI_nneg hn) ho4) (t_M_row_6 (σ := zuX σ 43 _) hl hs (nI_nneg hn) ho4) rfl hR.r
      · rcases Nat.lt_or_ge 160 n with h16 | h16
        · exact Pair.of (t_K_row_7 hl hs ho4 (nI_nneg hn) ((nq_lt (by decide) hn).mpr h16)) (t_M_row_7 (σ := zuX σ 43 _) hl hs ho4 (nI_nneg hn) ((nq_lt (by decide) hn).mpr h16)) rfl hR.r
        · have hM1 := t_M_row_0 (σ := zuY (zuX σ (2 + 2 * s) (upd (upd (upd (zX σ (2 + 2 * s)) 3 (-1)) 1 (nI o)) 2 (nI n))) (2 + 2 * s + 1) (zfl 160 0 (zY σ (2 + 2 * s + 1)))) hl hs ho4 h16
          rw [show zX (zuY (zuX σ (2 + 2 * s) (upd (upd (upd (zX σ (2 + 2 * s)) 3 (-1)) 1 (nI o)) 2 (nI n))) (2 + 2 * s + 1) (zfl 160 0 (zY σ (2 + 2 * s + 1)))) 54 = zX σ 54 from zX_n (by omega), show zX (zuY (zuX σ (2 + 2 * s) (upd (upd (upd (zX σ (2 + 2 * s)) 3 (-1)) 1 (nI o)) 2 (nI n))) (2 + 2 * s + 1) (zfl 160 0 (zY σ (2 + 2 * s + 1)))) 55 = zX σ 55 from zX_n (by omega), show zX (zuY (zuX σ (2 + 2 * s) (upd (upd (upd (zX σ (2 + 2 * s)) 3 (-1)) 1 (nI o)) 2 (nI n))) (2 + 2 * s + 1) (zfl 160 0 (zY σ (2 + 2 * s + 1)))) 56 = zX σ 56 from zX_n (by omega), show zY (zuY (zuX σ (2 + 2 * s) (upd (upd (upd (zX σ (2 + 2 * s)) 3 (-1)) 1 (nI o)) 2 (nI n))) (2 + 2 * s + 1) (zfl 160 0 (zY σ (2 + 2 * s + 1)))) 58 = zY σ 58 from zfu_ne (by omega)] at hM1
          exact Pair.of (t_K_row_0 hl hs ho4 h16) hM1 rfl (sh_row h hs ho4 h16 rfl rfl)

theorem pr_set {σ : zSt} (hR : Rel σ) {s : Int32} {i : Int32} {v : Int64} : Pair mX11_set mX12_set [.int s, .int i, .long v] σ := by
  obtain ⟨d, e, b0, h⟩ := id hR
  obtain ⟨hW, hK, hM, hl, hc, hs8, h08, h43, hTr, hg, hz, hwd, hIm⟩ := id h
  have H := h.hd
  have M := h.md
  have hn8 := hW.1.1
  have ha4 := hW.1.2.1
  have hy8 := hW.1.2.2
  obtain ⟨od, pos, ho, hm, hp, hod, hinj⟩ := h.od
  obtain ⟨E7, E8, E9, E50, E51⟩ := h.eqs
  rcases znt s 8 (by decide) with hs | ⟨s, hs, rfl⟩
  · exact Pair.of (t_K_set_1 hl hs) (t_M_set_1 (σ := zuX σ 43 _) hl hs) rfl hR.r
  · obtain ⟨hst, hY⟩ := hs8 s hs
    rcases hst with ⟨o, m, ha, hb⟩ | ⟨i8, hi8, ha, hb⟩ | ⟨ha, hb⟩
    · rcases znt i m (by have := ha.2.2.2.1; omega) with hi | ⟨i, hi, rfl⟩
      · exact Pair.of (t_K_set_5 hl hs ha hi) (t_M_set_5 (σ := zuX σ 43 _) hl hs hb hi) rfl hR.r
      · have hM1 := t_M_set_0 (σ := zuY σ (2 + 2 * s + 1) (vp_updL (zY σ (2 + 2 * s + 1)) i (zlow o v))) hl hs hb (v := v) hi
        rw [show zY (zuY σ (2 + 2 * s + 1) (vp_updL (zY σ (2 + 2 * s + 1)) i (zlow o v))) 58 = zY σ 58 from zfu_ne (by omega)] at hM1
        exact Pair.of (t_K_set_0 hl hs ha hi) hM1 rfl (sh_set h hs ha hb hY hi)
    · exact Pair.of (t_K_set_2 hl hs ha) (t_M_set_2 (σ := zuX σ 43 _) hl hs hb) rfl hR.r
    · exact Pair.of (t_K_set_3 hl hs ha) (t_M_set_3 (σ := zuX σ 43 _) hl hs hb) rfl hR.r

theorem pr_element {σ : zSt} (hR : Rel σ) {s : Int32} {i : Int32} : Pair mX11_element mX12_element [.int s, .int i] σ := by
  obtain ⟨d, e, b0, h⟩ := id hR
  obtain ⟨hW, hK, hM, hl, hc, hs8, h08, h43, hTr, hg, hz, hwd, hIm⟩ := id h
  have H := h.hd
  have M := h.md
  have hn8 := hW.1.1
  have ha4 := hW.1.2.1
  have hy8 := hW.1.2.2
  obtain ⟨od, pos, ho, hm, hp, hod, hinj⟩ := h.od
  obtain ⟨E7, E8, E9, E50, E51⟩ := h.eqs
  rcases znt s 8 (by decide) with hs | ⟨s, hs, rfl⟩
  · exact Pair.of (t_K_element_1 hl hs) (t_M_element_1 (σ := σ) hl hs) rfl hR
  · obtain ⟨hst, hY⟩ := hs8 s hs
    rcases zneg i with hi | ⟨i, hi, rfl⟩
    · rcases hst with ⟨o, m, ha, hb⟩ | ⟨i8, hi8, ha, hb⟩ | ⟨ha, hb⟩
      · exact Pair.of (t_K_element_n hl hs hi) (t_M_element_f (σ := σ) hl hs hb (Or.inl hi)) rfl hR
      · exact Pair.of (t_K_element_n hl hs hi) (t_M_element_w (σ := σ) hl hs hb) rfl hR
      · exact Pair.of (t_K_element_n hl hs hi) (t_M_element_n (σ := σ) hl hs hb) rfl hR
    · rcases hst with ⟨o, m, ha, hb⟩ | ⟨i8, hi8, ha, hb⟩ | ⟨ha, hb⟩
      · have hm := ha.2.2.2.1
        rcases Nat.lt_or_ge i m with him | him
        · exact Pair.of (t_K_element_0 hl hs ha.2.2.1 hm him) (t_M_element_0 (σ := σ) hl hs hb him) (by rw [hY i (by omega)]) hR
        · exact Pair.of (t_K_element_f hl hs ha.2.2.1 hm him hi) (t_M_element_f (σ := σ) hl hs hb (Or.inr ((nq_le (by omega) hi).mpr him))) rfl hR
      · exact Pair.of (t_K_element_f hl hs (m := 0) ha.2.1 (by decide) (Nat.zero_le _) hi) (t_M_element_w (σ := σ) hl hs hb) rfl hR
      · exact Pair.of (t_K_element_f hl hs (m := 0) ha.2.1 (by decide) (Nat.zero_le _) hi) (t_M_element_n (σ := σ) hl hs hb) rfl hR

theorem pr_show {σ : zSt} (hR : Rel σ) {s : Int32} {i : Int32} : Pair mX11_show mX12_show [.int s, .int i] σ := by
  obtain ⟨d, e, b0, h⟩ := id hR
  obtain ⟨hW, hK, hM, hl, hc, hs8, h08, h43, hTr, hg, hz, hwd, hIm⟩ := id h
  have H := h.hd
  have M := h.md
  have hn8 := hW.1.1
  have ha4 := hW.1.2.1
  have hy8 := hW.1.2.2
  obtain ⟨od, pos, ho, hm, hp, hod, hinj⟩ := h.od
  obtain ⟨E7, E8, E9, E50, E51⟩ := h.eqs
  rcases znt s 8 (by decide) with hs | ⟨s, hs, rfl⟩
  · exact Pair.of (t_K_show_1 hl hs) (t_M_show_1 (σ := zuX σ 43 _) hl hs) rfl hR.r
  · by_cases h1 : i = (-1)
    · subst h1
      have hM1 := t_M_show_3 (σ := zuX σ (2 + 2 * s) (upd (upd (upd (zX σ (2 + 2 * s)) 3 (-1)) 1 (-1)) 2 (nI 0))) hl hs
      rw [show zX (zuX σ (2 + 2 * s) (upd (upd (upd (zX σ (2 + 2 * s)) 3 (-1)) 1 (-1)) 2 (nI 0))) 54 = zX σ 54 from zX_n (by omega)] at hM1
      have e57 : zX (zuX (zuX σ (2 + 2 * s) (upd (upd (upd (zX σ (2 + 2 * s)) 3 (-1)) 1 (-1)) 2 (nI 0))) 54 (upd (zX σ 54) s (nI 0))) 57 = zX σ 57 := (zX_n (by decide)).trans (zX_n (by omega))
      rw [show zX (zuX σ (2 + 2 * s) (upd (upd (upd (zX σ (2 + 2 * s)) 3 (-1)) 1 (-1)) 2 (nI 0))) 57 = zX σ 57 from zX_n (by omega)] at hM1
      exact Pair.of (t_K_show_3 hl hs) hM1 rfl (sh_none h hs rfl)
    · rcases znt i (Hy d) (by omega) with hi | ⟨i, hi, rfl⟩
      · exact Pair.of (t_K_show_2 hl H hs h1 hi) (t_M_show_2 (σ := zuX σ 43 _) hl M hs h1 hi) rfl hR.r
      · obtain ⟨q, hq, hw, hy⟩ := h.wy hi
        have hM1 := t_M_show_0 (σ := zuX σ (2 + 2 * s) (upd (upd (upd (zX σ (2 + 2 * s)) 3 (nI i)) 1 (-1)) 2 (nI 0))) hl (M.x (by omega)) hs hi
        rw [show zX (zuX σ (2 + 2 * s) (upd (upd (upd (zX σ (2 + 2 * s)) 3 (nI i)) 1 (-1)) 2 (nI 0))) 54 = zX σ 54 from zX_n (by omega)] at hM1
        have e57 : zX (zuX (zuX σ (2 + 2 * s) (upd (upd (upd (zX σ (2 + 2 * s)) 3 (nI i)) 1 (-1)) 2 (nI 0))) 54 (upd (zX σ 54) s (nI 2))) 57 = zX σ 57 := (zX_n (by decide)).trans (zX_n (by omega))
        rw [show zX (zuX σ (2 + 2 * s) (upd (upd (upd (zX σ (2 + 2 * s)) 3 (nI i)) 1 (-1)) 2 (nI 0))) 57 = zX σ 57 from zX_n (by omega)] at hM1
        exact Pair.of (t_K_show_0 hl H hs hi hq) hM1 rfl (sh_way h hs hi rfl)

theorem pr_holds {σ : zSt} (hR : Rel σ) {s : Int32} : Pair mX11_holds mX12_holds [.int s] σ := by
  obtain ⟨d, e, b0, h⟩ := id hR
  obtain ⟨hW, hK, hM, hl, hc, hs8, h08, h43, hTr, hg, hz, hwd, hIm⟩ := id h
  have H := h.hd
  have M := h.md
  have hn8 := hW.1.1
  have ha4 := hW.1.2.1
  have hy8 := hW.1.2.2
  obtain ⟨od, pos, ho, hm, hp, hod, hinj⟩ := h.od
  obtain ⟨E7, E8, E9, E50, E51⟩ := h.eqs
  rcases znt s 8 (by decide) with hs | ⟨s, hs, rfl⟩
  · exact Pair.of (t_K_holds_1 hl hs) (t_M_holds_1 (σ := σ) hl hs) rfl hR
  · obtain ⟨hst, hY⟩ := hs8 s hs
    rcases hst with ⟨o, m, ha, hb⟩ | ⟨i8, hi8, ha, hb⟩ | ⟨ha, hb⟩
    · exact Pair.of (t_K_holds_r hl hs ha) (t_M_holds_r (σ := σ) hl hs hb) rfl hR
    · exact Pair.of (t_K_holds_w hl hs ha.1) (t_M_holds_w (σ := σ) hl hs hb) (by rw [ha.2.2.1, hb.2.1]) hR
    · exact Pair.of (t_K_holds_w hl hs ha.1) (t_M_holds_n (σ := σ) hl hs hb) (by rw [ha.2.2]) hR

theorem pr_copy {σ : zSt} (hR : Rel σ) {s : Int32} {t : Int32} {i : Int32} {j : Int32} {n : Int32} : Pair mX11_copy mX12_copy [.int s, .int t, .int i, .int j, .int n] σ := by
  obtain ⟨d, e, b0, h⟩ := id hR
  obtain ⟨hW, hK, hM, hl, hc, hs8, h08, h43, hTr, hg, hz, hwd, hIm⟩ := id h
  have H := h.hd
  have M := h.md
  have hn8 := hW.1.1
  have ha4 := hW.1.2.1
  have hy8 := hW.1.2.2
  obtain ⟨od, pos, ho, hm, hp, hod, hinj⟩ := h.od
  obtain ⟨E7, E8, E9, E50, E51⟩ := h.eqs
  rcases znt s 8 (by decide) with hs | ⟨s, hs, rfl⟩
  · rcases znt t 8 (by decide) with ht | ⟨t, ht, rfl⟩
    · exact Pair.of (t_K_copy_1a hl hs ht) (t_M_copy_1a (σ := zuX σ 43 _) hl hs) rfl hR.r
    · exact Pair.of (t_K_copy_1b hl hs ht) (t_M_copy_1a (σ := zuX σ 43 _) hl hs) rfl hR.r
  · rcases znt t 8 (by decide) with ht | ⟨t, ht, rfl⟩
    · exact Pair.of (t_K_copy_1c hl hs ht) (t_M_copy_1c (σ := zuX σ 43 _) hl hs ht) rfl hR.r
    · obtain ⟨hst, hY⟩ := hs8 s hs
      obtain ⟨hst2, hY2⟩ := hs8 t ht
      rcases hst with ⟨o, m, ha, hb⟩ | ⟨i8, hi8, ha, hb⟩ | ⟨ha, hb⟩
      · rcases hst2 with ⟨o2, m2, ha2, hb2⟩ | ⟨j8, hj8, ha2, hb2⟩ | ⟨ha2, hb2⟩
        · by_cases hoo : o = o2
          · subst hoo
            have hm := ha.2.2.2.1
            have hm2 := ha2.2.2.2.1
            rcases zneg n with hn | ⟨n, hn, rfl⟩
            · exact Pair.of (t_K_copy_4 hl hs ht ha ha2 hn) (t_M_copy_4 (σ := zuX σ 43 _) hl hs ht hb hb2 hn) rfl hR.r
            · rcases zbad_or i m n hm with hi | ⟨i, hi, rfl⟩
              · rcases hi with hi | ⟨i, rfl, hi3, hi4⟩
                · exact Pair.of (t_K_copy_5a hl hs ht ha ha2 hn (Or.inl hi)) (t_M_copy_5a1 (σ := zuX σ 43 _) hl hs ht hb hb2 hn hi) rfl hR.r
                · exact Pair.of (t_K_copy_5a hl hs ht ha ha2 hn (Or.inr ⟨i, rfl, hi3, hi4⟩)) (t_M_copy_5a2 (σ := zuX σ 43 _) hl hs ht hb hb2 hn hi3 hi4) rfl hR.r
              · rcases zbad_or j m2 n hm2 with hj | ⟨j, hj, rfl⟩
                · rcases hj with hj | ⟨j, rfl, hj3, hj4⟩
                  · exact Pair.of (t_K_copy_5b hl hs ht ha ha2 hn hi (Or.inl hj)) (t_M_copy_5b1 (σ := zuX σ 43 _) hl hs ht hb hb2 hn hi hj) rfl hR.r
                  · exact Pair.of (t_K_copy_5b hl hs ht ha ha2 hn hi (Or.inr ⟨j, rfl, hj3, hj4⟩)) (t_M_copy_5b2 (σ := zuX σ 43 _) hl hs ht hb hb2 hn hi hj3 hj4) rfl hR.r
                · have hM1 := t_M_copy_0 (σ := zuY σ (2 + 2 * t + 1) (va_cpy (zY σ (2 + 2 * s + 1)) (zY σ (2 + 2 * t + 1)) i j n)) hl hs ht hb hb2 hi hj
                  rw [show zY (zuY σ (2 + 2 * t + 1) (va_cpy (zY σ (2 + 2 * s + 1)) (zY σ (2 + 2 * t + 1)) i j n)) 58 = zY σ 58 from zfu_ne (by omega), show zY (zuY σ (2 + 2 * t + 1) (va_cpy (zY σ (2 + 2 * s + 1)) (zY σ (2 + 2 * t + 1)) i j n)) 59 = zY σ 59 from zfu_ne (by omega)] at hM1
                  exact Pair.of (t_K_copy_0 hl hs ht ha ha2 hi hj) hM1 rfl (sh_cpy h hs ht ha ha2 hb2 hY hY2 hi hj)
          · exact Pair.of (t_K_copy_2_rr hl hs ht ha ha2 hoo) (t_M_copy_2_rr (σ := zuX σ 43 _) hl hs ht hb hb2 hoo) rfl hR.r
        · exact Pair.of (t_K_copy_2_rw hl hs ht ha ha2) (t_M_copy_2_rw (σ := zuX σ 43 _) hl hs ht hb hb2) rfl hR.r
        · exact Pair.of (t_K_copy_3_rn hl hs ht ha ha2) (t_M_copy_3_rn (σ := zuX σ 43 _) hl hs ht hb hb2) rfl hR.r
      · rcases hst2 with ⟨o2, m2, ha2, hb2⟩ | ⟨j8, hj8, ha2, hb2⟩ | ⟨ha2, hb2⟩
        · exact Pair.of (t_K_copy_2_wr hl hs ht ha ha2) (t_M_copy_2_wr (σ := zuX σ 43 _) hl hs ht hb hb2) rfl hR.r
        · exact Pair.of (t_K_copy_2_ww hl hs ht ha ha2) (t_M_copy_2_ww (σ := zuX σ 43 _) hl hs ht hb hb2) rfl hR.r
        · exact Pair.of (t_K_copy_2_wn hl hs ht ha ha2) (t_M_copy_2_wn (σ := zuX σ 43 _) hl hs ht hb hb2) rfl hR.r
      · rcases hst2 with ⟨o2, m2, ha2, hb2⟩ | ⟨j8, hj8, ha2, hb2⟩ | ⟨ha2, hb2⟩
        · exact Pair.of (t_K_copy_3_nr hl hs ht ha ha2) (t_M_copy_3_nr (σ := zuX σ 43 _) hl hs ht hb hb2) rfl hR.r
        · exact Pair.of (t_K_copy_2_nw hl hs ht ha ha2) (t_M_copy_2_nw (σ := zuX σ 43 _) hl hs ht hb hb2) rfl hR.r
        · exact Pair.of (t_K_copy_3_nn hl hs ht ha ha2) (t_M_copy_3_nn (σ := zuX σ 43 _) hl hs ht hb hb2) rfl hR.r

theorem pr_says {σ : zSt} (hR : Rel σ) {s : Int32} {k : Int32} : Pair mX11_says mX12_says [.int s, .int k] σ := by
  obtain ⟨d, e, b0, h⟩ := id hR
  obtain ⟨hW, hK, hM, hl, hc, hs8, h08, h43, hTr, hg, hz, hwd, hIm⟩ := id h
  have H := h.hd
  have M := h.md
  have hn8 := hW.1.1
  have ha4 := hW.1.2.1
  have hy8 := hW.1.2.2
  obtain ⟨od, pos, ho, hm, hp, hod, hinj⟩ := h.od
  obtain ⟨E7, E8, E9, E50, E51⟩ := h.eqs
  rcases znt s 8 (by decide) with hs | ⟨s, hs, rfl⟩
  · exact Pair.of (t_K_says_1 hl hs) (t_M_says_1 (σ := zuX σ 43 _) hl hs) rfl hR.r
  · rcases znt k 7 (by decide) with hk | ⟨k, hk, rfl⟩
    · exact Pair.of (t_K_says_1k hl hs hk) (t_M_says_1k (σ := zuX σ 43 _) hl hs hk) rfl hR.r
    · obtain ⟨hst, hY⟩ := hs8 s hs
      rcases hst with ⟨o, m, ha, hb⟩ | ⟨i8, hi8, ha, hb⟩ | ⟨ha, hb⟩
      · exact Pair.of (t_K_says_2 hl hs ha hk) (t_M_says_2 (σ := zuX σ 43 _) hl hs hb hk) rfl hR.r
      · obtain ⟨q, hq, hw, hy⟩ := h.wy hi8
        have hk6 := hy.2.2.1
        generalize Hk d i8 = kd at hw hy hk6
        generalize Hp d i8 = pa at hw hy
        rcases (by omega : k = 0 ∨ k = 1 ∨ k = 2 ∨ k = 3 ∨ k = 4 ∨ k = 5 ∨ k = 6) with rfl | rfl | rfl | rfl | rfl | rfl | rfl
        · rcases (by omega : kd = 0 ∨ kd = 1 ∨ kd = 2 ∨ kd = 3 ∨ kd = 4 ∨ kd = 5 ∨ kd = 6) with rfl | rfl | rfl | rfl | rfl | rfl | rfl
          · exact Pair.of (t_K_says_0_0_0 hl H ho hs ha hi8 hq hw) (t_M_says_0_0_0 (σ := σ) hl M hm hp hs hb hi8 hy hg) rfl hR
          · exact Pair.of (t_K_says_0_1_0 hl H ho hs ha hi8 hq hw) (t_M_says_0_1_0 (σ := σ) hl M hm hp hs hb hi8 hy hg) rfl hR
          · exact Pair.of (t_K_says_0_2_0 hl H ho hs ha hi8 hq hw) (t_M_says_0_2_0 (σ := σ) hl M hm hp hs hb hi8 hy hg) rfl hR
          · exact Pair.of (t_K_says_0_3_0 hl H ho hs ha hi8 hq hw) (t_M_says_0_3_0 (σ := σ) hl M hm hp hs hb hi8 hy hg) rfl hR
          · exact Pair.of (t_K_says_0_4_0 hl H ho hs ha hi8 hq hw) (t_M_says_0_4_0 (σ := σ) hl M hm hp hs hb hi8 hy hg) rfl hR
          · exact Pair.of (t_K_says_0_5_0 hl H ho hs ha hi8 hq hw) (t_M_says_0_5_0 (σ := σ) hl M hm hp hs hb hi8 hy hg) rfl hR
          · exact Pair.of (t_K_says_0_6_0 hl H ho hs ha hi8 hq hw) (t_M_says_0_6_0 (σ := σ) hl M hm hp hs hb hi8 hy hg) rfl hR
        · rcases (by omega : kd = 0 ∨ kd = 1 ∨ kd = 2 ∨ kd = 3 ∨ kd = 4 ∨ kd = 5 ∨ kd = 6) with rfl | rfl | rfl | rfl | rfl | rfl | rfl
          · exact Pair.of (t_K_says_0_0_1 hl H ho hs ha hi8 hq hw) (t_M_says_0_0_1 (σ := zuX σ 43 _) hl M hm hp hs hb hi8 hy hg) rfl hR.r
          · exact Pair.of (t_K_says_0_1_1 hl H ho hs ha hi8 hq hw) (t_M_says_0_1_1 (σ := σ) hl M hm hp hs hb hi8 hy hg) rfl hR
          · exact Pair.of (t_K_says_0_2_1 hl H ho hs ha hi8 hq hw) (t_M_says_0_2_1 (σ := σ) hl M hm hp hs hb hi8 hy hg) rfl hR
          · exact Pair.of (t_K_says_0_3_1 hl H ho hs ha hi8 hq hw) (t_M_says_0_3_1 (σ := zuX σ 43 _) hl M hm hp hs hb hi8 hy hg) rfl hR.r
          · exact Pair.of (t_K_says_0_4_1 hl H ho hs ha hi8 hq hw) (t_M_says_0_4_1 (σ := zuX σ 43 _) hl M hm hp hs hb hi8 hy hg) rfl hR.r
          · exact Pair.of (t_K_says_0_5_1 hl H ho hs ha hi8 hq hw) (t_M_says_0_5_1 (σ := zuX σ 43 _) hl M hm hp hs hb hi8 hy hg) rfl hR.r
          · exact Pair.of (t_K_says_0_6_1 hl H ho hs ha hi8 hq hw) (t_M_says_0_6_1 (σ := zuX σ 43 _) hl M hm hp hs hb hi8 hy hg) rfl hR.r
        · rcases (by omega : kd = 0 ∨ kd = 1 ∨ kd = 2 ∨ kd = 3 ∨ kd = 4 ∨ kd = 5 ∨ kd = 6) with rfl | rfl | rfl | rfl | rfl | rfl | rfl
          · exact Pair.of (t_K_says_0_0_2 hl H ho hs ha hi8 hq hw) (t_M_says_0_0_2 (σ := zuX σ 43 _) hl M hm hp hs hb hi8 hy hg) rfl hR.r
          · exact Pair.of (t_K_says_0_1_2 hl H ho hs ha hi8 hq hw) (t_M_says_0_1_2 (σ := zuX σ 43 _) hl M hm hp hs hb hi8 hy hg) rfl hR.r
          · exact Pair.of (t_K_says_0_2_2 hl H ho hs ha hi8 hq hw) (t_M_says_0_2_2 (σ := σ) hl M hm hp hs hb hi8 hy hg) rfl hR
          · exact Pair.of (t_K_says_0_3_2 hl H ho hs ha hi8 hq hw) (t_M_says_0_3_2 (σ := zuX σ 43 _) hl M hm hp hs hb hi8 hy hg) rfl hR.r
          · exact Pair.of (t_K_says_0_4_2 hl H ho hs ha hi8 hq hw) (t_M_says_0_4_2 (σ := zuX σ 43 _) hl M hm hp hs hb hi8 hy hg) rfl hR.r
          · exact Pair.of (t_K_says_0_5_2 hl H ho hs ha hi8 hq hw) (t_M_says_0_5_2 (σ := zuX σ 43 _) hl M hm hp hs hb hi8 hy hg) rfl hR.r
          · exact Pair.of (t_K_says_0_6_2 hl H ho hs ha hi8 hq hw) (t_M_says_0_6_2 (σ := zuX σ 43 _) hl M hm hp hs hb hi8 hy hg) rfl hR.r
        · rcases (by omega : kd = 0 ∨ kd = 1 ∨ kd = 2 ∨ kd = 3 ∨ kd = 4 ∨ kd = 5 ∨ kd = 6) with rfl | rfl | rfl | rfl | rfl | rfl | rfl
          · exact Pair.of (t_K_says_0_0_3 hl H ho hs ha hi8 hq hw) (t_M_says_0_0_3 (σ := zuX σ 43 _) hl M hm hp hs hb hi8 hy hg) rfl hR.r
          · exact Pair.of (t_K_says_0_1_3 hl H ho hs ha hi8 hq hw) (t_M_says_0_1_3 (σ := zuX σ 43 _) hl M hm hp hs hb hi8 hy hg) rfl hR.r
          · exact Pair.of (t_K_says_0_2_3 hl H ho hs ha hi8 hq hw) (t_M_says_0_2_3 (σ := zuX σ 43 _) hl M hm hp hs hb hi8 hy hg) rfl hR.r
          · exact Pair.of (t_K_says_0_3_3 hl H ho hs ha hi8 hq hw) (t_M_says_0_3_3 (σ := σ) hl M hm hp hs hb hi8 hy hg) rfl hR
          · exact Pair.of (t_K_says_0_4_3 hl H ho hs ha hi8 hq hw) (t_M_says_0_4_3 (σ := zuX σ 43 _) hl M hm hp hs hb hi8 hy hg) rfl hR.r
          · exact Pair.of (t_K_says_0_5_3 hl H ho hs ha hi8 hq hw) (t_M_says_0_5_3 (σ := zuX σ 43 _) hl M hm hp hs hb hi8 hy hg) rfl hR.r
          · exact Pair.of (t_K_says_0_6_3 hl H ho hs ha hi8 hq hw) (t_M_says_0_6_3 (σ := zuX σ 43 _) hl M hm hp hs hb hi8 hy hg) rfl hR.r
        · rcases (by omega : kd = 0 ∨ kd = 1 ∨ kd = 2 ∨ kd = 3 ∨ kd = 4 ∨ kd = 5 ∨ kd = 6) with rfl | rfl | rfl | rfl | rfl | rfl | rfl
          · exact Pair.of (t_K_says_0_0_4 hl H ho hs ha hi8 hq hw) (t_M_says_0_0_4 (σ := zuX σ 43 _) hl M hm hp hs hb hi8 hy hg) rfl hR.r
          · exact Pair.of (t_K_says_0_1_4 hl H ho hs ha hi8 hq hw) (t_M_says_0_1_4 (σ := zuX σ 43 _) hl M hm hp hs hb hi8 hy hg) rfl hR.r
          · exact Pair.of (t_K_says_0_2_4 hl H ho hs ha hi8 hq hw) (t_M_says_0_2_4 (σ := zuX σ 43 _) hl M hm hp hs hb hi8 hy hg) rfl hR.r
          · exact Pair.of (t_K_says_0_3_4 hl H ho hs ha hi8 hq hw) (t_M_says_0_3_4 (σ := zuX σ 43 _) hl M hm hp hs hb hi8 hy hg) rfl hR.r
          · exact Pair.of (t_K_says_0_4_4 hl H ho hs ha hi8 hq hw) (t_M_says_0_4_4 (σ := σ) hl M hm hp hs hb hi8 hy hg) (by rw [E7]) hR
          · exact Pair.of (t_K_says_0_5_4 hl H ho hs ha hi8 hq hw) (t_M_says_0_5_4 (σ := zuX σ 43 _) hl M hm hp hs hb hi8 hy hg) rfl hR.r
          · exact Pair.of (t_K_says_0_6_4 hl H ho hs ha hi8 hq hw) (t_M_says_0_6_4 (σ := zuX σ 43 _) hl M hm hp hs hb hi8 hy hg) rfl hR.r
        · rcases (by omega : kd = 0 ∨ kd = 1 ∨ kd = 2 ∨ kd = 3 ∨ kd = 4 ∨ kd = 5 ∨ kd = 6) with rfl | rfl | rfl | rfl | rfl | rfl | rfl
          · exact Pair.of (t_K_says_0_0_5 hl H ho hs ha hi8 hq hw) (t_M_says_0_0_5 (σ := zuX σ 43 _) hl M hm hp hs hb hi8 hy hg) rfl hR.r
          · exact Pair.of (t_K_says_0_1_5 hl H ho hs ha hi8 hq hw) (t_M_says_0_1_5 (σ := zuX σ 43 _) hl M hm hp hs hb hi8 hy hg) rfl hR.r
          · exact Pair.of (t_K_says_0_2_5 hl H ho hs ha hi8 hq hw) (t_M_says_0_2_5 (σ := zuX σ 43 _) hl M hm hp hs hb hi8 hy hg) rfl hR.r
          · exact Pair.of (t_K_says_0_3_5 hl H ho hs ha hi8 hq hw) (t_M_says_0_3_5 (σ := zuX σ 43 _) hl M hm hp hs hb hi8 hy hg) rfl hR.r
          · exact Pair.of (t_K_says_0_4_5 hl H ho hs ha hi8 hq hw) (t_M_says_0_4_5 (σ := zuX σ 43 _) hl M hm hp hs hb hi8 hy hg) rfl hR.r
          · exact Pair.of (t_K_says_0_5_5 hl H ho hs ha hi8 hq hw) (t_M_says_0_5_5 (σ := zuX σ 25 _) hl M hm hp hs hb hi8 hy hg) (congrArg (fun X => Value.int (gI (fun c => cn X c 5) (Hn d))) E7) (hR.u rfl)
          · exact Pair.of (t_K_says_0_6_5 hl H ho hs ha hi8 hq hw) (t_M_says_0_6_5 (σ := zuX σ 25 _) hl M hm hp hs hb hi8 hy hg) (congrArg (fun X => Value.int (gI (fun c => cn X c 5) (Hn d))) E7) (hR.u rfl)
        · rcases (by omega : kd = 0 ∨ kd = 1 ∨ kd = 2 ∨ kd = 3 ∨ kd = 4 ∨ kd = 5 ∨ kd = 6) with rfl | rfl | rfl | rfl | rfl | rfl | rfl
          · exact Pair.of (t_K_says_0_0_6 hl H ho hs ha hi8 hq hw) (t_M_says_0_0_6 (σ := zuX σ 43 _) hl M hm hp hs hb hi8 hy hg) rfl hR.r
          · exact Pair.of (t_K_says_0_1_6 hl H ho hs ha hi8 hq hw) (t_M_says_0_1_6 (σ := zuX σ 43 _) hl M hm hp hs hb hi8 hy hg) rfl hR.r
          · exact Pair.of (t_K_says_0_2_6 hl H ho hs ha hi8 hq hw) (t_M_says_0_2_6 (σ := zuX σ 43 _) hl M hm hp hs hb hi8 hy hg) rfl hR.r
          · exact Pair.of (t_K_says_0_3_6 hl H ho hs ha hi8 hq hw) (t_M_says_0_3_6 (σ := zuX σ 43 _) hl M hm hp hs hb hi8 hy hg) rfl hR.r
          · exact Pair.of (t_K_says_0_4_6 hl H ho hs ha hi8 hq hw) (t_M_says_0_4_6 (σ := zuX σ 43 _) hl M hm hp hs hb hi8 hy hg) rfl hR.r
          · exact Pair.of (t_K_says_0_5_6 hl H ho hs ha hi8 hq hw) (t_M_says_0_5_6 (σ := zuX σ 43 _) hl M hm hp hs hb hi8 hy hg) rfl hR.r
          · have e66 : gI (fun c => sm (fun b => shW (zX σ 21) (zSc σ) (zLk σ) 5 pa b c) (Ha d)) (Hn d) = gI (mtf (zX σ 47) (zX σ 48) (zX σ 49) (zX σ 50) true 5 pa od pos (Ha d)) (Hn d) := by rw [E7, E8, E9]; rfl
            have e67 : gI (mtf (zX σ 47) (zX σ 48) (zX σ 49) (zX σ 50) true 6 pa od pos (Ha d)) (Hn d) = gI (tf (zX σ 21) (zSc σ) (zLk σ) (zDr σ) true 6 pa od (Ha d)) (Hn d) := h.gE hp hod hinj
            have e68 : (if gI (mtf (zX σ 47) (zX σ 48) (zX σ 49) (zX σ 50) true 6 pa od pos (Ha d)) (Hn d) = gI (mtf (zX σ 47) (zX σ 48) (zX σ 49) (zX σ 50) true 5 pa od pos (Ha d)) (Hn d) then nI 0 else nI 1) = (if gI (fun c => sm (fun b => shW (zX σ 21) (zSc σ) (zLk σ) 5 pa b c) (Ha d)) (Hn d) = gI (tf (zX σ 21) (zSc σ) (zLk σ) (zDr σ) true 6 pa od (Ha d)) (Hn d) then nI 0 else nI 1) := by rw [e67, e66]; exact if_sym
            exact Pair.of (t_K_says_0_6_6 hl H ho hs ha hi8 hq hw) (t_M_says_0_6_6 (σ := zuX σ 25 _) hl M hm hp hs hb hi8 hy hg) (i_e e68) (hR.u rfl)
      · exact Pair.of (t_K_says_3 hl H hs ha hk) (t_M_says_3 (σ := zuX σ 43 _) hl hs hb hk) rfl hR.r
