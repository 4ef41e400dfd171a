/-! what class and model have in common between two calls -/
/-- a shelf of both sides; y ways -/
def ShR (σ : zSt) (y s : Nat) : Prop := ((∃ o m, zRw σ (2 + 2 * s) o m ∧ zMr σ s o m) ∨ (∃ i, i < y ∧ zWa σ (2 + 2 * s) i ∧ zMa σ s i) ∨ (zNo σ (2 + 2 * s) ∧ zMn σ s)) ∧ ∀ i, i < 160 → zY σ (2 + 2 * s + 1) i = zY σ 58 (s * 160 + i)
/-- an image is kept or not -/
def ImR (σ : zSt) (e : HD) (b : Nat) : Prop := DZ σ 27 ∧ zX σ 0 7 = nI b ∧ zX σ 45 32 = nI b ∧ b ≤ 1 ∧ (b = 1 → HW e ∧ KH σ 27 e ∧ MK σ 63 e)
/-- the bodies' numbers -/
def TrR (σ : zSt) : Prop := zX σ 19 = zX σ 65 ∧ ∃ r, r < 2 ^ 31 ∧ zX σ 18 1 = nI r ∧ zX σ 45 31 = nI r
def WdR (σ : zSt) : Prop := ∀ j, j < 26 → zX σ 60 j = nI (wds j)
def RR (σ : zSt) (y : Nat) (e : HD) (b : Nat) : Prop := Lay σ ∧ zCl σ ∧ (∀ s, s < 8 → ShR σ y s) ∧ zX σ 0 8 = zX σ 45 4 ∧ zX σ 43 = zX σ 46 ∧ TrR σ ∧ zX σ 45 28 = (-1) ∧ DZ σ 35 ∧ WdR σ ∧ ImR σ e b
def RelD (σ : zSt) (d e : HD) (b : Nat) : Prop := HW d ∧ KH σ 20 d ∧ MH σ d ∧ RR σ (Hy d) e b
def Rel (σ : zSt) : Prop := ∃ d e b, RelD σ d e b
/-- both sides answer the same and go on together -/
def zTyp (K : zM) (v : Value) : Bool := match K.2.2.2.1, v with
  | some .long, .long _ => true
  | some .long, _ => false
  | _, .int _ => true
  | _, _ => false
def Pair (K M : zM) (as : List Value) (σ : zSt) : Prop := ∃ v, zTyp K v = true ∧ Ct K (.ref 0 :: as) σ (fun r1 τ1 => r1 = some v ∧ (45 < zN τ1 ∧ zK τ1 45 = 12) ∧ Ct M (.ref 45 :: as) τ1 (fun r2 τ2 => r2 = some v ∧ Rel τ2))
theorem L45 {σ : zSt} (h : Lay σ) : 45 < zN σ ∧ zK σ 45 = 12 := ⟨h.n (by decide), h.k (k := 45) (by decide)⟩
theorem Pair.oq {K M : zM} {as : List Value} {σ σ1 τ : zSt} {v v' : Value} (k : Dt K (.ref 0 :: as) σ (some v) σ1) (m : Dt M (.ref 45 :: as) σ1 (some v') τ) (e : v' = v) (R : Rel τ) (hl : 45 < zN σ1 ∧ zK σ1 45 = 12) (ht : zTyp K v = true := by exact rfl) : Pair K M as σ := ⟨v, ht, k.ct ⟨rfl, hl, m.ct ⟨by rw [e], R⟩⟩⟩
theorem Pair.of {K M : zM} {as : List Value} {σ σ1 τ : zSt} {v v' : Value} (k : Dt K (.ref 0 :: as) σ (some v) σ1) (m : Dt M (.ref 45 :: as) σ1 (some v') τ) (e : v' = v) (R : Rel τ) (hl : Lay σ := by assumption) (hn : zN σ1 = zN σ ∧ zK σ1 = zK σ := by exact ⟨rfl, rfl⟩) (ht : zTyp K v = true := by exact rfl) : Pair K M as σ := Pair.oq k m e R (by rw [hn.1, hn.2]; exact L45 hl) ht
/-- places that may change while the rest stays -/
def hsX (k : Nat) : Bool := ([0, 20, 21, 22, 23, 25, 26, 34, 35, 36, 37, 38, 39, 40, 41, 42, 43, 44, 45, 46, 47, 48, 49, 50, 51, 52, 53, 61, 62, 64] : List Nat).contains k
theorem hsX_hi {k : Nat} (h : 65 ≤ k) : hsX k = false := by
  cases hb : hsX k with
  | false => rfl
  | true =>
    unfold hsX at hb
    simp at hb
    omega
theorem hsX_sh {s : Nat} (h : s < 8) : hsX (2 + 2 * s) = false := by
  have : s = 0 ∨ s = 1 ∨ s = 2 ∨ s = 3 ∨ s = 4 ∨ s = 5 ∨ s = 6 ∨ s = 7 := by omega
  rcases this with rfl | rfl | rfl | rfl | rfl | rfl | rfl | rfl <;> rfl
def gF (σ τ : zSt) : Prop := zN σ ≤ zN τ ∧ (∀ k, k < zN σ → zK τ k = zK σ k ∧ (hsX k = false → zX τ k = zX σ k) ∧ (k < 34 ∨ 42 < k → k ≠ 59 → zY τ k = zY σ k) ∧ (k ≠ 24 → k ≠ 39 → zR τ k = zR σ k)) ∧ (∀ f, 5 ≤ f → ¬ (21 ≤ f ∧ f ≤ 25) → zX τ 45 f = zX σ 45 f) ∧ zX τ 0 7 = zX σ 0 7
theorem gF.rf {σ : zSt} : gF σ σ := ⟨Nat.le_refl _, fun _ _ => ⟨rfl, fun _ => rfl, fun _ _ => rfl, fun _ _ => rfl⟩, fun _ _ _ => rfl, rfl⟩
theorem gF.tr {σ τ υ : zSt} (h : gF σ τ) (g : gF τ υ) : gF σ υ :=
  ⟨Nat.le_trans h.1 g.1, fun k hk => by
    obtain ⟨a1, a2, a3, a4⟩ := h.2.1 k hk
    obtain ⟨b1, b2, b3, b4⟩ := g.2.1 k (Nat.lt_of_lt_of_le hk h.1)
    exact ⟨b1.trans a1, fun q => (b2 q).trans (a2 q), fun q q2 => (b3 q q2).trans (a3 q q2), fun q q2 => (b4 q q2).trans (a4 q q2)⟩, fun f h1 h2 => (g.2.2.1 f h1 h2).trans (h.2.2.1 f h1 h2), g.2.2.2.trans h.2.2.2⟩
theorem gF.u {σ : zSt} {k : Nat} {f : Nat → Int32} (hk : hsX k = true) (h45 : k ≠ 45) (h0 : k ≠ 0) : gF σ (zuX σ k f) :=
  ⟨Nat.le_refl _, fun j _ => ⟨rfl, fun hj => zX_n (fun e => by subst e; rw [hj] at hk; cases hk), fun _ _ => rfl, fun _ _ => rfl⟩, fun _ _ _ => by rw [zX_n (Ne.symm h45)], by rw [zX_n (Ne.symm h0)]⟩
theorem gF.u0 {σ : zSt} {v : Int32} : gF σ (zuX σ 0 (upd (zX σ 0) 8 v)) :=
  ⟨Nat.le_refl _, fun j _ => ⟨rfl, fun hj => zX_n (fun e => by subst e; cases hj), fun _ _ => rfl, fun _ _ => rfl⟩, fun _ _ _ => by rw [zX_n (by decide)], by rw [zX_self, upd_ne (by decide)]⟩
theorem gF.c {σ : zSt} {g : Nat → Int32} (h : ∀ f, 5 ≤ f → ¬ (21 ≤ f ∧ f ≤ 25) → g f = zX σ 45 f) : gF σ (zuX σ 45 g) :=
  ⟨Nat.le_refl _, fun j _ => ⟨rfl, fun hj => zX_n (fun e => by subst e; cases hj), fun _ _ => rfl, fun _ _ => rfl⟩, fun f h1 h2 => by rw [zX_self]; exact h f h1 h2, by rw [zX_n (by decide)]⟩
theorem gF.c1 {σ : zSt} {i : Nat} {v : Int32} (hi : i < 5) : gF σ (zuX σ 45 (upd (zX σ 45) i v)) := gF.c fun f h1 _ => upd_ne (by omega)
theorem gF.y {σ : zSt} {f : Nat → Int64} : gF σ (zuY σ 59 f) :=
  ⟨Nat.le_refl _, fun j _ => ⟨rfl, fun _ => rfl, fun _ hj => zfu_ne hj, fun _ _ => rfl⟩, fun _ _ _ => rfl, rfl⟩
theorem gF.r {σ : zSt} {k : Nat} {f : Nat → Option Nat} (hk : k = 24 ∨ k = 39) : gF σ (zuR σ k f) :=
  ⟨Nat.le_refl _, fun j _ => ⟨rfl, fun _ => rfl, fun _ _ => rfl, fun h1 h2 => zfu_ne (by omega)⟩, fun _ _ _ => rfl, rfl⟩
theorem gF.n {σ : zSt} {ci kd num pa : Nat} (h66 : 66 ≤ zN σ) : gF σ (wS σ ci kd num pa) := by
  have hne : ∀ k, k < zN σ → k ≠ zN σ := fun k h e => by omega
  refine ⟨Nat.le_succ _, fun j hj => ?_, fun f _ _ => ?_, ?_⟩
  · obtain ⟨a1, a2, a3, a4, a5⟩ := wS_o (ci := ci) (kd := kd) (num := num) (pa := pa) (hne j hj)
    exact ⟨a1, fun _ => a3, fun _ _ => a4, fun _ _ => a5⟩
  · rw [(wS_o (hne 45 (by omega))).2.2.1]
  · rw [(wS_o (hne 0 (by omega))).2.2.1]
theorem gF.fr {σ τ : zSt} (h : zFr 34 42 (some 39) σ τ) (h66 : 66 ≤ zN σ) : gF σ τ := by
  refine ⟨h.1, fun k hk => ?_, fun f _ _ => ?_, ?_⟩
  · obtain ⟨a1, a2, a3, a4⟩ := h.2 k hk
    refine ⟨a1, fun hq => ?_, fun hq _ => (a3 hq).2, fun _ q => a4 (fun e => by cases e; exact q rfl)⟩
    by_cases h4 : k < 34 ∨ 42 < k
    · exact (a3 h4).1
    · exfalso
      have : k = 34 ∨ k = 35 ∨ k = 36 ∨ k = 37 ∨ k = 38 ∨ k = 39 ∨ k = 40 ∨ k = 41 ∨ k = 42 := by omega
      rcases this with rfl | rfl | rfl | rfl | rfl | rfl | rfl | rfl | rfl <;> cases hq
  · rw [((h.2 45 (by omega)).2.2.1 (by omega)).1]
  · rw [((h.2 0 (by omega)).2.2.1 (by omega)).1]
theorem zWo.g {σ τ : zSt} {q kd pa num : Nat} (h : zWo σ q kd pa num) (hf : gF σ τ) : zWo τ q kd pa num := by
  obtain ⟨h1, h2, h3, h4, h5, h6, h7, h8, h9, h10⟩ := h
  obtain ⟨a1, a2, a3, a4⟩ := hf.2.1 q h1
  have e := a2 (hsX_hi (by omega))
  exact ⟨Nat.lt_of_lt_of_le h1 hf.1, a1.trans h2, by rw [a4 (by omega) (by omega)]; exact h3, by rw [e]; exact h4, by rw [e]; exact h5, by rw [e]; exact h6, h7, h8, h9, h10⟩
theorem DZ.e {σ τ : zSt} {h : Nat} (z : DZ σ h) (e1 : zX τ (h + 1) = zX σ (h + 1)) (e2 : zX τ (h + 2) = zX σ (h + 2)) (e3 : zX τ (h + 3) = zX σ (h + 3)) (e4 : zR τ (h + 4) = zR σ (h + 4)) : DZ τ h := by
  unfold DZ
  rw [e1, e2, e3, e4]
  exact z
theorem ShR.g {σ τ : zSt} {y y' s : Nat} (h : ShR σ y s) (hs : s < 8) (hy : y ≤ y') (hl : Lay σ) (hf : gF σ τ) : ShR τ y' s := by
  have h66 := hl.1
  obtain ⟨-, a2, a3, -⟩ := hf.2.1 (2 + 2 * s) (by omega)
  have e := a2 (hsX_sh hs)
  have eY := (hf.2.1 (2 + 2 * s + 1) (by omega)).2.2.1 (by omega) (by omega)
  have e8 := (hf.2.1 58 (by omega)).2.2.1 (by omega) (by omega)
  have e4 := (hf.2.1 54 (by omega)).2.1 rfl
  have e5 := (hf.2.1 55 (by omega)).2.1 rfl
  have e6 := (hf.2.1 56 (by omega)).2.1 rfl
  have e7 := (hf.2.1 57 (by omega)).2.1 rfl
  unfold ShR zRw zMr zWa zMa zNo zMn at h ⊢
  rw [e, eY, e8, e4, e5, e6, e7]
  obtain ⟨h1, h2⟩ := h
  refine ⟨?_, h2⟩
  rcases h1 with h1 | ⟨i, h3, h4⟩ | h1
  · exact Or.inl h1
  · exact Or.inr (Or.inl ⟨i, by omega, h4⟩)
  · exact Or.inr (Or.inr h1)
theorem KH.g {σ τ : zSt} {h : Nat} {d : HD} (hK : KH σ h d) (hf : gF σ τ) (e0 : zX τ h = zX σ h) (e1 : zX τ (h + 1) = zX σ (h + 1)) (e2 : zX τ (h + 2) = zX σ (h + 2)) (e3 : zX τ (h + 3) = zX σ (h + 3)) (e4 : zR τ (h + 4) = zR σ (h + 4)) : KH τ h d := hK.of e0 e1 e2 e3 e4 fun _ _ _ _ hq => hq.g hf
theorem ImR.g {σ τ : zSt} {e : HD} {b : Nat} (h : ImR σ e b) (hl : Lay σ) (hf : gF σ τ) : ImR τ e b := by
  have h66 := hl.1
  have X := fun k (hk : k < 66) => (hf.2.1 k (by omega)).2.1
  have R := fun k (hk : k < 66) => (hf.2.1 k (by omega)).2.2.2
  obtain ⟨h1, h2, h3, h4, h5⟩ := h
  refine ⟨h1.e (X 28 (by decide) rfl) (X 29 (by decide) rfl) (X 30 (by decide) rfl) (R 31 (by decide) (by decide) (by decide)), hf.2.2.2.trans h2, (hf.2.2.1 32 (by decide) (by decide)).trans h3, h4, fun hb => ?_⟩
  obtain ⟨g1, g2, g3⟩ := h5 hb
  refine ⟨g1, g2.g hf (X 27 (by decide) rfl) (X 28 (by decide) rfl) (X 29 (by decide) rfl) (X 30 (by decide) rfl) (R 31 (by decide) (by decide) (by decide)), ?_⟩
  unfold MK
  rw [X 63 (by decide) rfl]
  exact g3
theorem RR.g {σ τ : zSt} {y y' : Nat} {e : HD} {b : Nat} (h : RR σ y e b) (hy : y ≤ y') (hf : gF σ τ) (hl : Lay τ) (hc : zCl τ) (h08 : zX τ 0 8 = zX τ 45 4) (h43 : zX τ 43 = zX τ 46) (hz : DZ τ 35) : RR τ y' e b := by
  obtain ⟨l0, c0, s0, -, -, t0, g0, -, w0, i0⟩ := h
  have h66 := l0.1
  have X := fun k (hk : k < 66) => (hf.2.1 k (by omega)).2.1
  refine ⟨hl, hc, fun s hs => (s0 s hs).g hs hy l0 hf, h08, h43, ?_, (hf.2.2.1 28 (by decide) (by decide)).trans g0, hz, ?_, i0.g l0 hf⟩
  · obtain ⟨t1, r, t2, t3, t4⟩ := t0
    unfold TrR
    rw [X 19 (by decide) rfl, X 65 (by decide) rfl, X 18 (by decide) rfl, hf.2.2.1 31 (by decide) (by decide)]
    exact ⟨t1, r, t2, t3, t4⟩
  · unfold WdR
    rw [show zX τ 60 = zX σ 60 from X 60 (by decide) rfl]
    exact w0
/-- the class's house, told anew -/
theorem KH.set {σ τ : zSt} {d : HD} {n a : Nat} {z : Int32} {F A O : Nat → Int32} (hK : KH σ 20 d) (hf : gF σ τ) (h2 : zX τ 20 2 = nI n) (h5 : zX τ 20 5 = nI a) (h7 : zX τ 20 7 = zX σ 20 7) (h8 : zX τ 20 8 = z) (e1 : zX τ 21 = F) (e2 : zX τ 22 = A) (e3 : zX τ 23 = O) (e4 : zR τ 24 = zR σ 24) : KH τ 20 ((n, a, Hy d, z), (F, A, O), Hk d, Hp d) := by
  obtain ⟨⟨a1, a2, a3, a4⟩, ⟨b1, b2, b3⟩, c1, c2⟩ := hK
  refine ⟨⟨h2, h5, h7.trans a3, h8⟩, ⟨e1, e2, e3⟩, fun w hw => ?_, fun w hw => by rw [e4]; exact c2 w hw⟩
  obtain ⟨q, q1, q2⟩ := c1 w hw
  exact ⟨q, by rw [e4]; exact q1, q2.g hf⟩
theorem MH.set {σ τ : zSt} {d : HD} {n a : Nat} {z : Int32} {F A O : Nat → Int32} (hM : MH σ d) (h0 : zX τ 45 0 = nI n) (h1 : zX τ 45 1 = nI a) (h2 : zX τ 45 2 = zX σ 45 2) (h3 : zX τ 45 3 = z) (e1 : zX τ 47 = F) (e2 : zX τ 48 = fun b => A (b * 3)) (e3 : zX τ 49 = fun b => A (b * 3 + 1)) (e4 : zX τ 50 = fun b => A (b * 3 + 2)) (e5 : zX τ 51 = O) (e6 : zX τ 52 = zX σ 52) (e7 : zX τ 53 = zX σ 53) : MH τ ((n, a, Hy d, z), (F, A, O), Hk d, Hp d) := by
  obtain ⟨⟨a1, a2, a3, a4⟩, -, c⟩ := hM
  exact ⟨⟨h0, h1, h2.trans a3, h3⟩, ⟨e1, e2, e3, e4, e5⟩, fun w hw => by rw [e6, e7]; exact c w hw⟩
/-- scratch -/
theorem RelD.g {σ τ : zSt} {d e : HD} {b : Nat} (h : RelD σ d e b) (hf : gF σ τ) (hl : Lay τ) (hc : zCl τ) (hK : KH τ 20 d) (hM : MH τ d) (h08 : zX τ 0 8 = zX τ 45 4) (h43 : zX τ 43 = zX τ 46) (hz : DZ τ 35) : RelD τ d e b := ⟨h.1, hK, hM, h.2.2.2.g (Nat.le_refl _) hf hl hc h08 h43 hz⟩
def scr (k : Nat) : Bool := ([25, 26, 34, 35, 40, 41, 42, 44, 61, 62, 64] : List Nat).contains k
theorem RelD.u {σ : zSt} {d e : HD} {b k : Nat} {f : Nat → Int32} (h : RelD σ d e b) (hk : scr k = true) : RelD (zuX σ k f) d e b := by
  have hin : k = 25 ∨ k = 26 ∨ k = 34 ∨ k = 35 ∨ k = 40 ∨ k = 41 ∨ k = 42 ∨ k = 44 ∨ k = 61 ∨ k = 62 ∨ k = 64 := by
    unfold scr at hk
    simpa using hk
  obtain ⟨hW, hK, hM, hR⟩ := id h
  obtain ⟨l0, c0, s0, f0, r0, t0, g0, z0, w0, i0⟩ := id hR
  have hg : gF σ (zuX σ k f) := by
    rcases hin with rfl | rfl | rfl | rfl | rfl | rfl | rfl | rfl | rfl | rfl | rfl <;> exact gF.u rfl (by decide) (by decide)
  have n : ∀ j, j ≠ k → zX (zuX σ k f) j = zX σ j := fun j hj => zX_n hj
  refine h.g hg l0 c0 (hK.g hg (n 20 (by omega)) (n 21 (by omega)) (n 22 (by omega)) (n 23 (by omega)) rfl) ?_ (by rw [n 0 (by omega), n 45 (by omega)]; exact f0) (by rw [n 43 (by omega), n 46 (by omega)]; exact r0) (z0.e (n 36 (by omega)) (n 37 (by omega)) (n 38 (by omega)) rfl)
  obtain ⟨⟨a1, a2, a3, a4⟩, ⟨b1, b2, b3, b4, b5⟩, c⟩ := hM
  unfold MH
  rw [n 45 (by omega), n 47 (by omega), n 48 (by omega), n 49 (by omega), n 50 (by omega), n 51 (by omega), n 52 (by omega), n 53 (by omega)]
  exact ⟨⟨a1, a2, a3, a4⟩, ⟨b1, b2, b3, b4, b5⟩, c⟩
theorem Rel.u {σ : zSt} {k : Nat} {f : Nat → Int32} (h : Rel σ) (hk : scr k = true) : Rel (zuX σ k f) := by
  obtain ⟨d, e, b, h⟩ := h
  exact ⟨d, e, b, h.u hk⟩
theorem RelD.y {σ : zSt} {d e : HD} {b : Nat} {f : Nat → Int64} (h : RelD σ d e b) : RelD (zuY σ 59 f) d e b := by
  obtain ⟨hW, hK, hM, hR⟩ := id h
  obtain ⟨l0, c0, s0, f0, r0, t0, g0, z0, w0, i0⟩ := id hR
  exact h.g gF.y l0 c0 (hK.g gF.y rfl rfl rfl rfl rfl) hM f0 r0 z0
/-- both refuse -/
theorem RelD.r {σ : zSt} {d e : HD} {b j : Nat} (h : RelD σ d e b) : RelD (zuX (zuX σ 43 (upd (zX σ 43) j (zX σ 43 j + nI 1))) 46 (upd (zX σ 46) j (zX σ 46 j + nI 1))) d e b := by
  obtain ⟨hW, hK, hM, hR⟩ := id h
  obtain ⟨l0, c0, s0, f0, r0, t0, g0, z0, w0, i0⟩ := id hR
  have hg : gF σ (zuX (zuX σ 43 (upd (zX σ 43) j (zX σ 43 j + nI 1))) 46 (upd (zX σ 46) j (zX σ 46 j + nI 1))) := (gF.u rfl (by decide) (by decide)).tr (gF.u rfl (by decide) (by decide))
  exact h.g hg l0 c0 (hK.g hg rfl rfl rfl rfl rfl) hM f0 (by
    show upd (zX σ 43) j (zX σ 43 j + nI 1) = upd (zX σ 46) j (zX σ 46 j + nI 1)
    rw [r0]) z0
theorem Rel.r {σ : zSt} {j : Nat} (h : Rel σ) : Rel (zuX (zuX σ 43 (upd (zX σ 43) j (zX σ 43 j + nI 1))) 46 (upd (zX σ 46) j (zX σ 46 j + nI 1))) := by
  obtain ⟨d, e, b, h⟩ := h
  exact ⟨d, e, b, h.r⟩
/-- a house told anew on both sides -/
theorem RelD.h {σ τ : zSt} {d d' e : HD} {b : Nat} (h : RelD σ d e b) (hy : Hy d ≤ Hy d') (hf : gF σ τ) (hl : Lay τ) (hc : zCl τ) (hW : HW d') (hK : KH τ 20 d') (hM : MH τ d') (h08 : zX τ 0 8 = zX τ 45 4) (h43 : zX τ 43 = zX τ 46) (hz : DZ τ 35) : Rel τ := ⟨d', e, b, hW, hK, hM, h.2.2.2.g hy hf hl hc h08 h43 hz⟩
/-- what a related store has for the calls' contracts -/
theorem RelD.hd {σ : zSt} {d e : HD} {b : Nat} (h : RelD σ d e b) : zHd σ (Hn d) (Ha d) (Hy d) := ⟨h.2.2.2.1, h.2.1.1.1, h.1.1.1, h.2.1.1.2.1, h.1.1.2.1, h.2.1.1.2.2.1, h.1.1.2.2⟩
theorem RelD.md {σ : zSt} {d e : HD} {b : Nat} (h : RelD σ d e b) : zMd σ (Hn d) (Ha d) (Hy d) := h.2.2.1.md h.2.2.2.1 h.1
theorem RelD.od {σ : zSt} {d e : HD} {b : Nat} (h : RelD σ d e b) : ∃ od pos, zOd σ (Ha d) od ∧ zMo σ (Ha d) od ∧ zPo (Ha d) od pos ∧ (∀ i, i < Ha d → od i < Ha d) ∧ ∀ i j, i < Ha d → j < Ha d → od i = od j → i = j := by
  obtain ⟨od, pos, o1, o2, o3⟩ := h.1.2.2.2.2.2.1
  refine ⟨od, pos, fun i hi => ?_, fun i hi => ?_, o2, fun i hi => (o1 i hi).2, o3⟩
  · rw [show zX σ 23 = HO d from h.2.1.2.1.2.2]; exact o1 i hi
  · rw [show zX σ 51 = HO d from h.2.2.1.2.1.2.2.2.2]; exact o1 i hi
theorem RelD.wy {σ : zSt} {d e : HD} {b i : Nat} (h : RelD σ d e b) (hi : i < Hy d) : ∃ q, zR σ 24 i = some q ∧ zWo σ q (Hk d i) (Hp d i) i ∧ zMy σ i (Hk d i) (Hp d i) := by
  obtain ⟨q, q1, q2⟩ := h.2.1.2.2.1 i hi
  obtain ⟨m1, m2⟩ := h.2.2.1.2.2 i hi
  obtain ⟨w1, w2⟩ := h.1.2.2.2.2.2.2.2 i hi
  exact ⟨q, q1, q2, m1, m2, w1, w2, Nat.lt_of_lt_of_le hi h.1.1.2.2⟩
theorem RelD.eqs {σ : zSt} {d e : HD} {b : Nat} (h : RelD σ d e b) : zX σ 47 = zX σ 21 ∧ zX σ 48 = zSc σ ∧ zX σ 49 = zLk σ ∧ zX σ 50 = zDr σ ∧ zX σ 51 = zX σ 23 := by
  obtain ⟨hW, hK, hM, hR⟩ := h
  obtain ⟨-, ⟨b1, b2, b3⟩, -⟩ := hK
  obtain ⟨-, ⟨c1, c2, c3, c4, c5⟩, -⟩ := hM
  have b2' : zX σ 22 = HA d := b2
  refine ⟨c1.trans b1.symm, ?_, ?_, ?_, c5.trans b3.symm⟩
  · rw [c2]; unfold zSc; rw [b2']
  · rw [c3]; unfold zLk; rw [b2']
  · rw [c4]; unfold zDr; rw [b2']
theorem RelD.sh {σ : zSt} {d e : HD} {b kd pa a c : Nat} (h : RelD σ d e b) (hc : c < Hn d) (ha : a < Ha d) : ∃ x, x < 2 ^ 27 ∧ shW (zX σ 21) (zSc σ) (zLk σ) kd pa a c = nI x := by
  have e1 : zX σ 21 = HF d := h.2.1.2.1.1
  have e2 : zX σ 22 = HA d := h.2.1.2.1.2.1
  unfold zSc zLk
  rw [e1, e2]
  exact shW_ok h.1 hc ha
