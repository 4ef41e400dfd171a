/-! a house's data: what both sides hold -/
/-- counts and seed; comers, askers, order; the ways' kinds and parts -/
abbrev HD : Type := (Nat × Nat × Nat × Int32) × ((Nat → Int32) × (Nat → Int32) × (Nat → Int32)) × (Nat → Nat) × (Nat → Nat)
def Hn (d : HD) : Nat := d.1.1
def Ha (d : HD) : Nat := d.1.2.1
def Hy (d : HD) : Nat := d.1.2.2.1
def Hz (d : HD) : Int32 := d.1.2.2.2
def HF (d : HD) : Nat → Int32 := d.2.1.1
def HA (d : HD) : Nat → Int32 := d.2.1.2.1
def HO (d : HD) : Nat → Int32 := d.2.1.2.2
def Hk (d : HD) : Nat → Nat := d.2.2.1
def Hp (d : HD) : Nat → Nat := d.2.2.2
/-- an order of a askers: each once -/
def HOk (a : Nat) (O : Nat → Int32) (od pos : Nat → Nat) : Prop := (∀ i, i < a → O i = nI (od i) ∧ od i < a) ∧ zPo a od pos ∧ ∀ i j, i < a → j < a → od i = od j → i = j
/-- data that may be -/
def HW (d : HD) : Prop := (Hn d ≤ 8 ∧ Ha d ≤ 4 ∧ Hy d ≤ 8) ∧ (∀ c w, c < Hn d → w < 6 → ∃ x, x ≤ mo w ∧ HF d (c * 6 + w) = nI x) ∧ (∀ j, 48 ≤ j → HF d j = 0) ∧
  (∀ b, b < Ha d → ∃ s l r, s ≤ 3 ∧ l ≤ 9 ∧ r ≤ 10 ∧ HA d (b * 3) = nI s ∧ HA d (b * 3 + 1) = nI l ∧ HA d (b * 3 + 2) = nI r) ∧ (∀ j, 12 ≤ j → HA d j = 0) ∧
  (∃ od pos, HOk (Ha d) (HO d) od pos) ∧ (∀ j, 4 ≤ j → HO d j = 0) ∧ ∀ w, w < Hy d → Hk d w ≤ 6 ∧ Hp d w ≤ 99
/-- a house of the class at place h -/
def KH (σ : zSt) (h : Nat) (d : HD) : Prop := (zX σ h 2 = nI (Hn d) ∧ zX σ h 5 = nI (Ha d) ∧ zX σ h 7 = nI (Hy d) ∧ zX σ h 8 = Hz d) ∧ (zX σ (h + 1) = HF d ∧ zX σ (h + 2) = HA d ∧ zX σ (h + 3) = HO d) ∧
  (∀ w, w < Hy d → ∃ q, zR σ (h + 4) w = some q ∧ zWo σ q (Hk d w) (Hp d w) w) ∧ ∀ w, Hy d ≤ w → zR σ (h + 4) w = none
/-- the model's house -/
def MH (σ : zSt) (d : HD) : Prop := (zX σ 45 0 = nI (Hn d) ∧ zX σ 45 1 = nI (Ha d) ∧ zX σ 45 2 = nI (Hy d) ∧ zX σ 45 3 = Hz d) ∧ (zX σ 47 = HF d ∧ zX σ 48 = (fun b => HA d (b * 3)) ∧ zX σ 49 = (fun b => HA d (b * 3 + 1)) ∧ zX σ 50 = (fun b => HA d (b * 3 + 2)) ∧ zX σ 51 = HO d) ∧
  ∀ w, w < Hy d → zX σ 52 w = nI (Hk d w) ∧ zX σ 53 w = nI (Hp d w)
/-- what the model keeps of it at place k -/
def MK (σ : zSt) (k : Nat) (d : HD) : Prop := (∀ j, j < 48 → zX σ k j = HF d j) ∧ (∀ b, b < 4 → zX σ k (48 + b) = HA d (b * 3) ∧ zX σ k (52 + b) = HA d (b * 3 + 1) ∧ zX σ k (56 + b) = HA d (b * 3 + 2) ∧ zX σ k (60 + b) = HO d b) ∧
  (∀ w, w < Hy d → zX σ k (64 + w) = nI (Hk d w) ∧ zX σ k (72 + w) = nI (Hp d w)) ∧ zX σ k 80 = nI (Hn d) ∧ zX σ k 81 = nI (Ha d) ∧ zX σ k 82 = nI (Hy d) ∧ zX σ k 83 = Hz d
def hC (d : HD) (v : Nat → Int32) : HD := ((Hn d + 1, Ha d, Hy d, Hz d), (va_cpy v (HF d) 0 (Hn d * 6) 6, HA d, HO d), Hk d, Hp d)
def hA (d : HD) (s l r : Int32) : HD := ((Hn d, Ha d + 1, Hy d, Hz d), (HF d, upd (upd (upd (HA d) (Ha d * 3) s) (Ha d * 3 + 1) l) (Ha d * 3 + 2) r, upd (HO d) (Ha d) (nI (Ha d))), Hk d, Hp d)
def hY (d : HD) (kd pa : Nat) : HD := ((Hn d, Ha d, Hy d + 1, Hz d), (HF d, HA d, HO d), (fun w => if w = Hy d then kd else Hk d w), (fun w => if w = Hy d then pa else Hp d w))
def hP (d : HD) (p b : Nat) : HD := ((Hn d, Ha d, Hy d, Hz d), (HF d, HA d, pf p b (HO d)), Hk d, Hp d)
theorem cpy_in {f g : Nat → Int32} {dp n j : Nat} (h : dp ≤ j) (h2 : j < dp + n) : va_cpy f g 0 dp n j = f (j - dp) := by
  simp only [va_cpy]; rw [if_pos ⟨h, h2⟩, Nat.zero_add]
theorem cpy_out {f g : Nat → Int32} {sp dp n j : Nat} (h : ¬ (dp ≤ j ∧ j < dp + n)) : va_cpy f g sp dp n j = g j := by
  simp only [va_cpy]; rw [if_neg h]
theorem cpy_cg {f f' g : Nat → Int32} {dp n : Nat} (h : ∀ j, j < n → f j = f' j) : va_cpy f g 0 dp n = va_cpy f' g 0 dp n := by
  funext j
  simp only [va_cpy]
  by_cases h1 : dp ≤ j ∧ j < dp + n
  · rw [if_pos h1, if_pos h1]; exact h _ (by omega)
  · rw [if_neg h1, if_neg h1]
theorem upd_ne {f : Nat → Int32} {i j : Nat} {v : Int32} (h : j ≠ i) : upd f i v j = f j := if_neg h
theorem upd_self {f : Nat → Int32} {i : Nat} {v : Int32} : upd f i v i = v := if_pos rfl
theorem HW.C {d : HD} {v : Nat → Int32} (h : HW d) (h8 : Hn d < 8) (hv : ∀ j, j < 6 → ∃ x, x ≤ mo j ∧ v j = nI x) : HW (hC d v) := by
  obtain ⟨⟨a1, a2, a3⟩, b1, b2, c1, c2, e1, e2, f1⟩ := h
  refine ⟨⟨h8, a2, a3⟩, fun c w hc hw => ?_, fun j hj => ?_, c1, c2, e1, e2, f1⟩
  · show ∃ x, x ≤ mo w ∧ va_cpy v (HF d) 0 (Hn d * 6) 6 (c * 6 + w) = nI x
    rcases (by have : c < Hn d + 1 := hc; omega : c = Hn d ∨ c < Hn d) with rfl | hc2
    · rw [cpy_in (by omega) (by omega), show Hn d * 6 + w - Hn d * 6 = w by omega]; exact hv w hw
    · rw [cpy_out (by omega)]; exact b1 c w hc2 hw
  · show va_cpy v (HF d) 0 (Hn d * 6) 6 j = 0
    rw [cpy_out (by omega)]; exact b2 j hj
theorem HOk.A {a : Nat} {O : Nat → Int32} {od pos : Nat → Nat} (h : HOk a O od pos) : HOk (a + 1) (upd O a (nI a)) (fun i => if i = a then a else od i) (fun b => if b = a then a else pos b) := by
  obtain ⟨h1, h2, h3⟩ := h
  refine ⟨fun i hi => ?_, fun b hb => ?_, fun i j hi hj e => ?_⟩
  · by_cases hia : i = a
    · subst hia; simp [upd]
    · rw [upd_ne hia]; simp only [if_neg hia]
      have := h1 i (by omega)
      exact ⟨this.1, by omega⟩
  · by_cases hba : b = a
    · subst hba
      refine ⟨by simp, by simp, fun j hj => ?_⟩
      have hj : j < b := by simpa using hj
      simp only [if_neg (show j ≠ b by omega)]
      have := (h1 j hj).2
      omega
    · have hb2 : b < a := by omega
      obtain ⟨g1, g2, g3⟩ := h2 b hb2
      simp only [if_neg hba]
      refine ⟨by omega, ?_, fun j hj => ?_⟩
      · rw [if_neg (by omega)]; exact g2
      · rw [if_neg (by omega)]; exact g3 j hj
  · simp only at e
    have hoi : i < a → od i < a := fun h => (h1 i h).2
    have hoj : j < a → od j < a := fun h => (h1 j h).2
    by_cases hi2 : i = a
    · by_cases hj2 : j = a
      · omega
      · rw [if_pos hi2, if_neg hj2] at e
        have := hoj (by omega); omega
    · by_cases hj2 : j = a
      · rw [if_neg hi2, if_pos hj2] at e
        have := hoi (by omega); omega
      · rw [if_neg hi2, if_neg hj2] at e
        exact h3 i j (by omega) (by omega) e
theorem HW.A {d : HD} {s l r : Nat} (h : HW d) (h4 : Ha d < 4) (hs : s ≤ 3) (hl : l ≤ 9) (hr : r ≤ 10) : HW (hA d (nI s) (nI l) (nI r)) := by
  obtain ⟨⟨a1, a2, a3⟩, b1, b2, c1, c2, ⟨od, pos, e1⟩, e2, f1⟩ := h
  refine ⟨⟨a1, h4, a3⟩, b1, b2, fun b hb => ?_, fun j hj => ?_, ⟨_, _, e1.A⟩, fun j hj => ?_, f1⟩
  · show ∃ s' l' r', s' ≤ 3 ∧ l' ≤ 9 ∧ r' ≤ 10 ∧ upd (upd (upd (HA d) (Ha d * 3) (nI s)) (Ha d * 3 + 1) (nI l)) (Ha d * 3 + 2) (nI r) (b * 3) = nI s' ∧ upd (upd (upd (HA d) (Ha d * 3) (nI s)) (Ha d * 3 + 1) (nI l)) (Ha d * 3 + 2) (nI r) (b * 3 + 1) = nI l' ∧ upd (upd (upd (HA d) (Ha d * 3) (nI s)) (Ha d * 3 + 1) (nI l)) (Ha d * 3 + 2) (nI r) (b * 3 + 2) = nI r'
    rcases (by have : b < Ha d + 1 := hb; omega : b = Ha d ∨ b < Ha d) with rfl | hb2
    · refine ⟨s, l, r, hs, hl, hr, ?_, ?_, ?_⟩
      · rw [upd_ne (by omega), upd_ne (by omega), upd_self]
      · rw [upd_ne (by omega), upd_self]
      · rw [upd_self]
    · rw [upd_ne (by omega), upd_ne (by omega), upd_ne (by omega), upd_ne (by omega), upd_ne (by omega), upd_ne (by omega), upd_ne (by omega), upd_ne (by omega), upd_ne (by omega)]
      exact c1 b hb2
  · show upd (upd (upd (HA d) (Ha d * 3) (nI s)) (Ha d * 3 + 1) (nI l)) (Ha d * 3 + 2) (nI r) j = 0
    rw [upd_ne (by omega), upd_ne (by omega), upd_ne (by omega)]; exact c2 j hj
  · show upd (HO d) (Ha d) (nI (Ha d)) j = 0
    rw [upd_ne (by omega)]; exact e2 j hj
theorem HW.Y {d : HD} {kd pa : Nat} (h : HW d) (h8 : Hy d < 8) (hk : kd ≤ 6) (hp : pa ≤ 99) : HW (hY d kd pa) := by
  obtain ⟨⟨a1, a2, a3⟩, b1, b2, c1, c2, e1, e2, f1⟩ := h
  refine ⟨⟨a1, a2, h8⟩, b1, b2, c1, c2, e1, e2, fun w hw => ?_⟩
  show (if w = Hy d then kd else Hk d w) ≤ 6 ∧ (if w = Hy d then pa else Hp d w) ≤ 99
  rcases (by have : w < Hy d + 1 := hw; omega : w = Hy d ∨ w < Hy d) with rfl | hw2
  · simp only [if_pos]; exact ⟨hk, hp⟩
  · rw [if_neg (by omega), if_neg (by omega)]; exact f1 w hw2
theorem pf_at {p b j : Nat} {X : Nat → Int32} : pf p b X j = if j = 0 then nI b else if j ≤ p then X (j - 1) else X j := by
  unfold pf
  by_cases h : j = 0
  · subst h; simp [upd]
  · rw [upd_ne h, if_neg h]
    simp only [pg]
    by_cases h2 : j ≤ p
    · rw [if_pos h2, if_pos ⟨by omega, h2⟩]
    · rw [if_neg h2, if_neg (by omega)]
theorem HOk.P {a p b : Nat} {O : Nat → Int32} {od pos : Nat → Nat} (h : HOk a O od pos) (hp : p < a) (hb : od p = b) : HOk a (pf p b O) (fun i => if i = 0 then b else if i ≤ p then od (i - 1) else od i) (fun c => if c = b then 0 else if pos c < p then pos c + 1 else pos c) := by
  obtain ⟨h1, h2, h3⟩ := h
  have hba : b < a := by rw [← hb]; exact (h1 p hp).2
  have inj : ∀ i j, i < a → j < a → (if i = 0 then b else if i ≤ p then od (i - 1) else od i) = (if j = 0 then b else if j ≤ p then od (j - 1) else od j) → i = j := by
    intro i j hi hj e
    have k3 : ∀ x y, x < a → y < a → od x = od y → x = y := h3
    by_cases i0 : i = 0
    · by_cases j0 : j = 0
      · omega
      · exfalso
        rw [if_pos i0, if_neg j0, ← hb] at e
        by_cases jp : j ≤ p
        · rw [if_pos jp] at e; have := k3 _ _ hp (by omega) e; omega
        · rw [if_neg jp] at e; have := k3 _ _ hp hj e; omega
    · by_cases j0 : j = 0
      · exfalso
        rw [if_pos j0, if_neg i0, ← hb] at e
        by_cases ip : i ≤ p
        · rw [if_pos ip] at e; have := k3 _ _ (by omega) hp e; omega
        · rw [if_neg ip] at e; have := k3 _ _ hi hp e; omega
      · rw [if_neg i0, if_neg j0] at e
        by_cases ip : i ≤ p
        · by_cases jp : j ≤ p
          · rw [if_pos ip, if_pos jp] at e; have := k3 _ _ (by omega) (by omega) e; omega
          · rw [if_pos ip, if_neg jp] at e; have := k3 _ _ (by omega) hj e; omega
        · by_cases jp : j ≤ p
          · rw [if_neg ip, if_pos jp] at e; have := k3 _ _ hi (by omega) e; omega
          · rw [if_neg ip, if_neg jp] at e; exact k3 _ _ hi hj e
  have key : ∀ c, c < a → (if c = b then 0 else if pos c < p then pos c + 1 else pos c) < a ∧ (fun i => if i = 0 then b else if i ≤ p then od (i - 1) else od i) (if c = b then 0 else if pos c < p then pos c + 1 else pos c) = c := by
    intro c hc
    obtain ⟨g1, g2, g3⟩ := h2 c hc
    by_cases cb : c = b
    · rw [if_pos cb]; exact ⟨by omega, by simp [cb]⟩
    · rw [if_neg cb]
      have hne : pos c ≠ p := fun e => cb (by rw [← g2, e, hb])
      by_cases cp : pos c < p
      · rw [if_pos cp]
        refine ⟨by omega, ?_⟩
        simp only [if_neg (show ¬ pos c + 1 = 0 by omega), if_pos (show pos c + 1 ≤ p by omega), Nat.add_sub_cancel]; exact g2
      · rw [if_neg cp]
        refine ⟨g1, ?_⟩
        simp only [if_neg (show ¬ pos c = 0 by omega), if_neg (show ¬ pos c ≤ p by omega)]; exact g2
  refine ⟨fun i hi => ?_, fun c hc => ⟨(key c hc).1, (key c hc).2, fun j hj e => ?_⟩, inj⟩
  · rw [pf_at]
    by_cases i0 : i = 0
    · simp only [if_pos i0]; exact ⟨trivial, hba⟩
    · simp only [if_neg i0]
      by_cases ip : i ≤ p
      · simp only [if_pos ip]; exact h1 _ (by omega)
      · simp only [if_neg ip]; exact h1 _ hi
  · have hj : j < (if c = b then 0 else if pos c < p then pos c + 1 else pos c) := hj
    have := inj j _ (Nat.lt_trans hj (key c hc).1) (key c hc).1 (e.trans (key c hc).2.symm)
    omega
theorem HW.P {d : HD} {od pos : Nat → Nat} {p b : Nat} (h : HW d) (ho : HOk (Ha d) (HO d) od pos) (hp : p < Ha d) (hb : od p = b) : HW (hP d p b) := by
  obtain ⟨⟨a1, a2, a3⟩, b1, b2, c1, c2, -, e2, f1⟩ := h
  refine ⟨⟨a1, a2, a3⟩, b1, b2, c1, c2, ⟨_, _, ho.P hp hb⟩, fun j hj => ?_, f1⟩
  show pf p b (HO d) j = 0
  rw [pf_at, if_neg (by omega), if_neg (by omega)]; exact e2 j hj
/-- places from lo to hi may have changed their numbers, the place W its references; nothing else that stood -/
def zFr (lo hi : Nat) (W : Option Nat) (σ τ : zSt) : Prop := zN σ ≤ zN τ ∧ ∀ k, k < zN σ → zK τ k = zK σ k ∧ zL τ k = zL σ k ∧ (k < lo ∨ hi < k → zX τ k = zX σ k ∧ zY τ k = zY σ k) ∧ (W ≠ some k → zR τ k = zR σ k)
theorem zFr.rf {lo hi : Nat} {W : Option Nat} {σ : zSt} : zFr lo hi W σ σ := ⟨Nat.le_refl _, fun _ _ => ⟨rfl, rfl, fun _ => ⟨rfl, rfl⟩, fun _ => rfl⟩⟩
theorem zFr.tr {lo hi : Nat} {W : Option Nat} {σ τ υ : zSt} (h : zFr lo hi W σ τ) (h2 : zFr lo hi W τ υ) : zFr lo hi W σ υ :=
  ⟨Nat.le_trans h.1 h2.1, fun k hk => by
    obtain ⟨a1, a2, a3, a4⟩ := h.2 k hk
    obtain ⟨b1, b2, b3, b4⟩ := h2.2 k (Nat.lt_of_lt_of_le hk h.1)
    exact ⟨b1.trans a1, b2.trans a2, fun h => ⟨(b3 h).1.trans (a3 h).1, (b3 h).2.trans (a3 h).2⟩, fun h => (b4 h).trans (a4 h)⟩⟩
theorem zFr.uX {lo hi k : Nat} {W : Option Nat} {σ : zSt} {f : Nat → Int32} (h1 : lo ≤ k) (h2 : k ≤ hi) : zFr lo hi W σ (zuX σ k f) :=
  ⟨Nat.le_refl _, fun j _ => ⟨rfl, rfl, fun h => ⟨zfu_ne (by omega), rfl⟩, fun _ => rfl⟩⟩
theorem zFr.uY {lo hi k : Nat} {W : Option Nat} {σ : zSt} {f : Nat → Int64} (h1 : lo ≤ k) (h2 : k ≤ hi) : zFr lo hi W σ (zuY σ k f) :=
  ⟨Nat.le_refl _, fun j _ => ⟨rfl, rfl, fun h => ⟨rfl, zfu_ne (by omega)⟩, fun _ => rfl⟩⟩
theorem zFr.uR {lo hi k : Nat} {σ : zSt} {f : Nat → Option Nat} : zFr lo hi (some k) σ (zuR σ k f) :=
  ⟨Nat.le_refl _, fun j _ => ⟨rfl, rfl, fun h => ⟨rfl, rfl⟩, fun h => zfu_ne (fun e => h (by rw [e]))⟩⟩
theorem zFr.wS {lo hi : Nat} {W : Option Nat} {σ : zSt} {ci kd num pa : Nat} : zFr lo hi W σ (wS σ ci kd num pa) :=
  ⟨Nat.le_succ _, fun k hk => by
    obtain ⟨h1, h2, h3, h4, h5⟩ := wS_o (σ := σ) (ci := ci) (kd := kd) (num := num) (pa := pa) (k := k) (by omega)
    exact ⟨h1, h2, fun _ => ⟨h3, h4⟩, fun _ => h5⟩⟩
theorem zFr.aW {lo hi h : Nat} {σ : zSt} {kd pa y : Nat} (h1 : lo ≤ h) (h2 : h ≤ hi) : zFr lo hi (some (h + 4)) σ (aW σ h kd pa y) := zFr.tr (zFr.tr zFr.wS zFr.uR) (zFr.uX h1 h2)
theorem Lay.fr {lo hi w : Nat} {σ τ : zSt} (h : Lay σ) (hf : zFr lo hi (some w) σ τ) (hw : ∀ f, layR w f = 0) : Lay τ := by
  refine ⟨Nat.le_trans h.1 hf.1, fun k hk => ?_, fun k hk => ?_, fun k f hk hl => ?_⟩
  · rw [(hf.2 k (h.n hk)).1]; exact h.k hk
  · rw [(hf.2 k (h.n hk)).2.1]; exact h.l hk
  · rw [(hf.2 k (h.n hk)).2.2.2 (fun e => hl (by cases e; exact hw f))]; exact h.r hk hl
theorem Lay.fr0 {lo hi : Nat} {σ τ : zSt} (h : Lay σ) (hf : zFr lo hi none σ τ) : Lay τ := by
  refine ⟨Nat.le_trans h.1 hf.1, fun k hk => ?_, fun k hk => ?_, fun k f hk hl => ?_⟩
  · rw [(hf.2 k (h.n hk)).1]; exact h.k hk
  · rw [(hf.2 k (h.n hk)).2.1]; exact h.l hk
  · rw [(hf.2 k (h.n hk)).2.2.2 (fun e => by cases e)]; exact h.r hk hl
theorem zWo.fr {lo hi : Nat} {W : Option Nat} {σ τ : zSt} {q kd pa num : Nat} (h : zWo σ q kd pa num) (hf : zFr lo hi W σ τ) (hh : hi < 66) (hw : ∀ k, W = some k → k < 66) : zWo τ q kd pa num := by
  obtain ⟨h1, h2, h3, h4, h5, h6, h7, h8, h9, h10⟩ := h
  obtain ⟨a1, a2, a3, a4⟩ := hf.2 q h1
  have e := (a3 (Or.inr (by omega))).1
  exact ⟨Nat.lt_of_lt_of_le h1 hf.1, a1.trans h2, by rw [a4 (fun e => by have := hw q e; omega)]; exact h3, by rw [e]; exact h4, by rw [e]; exact h5, by rw [e]; exact h6, h7, h8, h9, h10⟩
/-- reading: an item's new data, and all items -/
def ipD (T : Nat → Int32) (a : Nat) (d : HD) : HD :=
  if wd T a = 0 then hC d (vs T (a + wl (wd T a)))
  else if wd T a = 1 then hA d (vs T (a + wl (wd T a)) 0) (vs T (a + wl (wd T a)) 1) (vs T (a + wl (wd T a)) 2)
  else if wd T a = 2 then hY d (tN (vs T (a + wl (wd T a)) 0)) (tN (vs T (a + wl (wd T a)) 1))
  else hP d (fst_ (HO d) (vs T (a + wl (wd T a)) 0) (Ha d)) (tN (vs T (a + wl (wd T a)) 0))
def ipB (T : Nat → Int32) (a : Nat) (d : HD) : Option Nat := itB T a (Hn d) (Ha d) (Hy d)
/-- all items: the fault, how many, the data -/
def pr (T : Nat → Int32) (m : Nat) : Nat → Nat → HD → Option Nat × Nat × HD
  | 0, _, d => (none, 0, d)
  | f + 1, a, d => match ipB T a d with
    | some x => (some x, 1, d)
    | none => if itN T a < m then (if T (itN T a) = nI 59 then ((pr T m f (itN T a + 1) (ipD T a d)).1, (pr T m f (itN T a + 1) (ipD T a d)).2.1 + 1, (pr T m f (itN T a + 1) (ipD T a d)).2.2) else (some (itN T a), 1, ipD T a d)) else (none, 1, ipD T a d)
/-- what an item that is told has -/
theorem ipB_n {T : Nat → Int32} {a : Nat} {d : HD} (h : ipB T a d = none) : ¬ wd T a = 4 ∧ ¬ ful (wd T a) (Hn d) (Ha d) (Hy d) = true ∧ ∀ k, k < wc (wd T a) → nok T (ps T (a + wl (wd T a)) k) (mx (Ha d) (wd T a) k) := by
  unfold ipB itB at h
  by_cases h1 : wd T a = 4
  · rw [if_pos h1] at h; cases h
  rw [if_neg h1] at h
  by_cases h2 : ful (wd T a) (Hn d) (Ha d) (Hy d) = true
  · rw [if_pos h2] at h; cases h
  rw [if_neg h2] at h
  by_cases h3 : fbd T (a + wl (wd T a)) (Ha d) (wd T a) < wc (wd T a)
  · rw [if_pos h3] at h; cases h
  obtain ⟨f1, f2, f3⟩ := fbd_s (T := T) (p := a + wl (wd T a)) (ac := Ha d) (w := wd T a)
  exact ⟨h1, h2, fun k hk => f2 k (by omega)⟩
theorem nok_N {T : Nat → Int32} {q : Nat} {mo : Int32} {M : Nat} (h : nok T q mo) (hM : mo.toInt = (M : Int)) : ∃ x, x ≤ M ∧ nv T (q + 1) = nI x := by
  obtain ⟨h1, h2, h3⟩ := nok_v h
  exact ⟨_, by rw [hM] at h3; omega, h1⟩
theorem mx0 {ac k : Nat} (h : k < 6) : (mx ac 0 k).toInt = ((mo k : Nat) : Int) := by
  have e : mx ac 0 k = zA0 k := rfl
  rw [e]
  have : k = 0 ∨ k = 1 ∨ k = 2 ∨ k = 3 ∨ k = 4 ∨ k = 5 := by omega
  rcases this with rfl | rfl | rfl | rfl | rfl | rfl <;> decide
theorem HW.ip {T : Nat → Int32} {a : Nat} {d : HD} (hW : HW d) (h : ipB T a d = none) : HW (ipD T a d) := by
  obtain ⟨h4, hf, hk⟩ := ipB_n h
  have hw4 := wd_4 (T := T) (a := a)
  have hb := hW.1
  unfold ipD
  have : wd T a = 0 ∨ wd T a = 1 ∨ wd T a = 2 ∨ wd T a = 3 := by omega
  rcases this with hw | hw | hw | hw
  · rw [if_pos hw]
    rw [hw] at hf hk ⊢
    refine hW.C ?_ fun j hj => nok_N (hk j hj) (mx0 hj)
    rcases Nat.lt_or_ge (Hn d) 8 with h8 | h8
    · exact h8
    · exact absurd (by simp [ful, show Hn d = 8 by omega]) hf
  · rw [if_neg (by omega), if_pos hw]
    rw [hw] at hf hk ⊢
    obtain ⟨x0, g0, e0⟩ := nok_N (M := 3) (hk 0 (by decide)) (by show (zA1 0).toInt = _; decide)
    obtain ⟨x1, g1, e1⟩ := nok_N (M := 9) (hk 1 (by decide)) (by show (zA1 1).toInt = _; decide)
    obtain ⟨x2, g2, e2⟩ := nok_N (M := 10) (hk 2 (by decide)) (by show (zA1 2).toInt = _; decide)
    have e0 : vs T (a + wl 1) 0 = nI x0 := e0
    have e1 : vs T (a + wl 1) 1 = nI x1 := e1
    have e2 : vs T (a + wl 1) 2 = nI x2 := e2
    rw [e0, e1, e2]
    refine hW.A ?_ g0 g1 g2
    rcases Nat.lt_or_ge (Ha d) 4 with h8 | h8
    · exact h8
    · exact absurd (by simp [ful, show Ha d = 4 by omega]) hf
  · rw [if_neg (by omega), if_neg (by omega), if_pos hw]
    rw [hw] at hf hk ⊢
    obtain ⟨x0, g0, e0⟩ := nok_N (M := 6) (hk 0 (by decide)) (by show (zA2 0).toInt = _; decide)
    obtain ⟨x1, g1, e1⟩ := nok_N (M := 99) (hk 1 (by decide)) (by show (zA2 1).toInt = _; decide)
    have e0 : vs T (a + wl 2) 0 = nI x0 := e0
    have e1 : vs T (a + wl 2) 1 = nI x1 := e1
    rw [e0, e1, tN_nI (by omega), tN_nI (by omega)]
    refine hW.Y ?_ g0 g1
    rcases Nat.lt_or_ge (Hy d) 8 with h8 | h8
    · exact h8
    · exact absurd (by simp [ful, show Hy d = 8 by omega]) hf
  · rw [if_neg (by omega), if_neg (by omega), if_neg (by omega)]
    rw [hw] at hk ⊢
    obtain ⟨od, pos, ho⟩ := hW.2.2.2.2.2.1
    obtain ⟨g1, g2, g3⟩ := nok_v (hk 0 (by decide))
    have hx : tN (nv T (ps T (a + wl 3) 0 + 1)) < Ha d := by
      have h6 : (mx (Ha d) 3 0).toInt = (Ha d : Int) - 1 := by
        show (nI (Ha d) - nI 1).toInt = _
        rw [zsubI (by omega) (by decide)]; rfl
      rw [h6] at g3
      omega
    have hsur : ∃ i, i < Ha d ∧ od i = tN (nv T (ps T (a + wl 3) 0 + 1)) := ⟨pos _, (ho.2.1 _ hx).1, (ho.2.1 _ hx).2.1⟩
    obtain ⟨q1, q2, q3⟩ := fst_s (x := vs T (a + wl 3) 0) ho.1 (by omega) hx g1 hsur
    exact hW.P ho q1 q2
