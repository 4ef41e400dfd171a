/-! one lemma a call: the answers are the same, the relation stays; first the calls that only ask -/
theorem nq_lt {a b : Nat} (ha : a < 2 ^ 31) (hb : b < 2 ^ 31) : nI a < nI b ↔ a < b := by
  rw [zlt_iff, nI_toInt ha, nI_toInt hb]; omega
theorem nq_le {a b : Nat} (ha : a < 2 ^ 31) (hb : b < 2 ^ 31) : nI a ≤ nI b ↔ a ≤ b := by
  rw [zle_iff, nI_toInt ha, nI_toInt hb]; omega
theorem zrg (x : Int32) (lo hi : Nat) (hh : hi + 1 < 2 ^ 31) (hlo : lo ≤ hi) : (x < nI lo ∨ nI hi < x) ∨ ∃ k, lo ≤ k ∧ k ≤ hi ∧ x = nI k := by
  rcases znt x (hi + 1) hh with (h | h) | ⟨k, hk, rfl⟩
  · refine Or.inl (Or.inl ?_)
    rw [zlt_iff] at h ⊢
    rw [nI_toInt (by omega)]
    have h0 : (0 : Int32).toInt = 0 := rfl
    omega
  · refine Or.inl (Or.inr ?_)
    rw [zle_iff, nI_toInt hh] at h
    rw [zlt_iff, nI_toInt (by omega)]
    omega
  · rcases Nat.lt_or_ge k lo with h1 | h1
    · exact Or.inl (Or.inl ((nq_lt (by omega) (by omega)).mpr h1))
    · exact Or.inr ⟨k, h1, by omega, rfl⟩
theorem RelD.tfE {σ : zSt} {d e : HD} {b kd pa c : Nat} {sl : Bool} {od pos : Nat → Nat} (h : RelD σ d e b) (hp : zPo (Ha d) od pos) (hod : ∀ i, i < Ha d → od i < Ha d) (hi : ∀ i j, i < Ha d → j < Ha d → od i = od j → i = j) (hc : c < Hn d) : tf (zX σ 21) (zSc σ) (zLk σ) (zDr σ) sl kd pa od (Ha d) c = mtf (zX σ 47) (zX σ 48) (zX σ 49) (zX σ 50) sl kd pa od pos (Ha d) c := by
  obtain ⟨E7, E8, E9, E50, E51⟩ := h.eqs
  rw [E7, E8, E9, E50]
  exact tf_mtf hp hi hod (fun b hb => h.sh hc hb)
theorem RelD.gE {σ : zSt} {d e : HD} {b kd pa : Nat} {sl : Bool} {od pos : Nat → Nat} (h : RelD σ d e b) (hp : zPo (Ha d) od pos) (hod : ∀ i, i < Ha d → od i < Ha d) (hi : ∀ i j, i < Ha d → j < Ha d → od i = od j → i = j) : gI (mtf (zX σ 47) (zX σ 48) (zX σ 49) (zX σ 50) sl kd pa od pos (Ha d)) (Hn d) = gI (tf (zX σ 21) (zSc σ) (zLk σ) (zDr σ) sl kd pa od (Ha d)) (Hn d) := gI_cong fun c hc => (h.tfE hp hod hi hc).symm
theorem RelD.tE {σ : zSt} {d e : HD} {b : Nat} {X Y : Nat → Int32} (h : RelD σ d e b) (hxy : ∀ c, c < Hn d → X c = Y c) : tO (mt (am_ 255) (zX σ 47) Y) (Hn d) = tO (pt (zX σ 21) X) (Hn d) := by
  rw [h.eqs.1, ← tO_mt h.1.1.1]
  exact (tO_ptc hxy).symm
theorem RelD.jE {σ : zSt} {d e : HD} {b kd pa kd2 pa2 c : Nat} {sl sl2 : Bool} {u v : Int32} {od pos : Nat → Nat} (h : RelD σ d e b) (hp : zPo (Ha d) od pos) (hod : ∀ i, i < Ha d → od i < Ha d) (hi : ∀ i j, i < Ha d → j < Ha d → od i = od j → i = j) (hc : c < Hn d) : u * tf (zX σ 21) (zSc σ) (zLk σ) (zDr σ) sl kd pa od (Ha d) c + v * tf (zX σ 21) (zSc σ) (zLk σ) (zDr σ) sl2 kd2 pa2 od (Ha d) c = u * mtf (zX σ 47) (zX σ 48) (zX σ 49) (zX σ 50) sl kd pa od pos (Ha d) c + v * mtf (zX σ 47) (zX σ 48) (zX σ 49) (zX σ 50) sl2 kd2 pa2 od pos (Ha d) c := by
  rw [h.tfE hp hod hi hc, h.tfE hp hod hi hc]
theorem RelD.gaE {σ : zSt} {d e : HD} {b kd pa : Nat} {sl : Bool} {od pos : Nat → Nat} (h : RelD σ d e b) (hp : zPo (Ha d) od pos) (hod : ∀ i, i < Ha d → od i < Ha d) (hi : ∀ i j, i < Ha d → j < Ha d → od i = od j → i = j) (h0 : 0 < Hn d) : ga (mtf (zX σ 47) (zX σ 48) (zX σ 49) (zX σ 50) sl kd pa od pos (Ha d)) (Hn d - 1) = ga (tf (zX σ 21) (zSc σ) (zLk σ) (zDr σ) sl kd pa od (Ha d)) (Hn d - 1) := ga_cong _ fun c hc => (h.tfE hp hod hi (by omega)).symm
theorem RelD.wE {σ : zSt} {d e : HD} {b kd pa : Nat} {sl : Bool} {od pos : Nat → Nat} (h : RelD σ d e b) (hp : zPo (Ha d) od pos) (hod : ∀ i, i < Ha d → od i < Ha d) (hi : ∀ i j, i < Ha d → j < Ha d → od i = od j → i = j) (h0 : 0 < Hn d) : cn (zX σ 47) (ga (fun c => cn (zX σ 47) c 6) (Hn d - 1)) 6 - cn (zX σ 47) (ga (mtf (zX σ 47) (zX σ 48) (zX σ 49) (zX σ 50) sl kd pa od pos (Ha d)) (Hn d - 1)) 6 = cn (zX σ 21) (ga (fun c => cn (zX σ 21) c 6) (Hn d - 1)) 6 - cn (zX σ 21) (ga (tf (zX σ 21) (zSc σ) (zLk σ) (zDr σ) sl kd pa od (Ha d)) (Hn d - 1)) 6 := by
  rw [h.gaE hp hod hi h0, h.eqs.1]
theorem RelD.lE {σ : zSt} {d e : HD} {b kd pa k : Nat} {sl : Bool} {od pos : Nat → Nat} (h : RelD σ d e b) (hp : zPo (Ha d) od pos) (hod : ∀ i, i < Ha d → od i < Ha d) (hi : ∀ i j, i < Ha d → j < Ha d → od i = od j → i = j) (hk : k ≤ Hn d) : nI k * cn (zX σ 47) (ga (fun c => cn (zX σ 47) c 6) (Hn d - 1)) 6 - sm (fun t => cn (zX σ 47) (slK (mtf (zX σ 47) (zX σ 48) (zX σ 49) (zX σ 50) sl kd pa od pos (Ha d)) (Hn d) t) 6) k = smm (nI k * (cn (zX σ 21) (ga (fun c => cn (zX σ 21) c 6) (Hn d - 1)) 6)) (loF (zX σ 21) (tf (zX σ 21) (zSc σ) (zLk σ) (zDr σ) sl kd pa od (Ha d)) (Hn d) k) (Hn d) := by
  have e1 : sm (loF (zX σ 21) (tf (zX σ 21) (zSc σ) (zLk σ) (zDr σ) sl kd pa od (Ha d)) (Hn d) k) (Hn d) = sm (loF (zX σ 21) (mtf (zX σ 47) (zX σ 48) (zX σ 49) (zX σ 50) sl kd pa od pos (Ha d)) (Hn d) k) (Hn d) := lo_cong fun c hc => h.tfE hp hod hi hc
  rw [smm_sm, e1, lo_sm hk, h.eqs.1]
theorem RelD.aE {σ : zSt} {d e : HD} {b kd pa a : Nat} {sl : Bool} {od pos : Nat → Nat} (h : RelD σ d e b) (hp : zPo (Ha d) od pos) (hod : ∀ i, i < Ha d → od i < Ha d) (hi : ∀ i j, i < Ha d → j < Ha d → od i = od j → i = j) (h0 : 0 < Hn d) : decide (nI (ga (shW (zX σ 47) (zX σ 48) (zX σ 49) kd pa a) (Hn d - 1)) = gI (mtf (zX σ 47) (zX σ 48) (zX σ 49) (zX σ 50) sl kd pa od pos (Ha d)) (Hn d)) = decide (gI (shW (zX σ 21) (zSc σ) (zLk σ) kd pa a) (Hn d) = gI (tf (zX σ 21) (zSc σ) (zLk σ) (zDr σ) sl kd pa od (Ha d)) (Hn d)) := by
  obtain ⟨E7, E8, E9, E50, E51⟩ := h.eqs
  rw [h.gE hp hod hi, gI_pos (f := shW (zX σ 21) (zSc σ) (zLk σ) kd pa a) h0, E7, E8, E9]
theorem RelD.uE {σ : zSt} {d e : HD} {b kd pa a c : Nat} {od pos : Nat → Nat} (h : RelD σ d e b) (hp : zPo (Ha d) od pos) (hod : ∀ i, i < Ha d → od i < Ha d) (hi : ∀ i j, i < Ha d → j < Ha d → od i = od j → i = j) (ha : a < Ha d) (hc : c < Hn d) : tf (zX σ 21) (zSc σ) (zLk σ) (zDr σ) true kd pa od (Ha d) c - shW (zX σ 21) (zSc σ) (zLk σ) kd pa a c = mtg (zX σ 47) (zX σ 48) (zX σ 49) (zX σ 50) kd pa od pos (Ha d) a c := by
  obtain ⟨E7, E8, E9, E50, E51⟩ := h.eqs
  rw [E7, E8, E9, E50]
  exact tf_mtg hp hi hod (fun b hb => h.sh hc hb) ha
theorem RelD.wf {σ : zSt} {d e : HD} {b : Nat} (h : RelD σ d e b) : zWf σ (Hy d) (fun w => (zR σ 24 w).getD 0) (Hk d) (Hp d) := fun w hw => by
  obtain ⟨q, q1, q2, q3⟩ := h.wy hw
  have e9 : (zR σ 24 w).getD 0 = q := congrArg (fun o => Option.getD o 0) q1
  show zR σ 24 w = some ((zR σ 24 w).getD 0) ∧ zWo σ ((zR σ 24 w).getD 0) (Hk d w) (Hp d w) w
  rw [e9]
  exact ⟨q1, q2⟩
theorem RelD.mf {σ : zSt} {d e : HD} {b : Nat} (h : RelD σ d e b) : zMf σ (Hy d) (Hk d) (Hp d) := fun w hw => by
  obtain ⟨q, q1, q2, q3⟩ := h.wy hw
  exact q3
theorem i_e {x y : Int32} (h : x = y) : Value.int x = Value.int y := by rw [h]
theorem ct_eq {p q : Nat → Bool} : ∀ n, (∀ i, i < n → p i = q i) → ct p n = ct q n
  | 0, _ => rfl
  | n + 1, h => by simp only [ct]; rw [ct_eq n (fun i hi => h i (by omega)), h n (by omega)]

theorem pr_comerOf {σ : zSt} (hR : Rel σ) {c : Int32} {w : Int32} : Pair mX11_comerOf mX12_comerOf [.int c, .int w] σ := by
  obtain ⟨d, e, b0, h⟩ := id hR
  obtain ⟨hW, hK, hM, hl, hc, hs8, h08, h43, hTr, hg, hz, hwd, hIm⟩ := id h
  have H := h.hd
  have M := h.md
  have hn8 := hW.1.1
  have ha4 := hW.1.2.1
  have hy8 := hW.1.2.2
  obtain ⟨od, pos, ho, hm, hp, hod, hinj⟩ := h.od
  obtain ⟨E7, E8, E9, E50, E51⟩ := h.eqs
  rcases znt c (Hn d) (by omega) with hc | ⟨c, hc, rfl⟩
  · exact Pair.of (t_K_comerOf_1 hl H hc) (t_M_comerOf_1 (σ := zuX σ 43 _) hl M hc) rfl hR.r
  · rcases znt w (7) (by decide) with hw | ⟨w, hw, rfl⟩
    · exact Pair.of (t_K_comerOf_2 hl H hc hw) (t_M_comerOf_2 (σ := zuX σ 43 _) hl M hc hw) rfl hR.r
    · exact Pair.of (t_K_comerOf_0 hl H hc hw) (t_M_comerOf_0 (σ := σ) hl M hc hw) (by rw [E7]) hR

theorem pr_askerOf {σ : zSt} (hR : Rel σ) {b : Int32} {w : Int32} : Pair mX11_askerOf mX12_askerOf [.int b, .int w] σ := by
  obtain ⟨d, e, b0, h⟩ := id hR
  obtain ⟨hW, hK, hM, hl, hc, hs8, h08, h43, hTr, hg, hz, hwd, hIm⟩ := id h
  have H := h.hd
  have M := h.md
  have hn8 := hW.1.1
  have ha4 := hW.1.2.1
  have hy8 := hW.1.2.2
  obtain ⟨od, pos, ho, hm, hp, hod, hinj⟩ := h.od
  obtain ⟨E7, E8, E9, E50, E51⟩ := h.eqs
  rcases znt b (Ha d) (by omega) with hb | ⟨b, hb, rfl⟩
  · exact Pair.of (t_K_askerOf_1 hl H hb) (t_M_askerOf_1 (σ := zuX σ 43 _) hl M hb) rfl hR.r
  · rcases znt w (4) (by decide) with hw | ⟨w, hw, rfl⟩
    · exact Pair.of (t_K_askerOf_2 hl H hb hw) (t_M_askerOf_2 (σ := zuX σ 43 _) hl M hb hw) rfl hR.r
    · rcases (by omega : w = 3 ∨ w = 0 ∨ w = 1 ∨ w = 2) with rfl | rfl | rfl | rfl
      · obtain ⟨p1, p2, p3⟩ := hp b hb
        exact Pair.of (t_K_askerOf_3 hl H ho p1 p2 p3) (t_M_askerOf_3 (σ := σ) hl M hm p1 p2 p3) rfl hR
      · exact Pair.of (t_K_askerOf_0 hl H hb (w := 0) (by decide)) (t_M_askerOf_0_0 (σ := σ) hl M hb) (by rw [E8]; rfl) hR
      · exact Pair.of (t_K_askerOf_0 hl H hb (w := 1) (by decide)) (t_M_askerOf_0_1 (σ := σ) hl M hb) (by rw [E9]; rfl) hR
      · exact Pair.of (t_K_askerOf_0 hl H hb (w := 2) (by decide)) (t_M_askerOf_0_2 (σ := σ) hl M hb) (by rw [E50]; rfl) hR

theorem pr_wayOf {σ : zSt} (hR : Rel σ) {i : Int32} {w : Int32} : Pair mX11_wayOf mX12_wayOf [.int i, .int w] σ := by
  obtain ⟨d, e, b0, h⟩ := id hR
  obtain ⟨hW, hK, hM, hl, hc, hs8, h08, h43, hTr, hg, hz, hwd, hIm⟩ := id h
  have H := h.hd
  have M := h.md
  have hn8 := hW.1.1
  have ha4 := hW.1.2.1
  have hy8 := hW.1.2.2
  obtain ⟨od, pos, ho, hm, hp, hod, hinj⟩ := h.od
  obtain ⟨E7, E8, E9, E50, E51⟩ := h.eqs
  rcases znt i (Hy d) (by omega) with hi | ⟨i, hi, rfl⟩
  · exact Pair.of (t_K_wayOf_1 hl H hi) (t_M_wayOf_1 (σ := zuX σ 43 _) hl M hi) rfl hR.r
  · obtain ⟨q, hq, hw, hy⟩ := h.wy hi
    rcases znt w (2) (by decide) with hv | ⟨w, hv, rfl⟩
    · exact Pair.of (t_K_wayOf_2 hl H hi hq hw hv) (t_M_wayOf_2 (σ := zuX σ 43 _) hl M hi hy hv) rfl hR.r
    · have hk6 := hy.2.2.1
      generalize Hk d i = kd at hw hy hk6
      generalize Hp d i = pa at hw hy
      rcases (by omega : w = 0 ∨ w = 1) with rfl | rfl
      · rcases (by omega : kd = 0 ∨ kd = 1 ∨ kd = 2 ∨ kd = 3 ∨ kd = 4 ∨ kd = 5 ∨ kd = 6) with rfl | rfl | rfl | rfl | rfl | rfl | rfl
        · exact Pair.of (t_K_wayOf_0_0_0 hl H hi hq hw) (t_M_wayOf_0_0 (σ := σ) hl M hi hy) rfl hR
        · exact Pair.of (t_K_wayOf_0_1_0 hl H hi hq hw) (t_M_wayOf_0_0 (σ := σ) hl M hi hy) rfl hR
        · exact Pair.of (t_K_wayOf_0_2_0 hl H hi hq hw) (t_M_wayOf_0_0 (σ := σ) hl M hi hy) rfl hR
        · exact Pair.of (t_K_wayOf_0_3_0 hl H hi hq hw) (t_M_wayOf_0_0 (σ := σ) hl M hi hy) rfl hR
        · exact Pair.of (t_K_wayOf_0_4_0 hl H hi hq hw) (t_M_wayOf_0_0 (σ := σ) hl M hi hy) rfl hR
        · exact Pair.of (t_K_wayOf_0_5_0 hl H hi hq hw) (t_M_wayOf_0_0 (σ := σ) hl M hi hy) rfl hR
        · exact Pair.of (t_K_wayOf_0_6_0 hl H hi hq hw) (t_M_wayOf_0_0 (σ := σ) hl M hi hy) rfl hR
      · rcases (by omega : kd = 0 ∨ kd = 1 ∨ kd = 2 ∨ kd = 3 ∨ kd = 4 ∨ kd = 5 ∨ kd = 6) with rfl | rfl | rfl | rfl | rfl | rfl | rfl
        · exact Pair.of (t_K_wayOf_0_0_1 hl H hi hq hw) (t_M_wayOf_0_1 (σ := σ) hl M hi hy) rfl hR
        · exact Pair.of (t_K_wayOf_0_1_1 hl H hi hq hw) (t_M_wayOf_0_1 (σ := σ) hl M hi hy) rfl hR
        · exact Pair.of (t_K_wayOf_0_2_1 hl H hi hq hw) (t_M_wayOf_0_1 (σ := σ) hl M hi hy) rfl hR
        · exact Pair.of (t_K_wayOf_0_3_1 hl H hi hq hw) (t_M_wayOf_0_1 (σ := σ) hl M hi hy) rfl hR
        · exact Pair.of (t_K_wayOf_0_4_1 hl H hi hq hw) (t_M_wayOf_0_1 (σ := σ) hl M hi hy) rfl hR
        · exact Pair.of (t_K_wayOf_0_5_1 hl H hi hq hw) (t_M_wayOf_0_1 (σ := σ) hl M hi hy) rfl hR
        · exact Pair.of (t_K_wayOf_0_6_1 hl H hi hq hw) (t_M_wayOf_0_1 (σ := σ) hl M hi hy) rfl hR

theorem pr_fault {σ : zSt} (hR : Rel σ)  : Pair mX11_fault mX12_fault [] σ := by
  obtain ⟨d, e, b0, h⟩ := id hR
  obtain ⟨hW, hK, hM, hl, hc, hs8, h08, h43, hTr, hg, hz, hwd, hIm⟩ := id h
  have H := h.hd
  have M := h.md
  have hn8 := hW.1.1
  have ha4 := hW.1.2.1
  have hy8 := hW.1.2.2
  obtain ⟨od, pos, ho, hm, hp, hod, hinj⟩ := h.od
  obtain ⟨E7, E8, E9, E50, E51⟩ := h.eqs
  exact Pair.of (t_K_fault_0 hl) (t_X12_fault (σ := σ) hl) (i_e h08.symm) hR

theorem pr_shows {σ : zSt} (hR : Rel σ) {i : Int32} {b : Int32} {c : Int32} : Pair mX11_shows mX12_shows [.int i, .int b, .int c] σ := by
  obtain ⟨d, e, b0, h⟩ := id hR
  obtain ⟨hW, hK, hM, hl, hc, hs8, h08, h43, hTr, hg, hz, hwd, hIm⟩ := id h
  have H := h.hd
  have M := h.md
  have hn8 := hW.1.1
  have ha4 := hW.1.2.1
  have hy8 := hW.1.2.2
  obtain ⟨od, pos, ho, hm, hp, hod, hinj⟩ := h.od
  obtain ⟨E7, E8, E9, E50, E51⟩ := h.eqs
  rcases znt i (Hy d) (by omega) with hi | ⟨i, hi, rfl⟩
  · exact Pair.of (t_K_shows_1 hl H hi) (t_M_shows_1 (σ := zuX σ 43 _) hl M hi) rfl hR.r
  · obtain ⟨q, hq, hw, hy⟩ := h.wy hi
    rcases znt b (Ha d) (by omega) with hb | ⟨b, hb, rfl⟩
    · exact Pair.of (t_K_shows_2 hl H hi hq hw hb) (t_M_shows_2 (σ := zuX σ 43 _) hl M hi hy hb) rfl hR.r
    · rcases znt c (Hn d) (by omega) with hcc | ⟨c, hcc, rfl⟩
      · exact Pair.of (t_K_shows_3 hl H hi hq hw hb hcc) (t_M_shows_3 (σ := zuX σ 43 _) hl M hi hy hb hcc) rfl hR.r
      · exact Pair.of (t_K_shows_0 hl H hi hq hw hb hcc) (t_M_shows_0 (σ := σ) hl M hi hy hb hcc) (by rw [E7, E8, E9]) hR

theorem pr_said {σ : zSt} (hR : Rel σ) {i : Int32} {b : Int32} {c : Int32} {sl : Bool} : Pair mX11_said mX12_said [.int i, .int (zb sl), .int b, .int c] σ := by
  obtain ⟨d, e, b0, h⟩ := id hR
  obtain ⟨hW, hK, hM, hl, hc, hs8, h08, h43, hTr, hg, hz, hwd, hIm⟩ := id h
  have H := h.hd
  have M := h.md
  have hn8 := hW.1.1
  have ha4 := hW.1.2.1
  have hy8 := hW.1.2.2
  obtain ⟨od, pos, ho, hm, hp, hod, hinj⟩ := h.od
  obtain ⟨E7, E8, E9, E50, E51⟩ := h.eqs
  rcases znt i (Hy d) (by omega) with hi | ⟨i, hi, rfl⟩
  · exact Pair.of (t_K_said_1 hl H hi) (t_M_said_1 (σ := zuX σ 43 _) hl M hi) rfl hR.r
  · obtain ⟨q, hq, hw, hy⟩ := h.wy hi
    rcases znt b (Ha d) (by omega) with hb | ⟨b, hb, rfl⟩
    · exact Pair.of (t_K_said_2 hl H hi hq hw hb) (t_M_said_2 (σ := zuX σ 43 _) hl M hi hy hb) rfl hR.r
    · rcases znt c (Hn d) (by omega) with hcc | ⟨c, hcc, rfl⟩
      · exact Pair.of (t_K_said_3 hl H hi hq hw hb hcc) (t_M_said_3 (σ := zuX σ 43 _) hl M hi hy hb hcc) rfl hR.r
      · obtain ⟨p1, p2, p3⟩ := hp b hb
        exact Pair.of (t_K_said_0 hl H ho hi hq hw p1 p2 p3 hcc) (t_M_said_0 (σ := σ) hl M hm hp hi hy hb hcc) (by rw [E7, E8, E9, E50]; exact i_e (tt_msv hp hod (fun b hb => h.sh hcc hb) hb).symm) hR

theorem pr_total {σ : zSt} (hR : Rel σ) {i : Int32} {c : Int32} {sl : Bool} : Pair mX11_total mX12_total [.int i, .int (zb sl), .int c] σ := by
  obtain ⟨d, e, b0, h⟩ := id hR
  obtain ⟨hW, hK, hM, hl, hc, hs8, h08, h43, hTr, hg, hz, hwd, hIm⟩ := id h
  have H := h.hd
  have M := h.md
  have hn8 := hW.1.1
  have ha4 := hW.1.2.1
  have hy8 := hW.1.2.2
  obtain ⟨od, pos, ho, hm, hp, hod, hinj⟩ := h.od
  obtain ⟨E7, E8, E9, E50, E51⟩ := h.eqs
  rcases znt i (Hy d) (by omega) with hi | ⟨i, hi, rfl⟩
  · exact Pair.of (t_K_total_1 hl H hi) (t_M_total_1 (σ := zuX σ 43 _) hl M hi) rfl hR.r
  · obtain ⟨q, hq, hw, hy⟩ := h.wy hi
    rcases znt c (Hn d) (by omega) with hcc | ⟨c, hcc, rfl⟩
    · exact Pair.of (t_K_total_2 hl H hi hq hw hcc) (t_M_total_2 (σ := zuX σ 43 _) hl M hi hy hcc) rfl hR.r
    · exact Pair.of (t_K_total_0 hl H ho hi hq hw hcc) (t_M_total_0 (σ := σ) hl M hm hp hi hy hg hcc) (i_e (h.tfE hp hod hinj hcc).symm) hR

theorem pr_taken {σ : zSt} (hR : Rel σ) {i : Int32} {sl : Bool} : Pair mX11_taken mX12_taken [.int i, .int (zb sl)] σ := by
  obtain ⟨d, e, b0, h⟩ := id hR
  obtain ⟨hW, hK, hM, hl, hc, hs8, h08, h43, hTr, hg, hz, hwd, hIm⟩ := id h
  have H := h.hd
  have M := h.md
  have hn8 := hW.1.1
  have ha4 := hW.1.2.1
  have hy8 := hW.1.2.2
  obtain ⟨od, pos, ho, hm, hp, hod, hinj⟩ := h.od
  obtain ⟨E7, E8, E9, E50, E51⟩ := h.eqs
  rcases znt i (Hy d) (by omega) with hi | ⟨i, hi, rfl⟩
  · exact Pair.of (t_K_taken_1 hl H hi) (t_M_taken_1 (σ := zuX σ 43 _) hl M hi) (i_e (by decide)) hR.r
  · obtain ⟨q, hq, hw, hy⟩ := h.wy hi
    exact Pair.of (t_K_taken_0 hl H ho hi hq hw) (t_M_taken_0 (σ := zuX σ 25 _) hl M hm hp hi hy hg) (i_e (h.gE hp hod hinj)) (hR.u rfl)

theorem pr_best {σ : zSt} (hR : Rel σ)  : Pair mX11_best mX12_best [] σ := by
  obtain ⟨d, e, b0, h⟩ := id hR
  obtain ⟨hW, hK, hM, hl, hc, hs8, h08, h43, hTr, hg, hz, hwd, hIm⟩ := id h
  have H := h.hd
  have M := h.md
  have hn8 := hW.1.1
  have ha4 := hW.1.2.1
  have hy8 := hW.1.2.2
  obtain ⟨od, pos, ho, hm, hp, hod, hinj⟩ := h.od
  obtain ⟨E7, E8, E9, E50, E51⟩ := h.eqs
  rcases Nat.eq_zero_or_pos (Hn d) with h0 | h0
  · exact Pair.of (t_K_best_5 hl H h0) (t_M_best_5 (σ := zuX σ 43 _) hl M h0) rfl hR.r
  · exact Pair.of (t_K_best_0 hl H h0) (t_M_best_0 (σ := zuX σ 25 _) hl M h0) (i_e (by rw [gI_pos h0, ← E7]; rfl)) (hR.u rfl)

theorem pr_tells {σ : zSt} (hR : Rel σ) {i : Int32} {sl : Bool} : Pair mX11_tells mX12_tells [.int i, .int (zb sl)] σ := by
  obtain ⟨d, e, b0, h⟩ := id hR
  obtain ⟨hW, hK, hM, hl, hc, hs8, h08, h43, hTr, hg, hz, hwd, hIm⟩ := id h
  have H := h.hd
  have M := h.md
  have hn8 := hW.1.1
  have ha4 := hW.1.2.1
  have hy8 := hW.1.2.2
  obtain ⟨od, pos, ho, hm, hp, hod, hinj⟩ := h.od
  obtain ⟨E7, E8, E9, E50, E51⟩ := h.eqs
  rcases znt i (Hy d) (by omega) with hi | ⟨i, hi, rfl⟩
  · exact Pair.of (t_K_tells_1 hl H hi) (t_M_tells_1 (σ := zuX σ 43 _) hl M hi) rfl hR.r
  · obtain ⟨q, hq, hw, hy⟩ := h.wy hi
    exact Pair.of (t_K_tells_0 hl H ho hi hq hw) (t_M_tells_0 (σ := zuX σ 25 _) hl M hm hp hi hy hg) (i_e (h.tE (fun c hc => h.tfE hp hod hinj hc))) ((hR.u rfl).u rfl)

theorem rgF_cong {F X Y : Nat → Int32} {n m : Nat} (h : ∀ c, c < n → X c = Y c) : tO (rgF F X n m) n = tO (rgF F Y n m) n := tO_cong n fun i j hi hj => by
  unfold rgF
  rw [pt_cong (h i (by omega)) (h j hj)]
theorem RelD.rE {σ : zSt} {d e : HD} {b kd pa m : Nat} {sl : Bool} {od pos : Nat → Nat} (h : RelD σ d e b) (hp : zPo (Ha d) od pos) (hod : ∀ i, i < Ha d → od i < Ha d) (hi : ∀ i j, i < Ha d → j < Ha d → od i = od j → i = j) : tO (mt (am_ (mkr (slK (fun c => cn (zX σ 47) c 5) (Hn d)) (min m (Hn d)))) (zX σ 47) (mtf (zX σ 47) (zX σ 48) (zX σ 49) (zX σ 50) sl kd pa od pos (Ha d))) (Hn d) = tO (rgF (zX σ 21) (tf (zX σ 21) (zSc σ) (zLk σ) (zDr σ) sl kd pa od (Ha d)) (Hn d) m) (Hn d) := by
  rw [← tO_rg h.1.1.1, rgF_cong (fun c hc => (h.tfE hp hod hi hc).symm), h.eqs.1]

theorem pr_righted {σ : zSt} (hR : Rel σ) {i : Int32} {m : Int32} : Pair mX11_righted mX12_righted [.int i, .int m] σ := by
  obtain ⟨d, e, b0, h⟩ := id hR
  obtain ⟨hW, hK, hM, hl, hc, hs8, h08, h43, hTr, hg, hz, hwd, hIm⟩ := id h
  have H := h.hd
  have M := h.md
  have hn8 := hW.1.1
  have ha4 := hW.1.2.1
  have hy8 := hW.1.2.2
  obtain ⟨od, pos, ho, hm, hp, hod, hinj⟩ := h.od
  obtain ⟨E7, E8, E9, E50, E51⟩ := h.eqs
  rcases znt i (Hy d) (by omega) with hi | ⟨i, hi, rfl⟩
  · exact Pair.of (t_K_righted_1 hl H hi) (t_M_righted_1 (σ := zuX σ 43 _) hl M hi) rfl hR.r
  · obtain ⟨q, hq, hw, hy⟩ := h.wy hi
    rcases zrg m 2 8 (by decide) (by decide) with hm1 | ⟨m, hm2, hm8, rfl⟩
    · exact Pair.of (t_K_righted_6 hl H hi hq hw hm1) (t_M_righted_6 (σ := zuX σ 43 _) hl M hi hy hm1) rfl hR.r
    · exact Pair.of (t_K_righted_0 hl H ho hi hq hw hm2 hm8) (t_M_righted_0 (σ := zuX (zuX σ 25 _) 26 _) hl M hm hp hi hy hg hm2 hm8) (i_e (h.rE hp hod hinj)) (((hR.u rfl).u rfl).u rfl)

theorem pr_head {σ : zSt} (hR : Rel σ)  : Pair mX11_head mX12_head [] σ := by
  obtain ⟨d, e, b0, h⟩ := id hR
  obtain ⟨hW, hK, hM, hl, hc, hs8, h08, h43, hTr, hg, hz, hwd, hIm⟩ := id h
  have H := h.hd
  have M := h.md
  have hn8 := hW.1.1
  have ha4 := hW.1.2.1
  have hy8 := hW.1.2.2
  obtain ⟨od, pos, ho, hm, hp, hod, hinj⟩ := h.od
  obtain ⟨E7, E8, E9, E50, E51⟩ := h.eqs
  rcases Nat.eq_zero_or_pos (Hy d) with h0 | h0
  · exact Pair.of (t_K_head_5 hl H h0) (t_M_head_5 (σ := zuX σ 43 _) hl M h0) rfl hR.r
  · exact Pair.of (t_K_head_0 hl H ho h.wf h0) (t_M_head_0 (σ := zuX σ 25 _) hl M hm hp h.mf hg h0) (i_e (gI_cong fun z hz => h.tE (fun c hc => h.tfE hp hod hinj hc))) ((hR.u rfl).u rfl)

theorem pr_joined {σ : zSt} (hR : Rel σ) {i : Int32} {j : Int32} {x : Int32} : Pair mX11_joined mX12_joined [.int i, .int j, .int x] σ := by
  obtain ⟨d, e, b0, h⟩ := id hR
  obtain ⟨hW, hK, hM, hl, hc, hs8, h08, h43, hTr, hg, hz, hwd, hIm⟩ := id h
  have H := h.hd
  have M := h.md
  have hn8 := hW.1.1
  have ha4 := hW.1.2.1
  have hy8 := hW.1.2.2
  obtain ⟨od, pos, ho, hm, hp, hod, hinj⟩ := h.od
  obtain ⟨E7, E8, E9, E50, E51⟩ := h.eqs
  rcases znt i (Hy d) (by omega) with hi | ⟨i, hi, rfl⟩
  · rcases znt j (Hy d) (by omega) with hj | ⟨j, hj, rfl⟩
    · exact Pair.of (t_K_joined_1 hl H hi hj) (t_M_joined_1 (σ := zuX σ 43 _) hl M hi) rfl hR.r
    · obtain ⟨q2, hq2, hw2, hy2⟩ := h.wy hj
      exact Pair.of (t_K_joined_2 hl H hi hj hq2) (t_M_joined_1 (σ := zuX σ 43 _) hl M hi) rfl hR.r
  · obtain ⟨q, hq, hw, hy⟩ := h.wy hi
    rcases znt j (Hy d) (by omega) with hj | ⟨j, hj, rfl⟩
    · exact Pair.of (t_K_joined_3 hl H hi hq hw hj) (t_M_joined_3 (σ := zuX σ 43 _) hl M hi hy hj) rfl hR.r
    · obtain ⟨q2, hq2, hw2, hy2⟩ := h.wy hj
      rcases znt x (11) (by decide) with hx | ⟨x, hx, rfl⟩
      · exact Pair.of (t_K_joined_6 hl H hi hq hw hj hq2 hw2 hx) (t_M_joined_6 (σ := zuX σ 43 _) hl M hi hy hj hy2 hx) rfl hR.r
      · exact Pair.of (t_K_joined_0 hl H ho hi hq hw hj hq2 hw2 (x := x) (by omega)) (t_M_joined_0 (σ := zuX (zuX σ 25 _) 26 _) hl M hm hp hi hy hj hy2 hg (x := x) (by omega)) (i_e (h.tE (fun c hc => h.jE hp hod hinj hc))) (((hR.u rfl).u rfl).u rfl)

theorem pr_weights {σ : zSt} (hR : Rel σ) {i : Int32} {j : Int32} : Pair mX11_weights mX12_weights [.int i, .int j] σ := by
  obtain ⟨d, e, b0, h⟩ := id hR
  obtain ⟨hW, hK, hM, hl, hc, hs8, h08, h43, hTr, hg, hz, hwd, hIm⟩ := id h
  have H := h.hd
  have M := h.md
  have hn8 := hW.1.1
  have ha4 := hW.1.2.1
  have hy8 := hW.1.2.2
  obtain ⟨od, pos, ho, hm, hp, hod, hinj⟩ := h.od
  obtain ⟨E7, E8, E9, E50, E51⟩ := h.eqs
  rcases znt i (Hy d) (by omega) with hi | ⟨i, hi, rfl⟩
  · rcases znt j (Hy d) (by omega) with hj | ⟨j, hj, rfl⟩
    · exact Pair.of (t_K_weights_1 hl H hi hj) (t_M_weights_1 (σ := zuX σ 43 _) hl M hi) rfl hR.r
    · obtain ⟨q2, hq2, hw2, hy2⟩ := h.wy hj
      exact Pair.of (t_K_weights_2 hl H hi hj hq2) (t_M_weights_1 (σ := zuX σ 43 _) hl M hi) rfl hR.r
  · obtain ⟨q, hq, hw, hy⟩ := h.wy hi
    rcases znt j (Hy d) (by omega) with hj | ⟨j, hj, rfl⟩
    · exact Pair.of (t_K_weights_3 hl H hi hq hw hj) (t_M_weights_3 (σ := zuX σ 43 _) hl M hi hy hj) rfl hR.r
    · obtain ⟨q2, hq2, hw2, hy2⟩ := h.wy hj
      exact Pair.of (t_K_weights_0 hl H ho hi hq hw hj hq2 hw2) (t_M_weights_0 (σ := zuX (zuX σ 25 _) 26 _) hl M hm hp hi hy hj hy2 hg) (i_e (congrArg nI (ga_cong _ fun z hz => h.tE (fun c hc => h.jE hp hod hinj hc)))) (((hR.u rfl).u rfl).u rfl)

theorem pr_heads {σ : zSt} (hR : Rel σ) {b : Int32} : Pair mX11_heads mX12_heads [.int b] σ := by
  obtain ⟨d, e, b0, h⟩ := id hR
  obtain ⟨hW, hK, hM, hl, hc, hs8, h08, h43, hTr, hg, hz, hwd, hIm⟩ := id h
  have H := h.hd
  have M := h.md
  have hn8 := hW.1.1
  have ha4 := hW.1.2.1
  have hy8 := hW.1.2.2
  obtain ⟨od, pos, ho, hm, hp, hod, hinj⟩ := h.od
  obtain ⟨E7, E8, E9, E50, E51⟩ := h.eqs
  rcases znt b (Ha d) (by omega) with hb | ⟨b, hb, rfl⟩
  · exact Pair.of (t_K_heads_1 hl H hb) (t_M_heads_1 (σ := zuX σ 43 _) hl M hb) rfl hR.r
  · obtain ⟨p1, p2, p3⟩ := hp b hb
    have hdr : ∀ b, b < Ha d → ∃ x, x ≤ 10 ∧ zDr σ b = nI x := fun b hb => by obtain ⟨s, l, r, g1, g2, g3, g4, g5, g6⟩ := hW.2.2.2.1 b hb; refine ⟨r, g3, ?_⟩; unfold zDr; rw [show zX σ 22 = HA d from hK.2.1.2.1]; exact g6
    have key : ∀ o, o ≤ 10 → nI o * mA (dd (zX σ 50) od) (pos b) (Ha d - pos b) = hH (nI 1000 * nI o) (dd (zDr σ) od) (pos b) (Ha d - pos b - 1) := fun o ho10 => by
      have e1 := hH_mA (d := dd (zDr σ) od) (p := pos b) ho10 (Ha d - pos b - 1) (by omega) (fun i hi => hdr _ (hod _ (by omega)))
      rw [show Ha d - pos b - 1 + 1 = Ha d - pos b by omega] at e1
      rw [E50]; exact e1.symm
    obtain ⟨x, hx, ex⟩ := hdr b hb
    exact Pair.of (t_K_heads_0 hl H ho p1 p2 p3) (t_X12_heads_in (σ := σ) M hm p1 p2 p3) (i_e (by
    by_cases hp0 : pos b = 0
    · rw [if_pos hp0, if_pos hp0]; exact key 10 (by decide)
    · rw [if_neg hp0, if_neg hp0, show zX σ 50 b = nI x by rw [E50]; exact ex, ex, show nI 10 - nI x = nI (10 - x) from pk_sub hx]; exact key (10 - x) (by omega))) hR

theorem pr_agree {σ : zSt} (hR : Rel σ) {i : Int32} : Pair mX11_agree mX12_agree [.int i] σ := by
  obtain ⟨d, e, b0, h⟩ := id hR
  obtain ⟨hW, hK, hM, hl, hc, hs8, h08, h43, hTr, hg, hz, hwd, hIm⟩ := id h
  have H := h.hd
  have M := h.md
  have hn8 := hW.1.1
  have ha4 := hW.1.2.1
  have hy8 := hW.1.2.2
  obtain ⟨od, pos, ho, hm, hp, hod, hinj⟩ := h.od
  obtain ⟨E7, E8, E9, E50, E51⟩ := h.eqs
  rcases znt i (Hy d) (by omega) with hi | ⟨i, hi, rfl⟩
  · exact Pair.of (t_K_agree_1 hl H hi) (t_M_agree_1 (σ := zuX σ 43 _) hl M hi) rfl hR.r
  · obtain ⟨q, hq, hw, hy⟩ := h.wy hi
    rcases Nat.eq_zero_or_pos (Hn d) with h0 | h0
    · exact Pair.of (t_K_agree_5 hl H hi hq hw h0) (t_M_agree_5 (σ := zuX σ 43 _) hl M hi hy h0) rfl hR.r
    · exact Pair.of (t_K_agree_0 hl H ho hi hq hw h0) (t_M_agree_0 (σ := zuX σ 25 _) hl M hm hp hi hy hg h0) (i_e (ct_eq _ fun b hb => h.aE hp hod hinj h0)) (hR.u rfl)

theorem pr_wrong {σ : zSt} (hR : Rel σ) {i : Int32} {sl : Bool} : Pair mX11_wrong mX12_wrong_ [.int i, .int (zb sl)] σ := by
  obtain ⟨d, e, b0, h⟩ := id hR
  obtain ⟨hW, hK, hM, hl, hc, hs8, h08, h43, hTr, hg, hz, hwd, hIm⟩ := id h
  have H := h.hd
  have M := h.md
  have hn8 := hW.1.1
  have ha4 := hW.1.2.1
  have hy8 := hW.1.2.2
  obtain ⟨od, pos, ho, hm, hp, hod, hinj⟩ := h.od
  obtain ⟨E7, E8, E9, E50, E51⟩ := h.eqs
  rcases znt i (Hy d) (by omega) with hi | ⟨i, hi, rfl⟩
  · exact Pair.of (t_K_wrong_1 hl H hi) (t_M_wrong_1 (σ := zuX σ 43 _) hl M hi) rfl hR.r
  · obtain ⟨q, hq, hw, hy⟩ := h.wy hi
    rcases Nat.eq_zero_or_pos (Hn d) with h0 | h0
    · exact Pair.of (t_K_wrong_5 hl H hi hq hw h0) (t_M_wrong_5 (σ := zuX σ 43 _) hl M hi hy h0) rfl hR.r
    · exact Pair.of (t_K_wrong_0 hl H ho hi hq hw h0) (t_M_wrong_0 (σ := zuX σ 25 _) hl M hm hp hi hy hg h0) (i_e (h.wE hp hod hinj h0)) (hR.u rfl)

theorem pr_lost {σ : zSt} (hR : Rel σ) {i : Int32} {k : Int32} : Pair mX11_lost mX12_lost [.int i, .int k] σ := by
  obtain ⟨d, e, b0, h⟩ := id hR
  obtain ⟨hW, hK, hM, hl, hc, hs8, h08, h43, hTr, hg, hz, hwd, hIm⟩ := id h
  have H := h.hd
  have M := h.md
  have hn8 := hW.1.1
  have ha4 := hW.1.2.1
  have hy8 := hW.1.2.2
  obtain ⟨od, pos, ho, hm, hp, hod, hinj⟩ := h.od
  obtain ⟨E7, E8, E9, E50, E51⟩ := h.eqs
  rcases znt i (Hy d) (by omega) with hi | ⟨i, hi, rfl⟩
  · exact Pair.of (t_K_lost_1 hl H hi) (t_M_lost_1 (σ := zuX σ 43 _) hl M hi) rfl hR.r
  · obtain ⟨q, hq, hw, hy⟩ := h.wy hi
    by_cases hk5 : nI (Hn d) < k
    · exact Pair.of (t_K_lost_5 hl H hi hq hw hk5) (t_M_lost_5 (σ := zuX σ 43 _) hl M hi hy hk5) rfl hR.r
    · by_cases hk6 : k < nI 1
      · exact Pair.of (t_K_lost_6 hl H hi hq hw hk5 hk6) (t_M_lost_6 (σ := zuX σ 43 _) hl M hi hy hk5 hk6) rfl hR.r
      · rcases zneg k with h0 | ⟨k, hk, rfl⟩
        · exact absurd (by rw [zlt_iff] at h0 ⊢; have e0 : (0 : Int32).toInt = 0 := rfl; have e1 : (nI 1).toInt = 1 := rfl; omega) hk6
        · rw [nq_lt (by omega) hk] at hk5
          rw [nq_lt hk (by decide)] at hk6
          exact Pair.of (t_K_lost_0 hl H ho hi hq hw (k := k) (by omega) (by omega)) (t_M_lost_0 (σ := zuX σ 25 _) hl M hm hp hi hy hg (k := k) (by omega) (by omega)) (i_e (h.lE hp hod hinj (by omega))) (hR.u rfl)

theorem pr_turned {σ : zSt} (hR : Rel σ) {i : Int32} : Pair mX11_turned mX12_turned [.int i] σ := by
  obtain ⟨d, e, b0, h⟩ := id hR
  obtain ⟨hW, hK, hM, hl, hc, hs8, h08, h43, hTr, hg, hz, hwd, hIm⟩ := id h
  have H := h.hd
  have M := h.md
  have hn8 := hW.1.1
  have ha4 := hW.1.2.1
  have hy8 := hW.1.2.2
  obtain ⟨od, pos, ho, hm, hp, hod, hinj⟩ := h.od
  obtain ⟨E7, E8, E9, E50, E51⟩ := h.eqs
  rcases znt i (Hy d) (by omega) with hi | ⟨i, hi, rfl⟩
  · exact Pair.of (t_K_turned_1 hl H hi) (t_M_turned_1 (σ := zuX σ 43 _) hl M hi) rfl hR.r
  · obtain ⟨q, hq, hw, hy⟩ := h.wy hi
    rcases Nat.eq_zero_or_pos (Hn d) with h0 | h0
    · exact Pair.of (t_K_turned_0 hl H ho hi hq hw) (t_M_turned_n (σ := zuX (zuX σ 26 _) 25 _) hl M hi hy h0 hg) (i_e (by rw [h0, tn_0])) ((hR.u rfl).u rfl)
    · exact Pair.of (t_K_turned_0 hl H ho hi hq hw) (t_M_turned_0 (σ := zuX (zuX σ 26 _) 25 _) hl M hm hp hi hy h0 hg) (i_e (tn_tnM h0 hn8 _ (fun b c hb hcc => h.uE hp hod hinj hb hcc)).symm) ((hR.u rfl).u rfl)

theorem pr_piece {σ : zSt} (hR : Rel σ)  : Pair mX11_piece mX12_piece [] σ := by
  obtain ⟨d, e, b0, h⟩ := id hR
  obtain ⟨hW, hK, hM, hl, hc, hs8, h08, h43, hTr, hg, hz, hwd, hIm⟩ := id h
  have H := h.hd
  have M := h.md
  have hn8 := hW.1.1
  have ha4 := hW.1.2.1
  have hy8 := hW.1.2.2
  obtain ⟨od, pos, ho, hm, hp, hod, hinj⟩ := h.od
  obtain ⟨E7, E8, E9, E50, E51⟩ := h.eqs
  exact Pair.of (t_K_piece_0 hl H) (t_M_piece_0 (σ := zuX σ 25 _) hl M) (i_e (congrArg nI (ga_cong _ fun z hz => h.tE (fun c hc => congrArg (fun X => cn X c z) E7.symm)))) ((hR.u rfl).u rfl)

theorem pr_comes {σ : zSt} (hR : Rel σ) {n : Int32} {r : Int32} : Pair mX11_comes mX12_comes [.int n, .int r] σ := by
  obtain ⟨d, e, b0, h⟩ := id hR
  obtain ⟨hW, hK, hM, hl, hc, hs8, h08, h43, hTr, hg, hz, hwd, hIm⟩ := id h
  have H := h.hd
  have M := h.md
  have hn8 := hW.1.1
  have ha4 := hW.1.2.1
  have hy8 := hW.1.2.2
  obtain ⟨od, pos, ho, hm, hp, hod, hinj⟩ := h.od
  obtain ⟨E7, E8, E9, E50, E51⟩ := h.eqs
  rcases zrg n 1 8 (by decide) (by decide) with hn | ⟨n, hn1, hn88, rfl⟩
  · exact Pair.of (t_K_comes_1 hl hn) (t_M_comes_1 (σ := zuX σ 43 _) hl hn) rfl hR.r
  · rcases znt r (n) (by omega) with hr | ⟨r, hr, rfl⟩
    · exact Pair.of (t_K_comes_2 hl hn88 hn1 hr) (t_M_comes_2 (σ := zuX σ 43 _) hl hn88 hn1 hr) rfl hR.r
    · exact Pair.of (t_K_comes_0 hl hn88 hn1 hr) (t_M_comes_0 (σ := σ) hl hn88 hn1 hr) rfl hR

theorem pr_lets {σ : zSt} (hR : Rel σ) {n : Int32} : Pair mX11_lets mX12_lets [.int n] σ := by
  obtain ⟨d, e, b0, h⟩ := id hR
  obtain ⟨hW, hK, hM, hl, hc, hs8, h08, h43, hTr, hg, hz, hwd, hIm⟩ := id h
  have H := h.hd
  have M := h.md
  have hn8 := hW.1.1
  have ha4 := hW.1.2.1
  have hy8 := hW.1.2.2
  obtain ⟨od, pos, ho, hm, hp, hod, hinj⟩ := h.od
  obtain ⟨E7, E8, E9, E50, E51⟩ := h.eqs
  rcases zrg n 1 8 (by decide) (by decide) with hn | ⟨n, hn1, hn88, rfl⟩
  · exact Pair.of (t_K_lets_1 hl hn) (t_M_lets_1 (σ := zuX σ 43 _) hl hn) rfl hR.r
  · exact Pair.of (t_K_lets_0 hl hn88 hn1) (t_M_lets_0 (σ := σ) hl hn88 hn1) rfl hR

theorem pr_trace {σ : zSt} (hR : Rel σ) {i : Int32} : Pair mX11_trace mX12_trace [.int i] σ := by
  obtain ⟨d, e, b0, h⟩ := id hR
  obtain ⟨hW, hK, hM, hl, hc, hs8, h08, h43, hTr, hg, hz, hwd, hIm⟩ := id h
  have H := h.hd
  have M := h.md
  have hn8 := hW.1.1
  have ha4 := hW.1.2.1
  have hy8 := hW.1.2.2
  obtain ⟨od, pos, ho, hm, hp, hod, hinj⟩ := h.od
  obtain ⟨E7, E8, E9, E50, E51⟩ := h.eqs
  obtain ⟨t1, r, t2, t3, t4⟩ := hTr
  rcases zneg i with hi | ⟨i, hi, rfl⟩
  · exact Pair.of (t_K_trace_n hl hi) (t_M_trace_n (σ := σ) hl hi) rfl hR
  · by_cases h20 : i < 20
    · by_cases hr : i < r
      · exact Pair.of (t_K_trace_0 hl t3 t2 hr h20) (t_M_trace_0 (σ := σ) hl t4 t2 hr h20) (by rw [t1]) hR
      · exact Pair.of (t_K_trace_f hl t3 (nI_nneg hi) ((nq_le t2 hi).mpr (by omega))) (t_M_trace_f (σ := σ) hl t4 (nI_nneg hi) ((nq_le t2 hi).mpr (by omega))) rfl hR
    · exact Pair.of (t_K_trace_f2 hl (nI_nneg hi) ((nq_le (by decide) hi).mpr (by omega))) (t_M_trace_f2 (σ := σ) hl (nI_nneg hi) ((nq_le (by decide) hi).mpr (by omega))) rfl hR

theorem pr_status {σ : zSt} (hR : Rel σ) {v : Int32} : Pair mX11_status mX12_status [.int v] σ := by
  obtain ⟨d, e, b0, h⟩ := id hR
  obtain ⟨hW, hK, hM, hl, hc, hs8, h08, h43, hTr, hg, hz, hwd, hIm⟩ := id h
  have H := h.hd
  have M := h.md
  have hn8 := hW.1.1
  have ha4 := hW.1.2.1
  have hy8 := hW.1.2.2
  obtain ⟨od, pos, ho, hm, hp, hod, hinj⟩ := h.od
  obtain ⟨E7, E8, E9, E50, E51⟩ := h.eqs
  rcases znt v (18) (by decide) with hv | ⟨v, hv, rfl⟩
  · have hx : (v.toInt < 0 ∨ 6 < v.toInt) ∧ (v ≤ nI 10 ∨ nI 17 < v) ∧ (v < nI 11 ∨ nI 17 < v) := by
      simp only [zlt_iff, zle_iff, show (nI 10).toInt = 10 from rfl, show (nI 17).toInt = 17 from rfl, show (nI 11).toInt = 11 from rfl]
      rcases hv with hv | hv
      · rw [zlt_iff, show (0 : Int32).toInt = 0 from rfl] at hv; omega
      · rw [zle_iff, show (nI 18).toInt = 18 from rfl] at hv; omega
    exact Pair.of (t_K_status_x hl hx.1 hx.2.1) (t_M_status_x (σ := σ) hl hx.1 hx.2.2) rfl hR
  · by_cases h11 : 11 ≤ v
    · exact Pair.of (t_K_status_r hl h11 (by omega)) (t_M_status_r (σ := σ) hl h11 (by omega)) (by rw [h43]) hR
    · by_cases h7 : 7 ≤ v
      · have hx : ((nI v).toInt < 0 ∨ 6 < (nI v).toInt) ∧ (nI v ≤ nI 10 ∨ nI 17 < nI v) ∧ (nI v < nI 11 ∨ nI 17 < nI v) := by
          simp only [zlt_iff, zle_iff, nI_toInt (show v < 2 ^ 31 by omega), show (nI 10).toInt = 10 from rfl, show (nI 17).toInt = 17 from rfl, show (nI 11).toInt = 11 from rfl]
          omega
        exact Pair.of (t_K_status_x hl hx.1 hx.2.1) (t_M_status_x (σ := σ) hl hx.1 hx.2.2) rfl hR
      · rcases (by omega : v = 0 ∨ v = 1 ∨ v = 2 ∨ v = 3 ∨ v = 4 ∨ v = 5 ∨ v = 6) with rfl | rfl | rfl | rfl | rfl | rfl | rfl
        · exact Pair.of (t_K_status_0 hl H) (t_M_status_0 (σ := σ) hl M) rfl hR
        · exact Pair.of (t_K_status_1 hl H) (t_M_status_1 (σ := σ) hl M) rfl hR
        · exact Pair.of (t_K_status_2 hl H) (t_M_status_2 (σ := σ) hl M) rfl hR
        · exact Pair.of (t_K_status_3 hl H) (t_M_status_3 (σ := σ) hl M) (by rw [E7]) hR
        · rcases Nat.eq_zero_or_pos (Ha d) with h0 | h0
          · exact Pair.of (t_K_status_4n hl H h0) (t_M_status_4n (σ := σ) hl M h0) rfl hR
          · exact Pair.of (t_K_status_4 hl H h0) (t_M_status_4 (σ := σ) hl M h0) (by rw [E51]) hR
        · exact Pair.of (t_K_status_5 hl H) (t_M_status_5 (σ := σ) hl M) (i_e (hM.1.2.2.2.trans hK.1.2.2.2.symm)) hR
        · exact Pair.of (t_K_status_6 hl H) (t_M_status_6 (σ := σ) hl M) (i_e (by obtain ⟨t1, r, t2, t3, t4⟩ := hTr; rw [t3, t4])) hR
