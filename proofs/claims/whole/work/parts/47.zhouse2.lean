/-! houses read: the class's reading and its call -/
theorem Z.widen {κ : zCtx} {u w u' w' pc : Nat} {σ : zSt} {L : List (Nat × Value)} {st : List Value} (h1 : u ≤ u') (h2 : w ≤ w') (k : Z κ u' w' σ pc L st) : Z κ u w σ pc L st := by
  obtain ⟨p, l, e, R, s, m, args, below, meth, c, E, A, ad0, n0, Q⟩ := κ
  intro ad H locs ls hw ha hS hl
  exact W.widen h1 h2 (k ad H locs ls hw ha hS hl)
def flt : Option Nat → Int32
  | none => -1
  | some x => nI x
theorem itN_le {T : Nat → Int32} {a : Nat} : a ≤ itN T a ∧ itN T a ≤ a + 23 := by
  have h4 := wd_4 (T := T) (a := a)
  have h := ps_le (T := T) (p := a + wl (wd T a)) (wc (wd T a))
  unfold itN
  have : wd T a = 0 ∨ wd T a = 1 ∨ wd T a = 2 ∨ wd T a = 3 ∨ wd T a = 4 := by omega
  rcases this with hw | hw | hw | hw | hw <;> rw [hw] at h ⊢ <;> simp only [wl, wc, List.getD_eq_getElem?_getD] at h ⊢ <;> simp at h ⊢ <;> omega
theorem ipB_le {T : Nat → Int32} {a x : Nat} {d : HD} (h : ipB T a d = some x) : x ≤ a + 24 := by
  unfold ipB itB at h
  by_cases h1 : wd T a = 4
  · rw [if_pos h1] at h
    have e0 : al T a 0 ≤ 5 := al_s.1
    have e1 : al T a 1 ≤ 5 := al_s.1
    have e2 : al T a 2 ≤ 3 := al_s.1
    have e3 : al T a 3 ≤ 5 := al_s.1
    have : far T a ≤ 5 := by unfold far; omega
    cases h; omega
  rw [if_neg h1] at h
  by_cases h2 : ful (wd T a) (Hn d) (Ha d) (Hy d) = true
  · rw [if_pos h2] at h; cases h; omega
  rw [if_neg h2] at h
  by_cases h3 : fbd T (a + wl (wd T a)) (Ha d) (wd T a) < wc (wd T a)
  · rw [if_pos h3] at h
    have h5 := nbd_le (T := T) (q := ps T (a + wl (wd T a)) (fbd T (a + wl (wd T a)) (Ha d) (wd T a)))
    have h6 := ps_le (T := T) (p := a + wl (wd T a)) (fbd T (a + wl (wd T a)) (Ha d) (wd T a))
    have hwl : wl (wd T a) ≤ 5 ∧ wc (wd T a) ≤ 6 := by
      have h4 := wd_4 (T := T) (a := a)
      have : wd T a = 0 ∨ wd T a = 1 ∨ wd T a = 2 ∨ wd T a = 3 ∨ wd T a = 4 := by omega
      rcases this with hw | hw | hw | hw | hw <;> rw [hw] <;> decide
    cases h; omega
  · rw [if_neg h3] at h; cases h
theorem zTx.fr {σ τ : zSt} {q : Nat} {T : Nat → Int32} (h : zTx σ q T) (hq : q + 1 < 34) (hf : zFr 34 42 (some 39) σ τ) : zTx τ q T := by
  obtain ⟨⟨s1, s2, s3, s4, s5⟩, m, h2, h3, h4⟩ := h
  obtain ⟨a1, a2, a3, a4⟩ := hf.2 q (by omega)
  obtain ⟨b1, b2, b3, b4⟩ := hf.2 (q + 1) s1
  exact ⟨⟨Nat.lt_of_lt_of_le s1 hf.1, a1.trans s2, b1.trans s3, b2.trans s4, by rw [a4 (fun e => by cases e; omega)]; exact s5⟩, m, by rw [(a3 (by omega)).1]; exact h2, h3, fun i => by rw [(b3 (by omega)).2]; exact h4 i⟩
theorem zTx.sz {σ τ : zSt} {q m : Nat} {T : Nat → Int32} (h : zTx σ q T) (hq : q + 1 < 34) (hm : zX σ q 2 = nI m) (hf : zFr 34 42 (some 39) σ τ) : zX τ q 2 = nI m := by
  rw [((hf.2 q (by have := h.1.1; omega)).2.2.1 (by omega)).1]; exact hm
theorem DI.of {σ : zSt} {d : HD} (hl : Lay σ) (hK : KH σ 35 d) (hW : HW d) (hc : zCl σ) : DI σ (Hn d) (Ha d) (Hy d) := by
  obtain ⟨⟨a1, a2, a3, a4⟩, ⟨b1, b2, b3⟩, c1, c2⟩ := hK
  obtain ⟨od, pos, ho⟩ := hW.2.2.2.2.2.1
  have b3 : zX σ 38 = HO d := b3
  exact ⟨hl, a1, hW.1.1, a2, hW.1.2.1, a3, hW.1.2.2, hc, od, fun i hi => by rw [b3]; exact ho.1 i hi, fun b hb => ⟨pos b, (ho.2.1 b hb).1, (ho.2.1 b hb).2.1⟩⟩
theorem L39 : ∀ f, layR 39 f = 0 := fun _ => rfl

theorem t_X2_faultFound {σ : zSt} (hl : Lay σ) : Dt mX2_faultFound [.ref 34] σ (some (.int (zX σ 34 3))) σ := by
  refine Dt.of (by decide) (Nat.le_of_ble_eq_true rfl) fun κ B Rt => ?_
  show Z κ 0 0 σ 0 [(0, .ref 34)] []
  refine Z.aload_n B dX2_faultFound_0 (v := .ref 34) rfl rfl ?_
  refine Z.getI (σ := σ) B fX2_23_2 dX2_faultFound_1 (hl.n (k := 34) (by decide)) (hl.k (k := 34) (by decide)) (by decide) (v := (zX σ 34 3)) rfl ?_
  refine Z.iret B Rt dX2_faultFound_4 (ty := .int) rfl rfl (by decide) (by decide) ?_
  exact ⟨rfl, rfl⟩

theorem t_X2_draft {σ : zSt} (hl : Lay σ) : Dt mX2_draft [.ref 34] σ (some (.ref 35)) σ := by
  refine Dt.of (by decide) (Nat.le_of_ble_eq_true rfl) fun κ B Rt => ?_
  show Z κ 0 0 σ 0 [(0, .ref 34)] []
  refine Z.aload_n B dX2_draft_0 (v := .ref 34) rfl rfl ?_
  refine Z.getR (σ := σ) B fX2_9_2 dX2_draft_1 (hl.n (k := 34) (by decide)) (hl.k (k := 34) (by decide)) (by decide) (j := 35) (hl.r (k := 34) (f := 0) (by decide) (by decide)) ?_
  refine Z.aret B Rt dX2_draft_4 (rt := (.object "FourAskOne$House")) rfl (Or.inl ⟨_, rfl⟩) rfl (by decide) (by decide) ?_
  exact ⟨rfl, rfl⟩

theorem rd_go {κ : zCtx} (B : zB mX2_read κ) {T : Nat → Int32} {q m : Nat} (hq : q + 1 < 34) (hm160 : m ≤ 160) {σ0 : zSt} : ∀ (f : Nat) (σ : zSt) (d : HD) (a it : Nat), Lay σ → KH σ 35 d → HW d → zCl σ → zTx σ q T → zX σ q 2 = nI m → zX σ 34 2 = nI a → zX σ 34 3 = (-1) → zFr 34 42 (some 39) σ0 σ → zPl0 κ ≤ zN σ → it ≤ a → a ≤ m → m < a + f →
  (∀ τ, KH τ 35 (pr T m f a d).2.2 → zX τ 34 3 = flt (pr T m f a d).1 → zFr 34 42 (some 39) σ0 τ → zCl τ → Lay τ → Z κ 161 644 τ 100 [(0, .ref 34), (1, .ref q), (2, .ref 20), (3, .int (nI (it + (pr T m f a d).2.1))), (4, .int (nI 0))] []) →
  Z κ it (4 * it) σ 23 [(0, .ref 34), (1, .ref q), (2, .ref 20), (3, .int (nI it)), (4, .int (nI 1))] []
  | 0, σ, d, a, it, hl, hK, hW, hc, ht, hm, e1, e2, hf, hN, hia, ham, hfu, hend => by omega
  | f + 1, σ, d, a, it, hl, hK, hW, hc, ht, hm, e1, e2, hf, hN, hia, ham, hfu, hend => by
    refine Z.iload B dX2_read_23 (x := nI 1) rfl ?_
    refine Z.if_eqN B dX2_read_25 (tgt := 100) rfl (by omega) (fun h25 => by exfalso; first | omega | contradiction | simp_all) (fun h25 => ?_)
    refine Z.iload_n B dX2_read_28 (x := nI it) rfl ?_
    refine Z.aload_n B dX2_read_29 (v := .ref q) rfl rfl ?_
    refine Z.callVI (σ := σ) B (M' := mX6_size) (as := []) (st := [.int (nI it)]) (v := .int (zX σ q 2)) dX2_read_30 wX6_size iX6_size sX6_size kX2_32 (Nat.lt_of_succ_lt ht.1.1) ht.1.2.1 (by decide) rfl rfl (t_X6_size ht.1) rfl rfl (by decide) (by decide) (Nat.le_of_ble_eq_true rfl) (by show _ ≤ 161; omega) (by show _ ≤ 644; omega) ?_
    rw [hm]
    refine Z.icmp_gtN B dX2_read_33 (tgt := 100) rfl (by omega) (by omega) (fun h33 => (by omega)) (fun h33 => ?_)
    refine Z.aload_n B dX2_read_36 (v := .ref 34) rfl rfl ?_
    refine Z.aload_n B dX2_read_37 (v := .ref q) rfl rfl ?_
    refine Z.callVA (σ := σ) B (M' := mX2_readItem) (as := [.ref q]) (st := []) dX2_read_38 wX2_readItem iX2_readItem sX2_readItem kX2_38 (hl.n (k := 34) (by decide)) (hl.k (k := 34) (by decide)) (by decide) rfl rfl (it_t (DI.of hl hK hW hc) ht (by omega) (by omega) e1 e2) rfl rfl (by decide) (by decide) (by show it + 1 ≤ 161; omega) (by show 4 * it + 4 ≤ 644; omega) (by decide) hN (zLLc (show 34 < zN σ from (by have h66 := hl.1; show 34 < zN σ; omega)) (zLLc (show q < zN σ from (by have h66 := hl.1; show q < zN σ; omega)) (zLLc (show 20 < zN σ from (by have h66 := hl.1; show 20 < zN σ; omega)) (zLLc trivial (zLLc trivial zLL0))))) zLS0 ?_
    show Z κ (it + 1) (4 * it + 4) (itG T σ a (Hn d) (Ha d) (Hy d)) 41 [(0, .ref 34), (1, .ref q), (2, .ref 20), (3, .int (nI it)), (4, .int (nI 1))] []
    have hp := itP_t (T := T) (a := a) hl hK hW hc
    generalize itG T σ a (Hn d) (Ha d) (Hy d) = τ at hp ⊢
    obtain ⟨hp1, hp2, hp3, hp4⟩ := hp
    have hlt : Lay τ := hl.fr hp1 L39
    have htt : zTx τ q T := ht.fr hq hp1
    have hmt : zX τ q 2 = nI m := ht.sz hq hm hp1
    refine Z.iincN B dX2_read_41 (by decide) (a := it) rfl (L' := [(0, .ref 34), (1, .ref q), (2, .ref 20), (3, .int (nI (it + 1))), (4, .int (nI 1))]) rfl ?_
    refine Z.aload_n B dX2_read_44 (v := .ref 34) rfl rfl ?_
    rcases hB : ipB T a d with _ | x
    · skip
      refine Z.getI (σ := τ) B fX2_23_2 dX2_read_45 (hlt.n (k := 34) (by decide)) (hlt.k (k := 34) (by decide)) (by decide) (v := (-1)) (hp4 hB).2.2 ?_
      refine Z.iconst B dX2_read_48 (v := (-1)) rfl ?_
      refine Z.icmp_ne B dX2_read_49 (tgt := 67) rfl (fun h49 => absurd rfl h49) (fun h49 => ?_)
      refine Z.aload_n B dX2_read_52 (v := .ref 34) rfl rfl ?_
      have hNl := itN_le (T := T) (a := a)
      refine Z.getI (σ := τ) B fX2_19_2 dX2_read_53 (hlt.n (k := 34) (by decide)) (hlt.k (k := 34) (by decide)) (by decide) (v := nI (itN T a)) (hp4 hB).2.1 ?_
      refine Z.aload_n B dX2_read_56 (v := .ref q) rfl rfl ?_
      refine Z.callVI (σ := τ) B (M' := mX6_size) (as := []) (st := [.int (nI (itN T a))]) (v := .int (zX τ q 2)) dX2_read_57 wX6_size iX6_size sX6_size kX2_32 (Nat.lt_of_succ_lt htt.1.1) htt.1.2.1 (by decide) rfl rfl (t_X6_size htt.1) rfl rfl (by decide) (by decide) (Nat.le_of_ble_eq_true rfl) (by show _ ≤ 161; omega) (by show _ ≤ 644; omega) ?_
      rw [hmt]
      refine Z.icmp_geN B dX2_read_60 (tgt := 67) rfl (by omega) (by omega) (fun h60 => ?_) (fun h60 => ?_)
      · skip
        refine Z.iconst B dX2_read_67 (v := nI 0) rfl ?_
        refine Z.istore B dX2_read_68 (by decide) (L' := [(0, .ref 34), (1, .ref q), (2, .ref 20), (3, .int (nI (it + 1))), (4, .int (nI 0))]) rfl ?_
        refine Z.iload B dX2_read_70 (x := nI 0) rfl ?_
        refine Z.if_eqN B dX2_read_72 (tgt := 23) rfl (by omega) (fun h72 => ?_) (fun h72 => by exfalso; first | omega | contradiction | simp_all)
        refine Z.iload B dX2_read_23 (x := nI 0) rfl ?_
        refine Z.if_eqN B dX2_read_25 (tgt := 100) rfl (by omega) (fun h25 => ?_) (fun h25 => by exfalso; first | omega | contradiction | simp_all)
        refine Z.widen (u' := 161) (w' := 644) (by omega) (by omega) ?_
        have hpr : pr T m (f + 1) a d = (none, 1, ipD T a d) := by simp only [pr, hB]; rw [if_neg (by omega)]
        rw [hpr] at hend
        exact hend _ (hp4 hB).1 (hp4 hB).2.2 (hf.tr hp1) hp2 hlt
      · skip
        refine Z.iconst B dX2_read_63 (v := nI 1) rfl ?_
        refine Z.goto B dX2_read_64 (tgt := 68) rfl ?_
        refine Z.istore B dX2_read_68 (by decide) (L' := [(0, .ref 34), (1, .ref q), (2, .ref 20), (3, .int (nI (it + 1))), (4, .int (nI 1))]) rfl ?_
        refine Z.iload B dX2_read_70 (x := nI 1) rfl ?_
        refine Z.if_eqN B dX2_read_72 (tgt := 23) rfl (by omega) (fun h72 => by exfalso; first | omega | contradiction | simp_all) (fun h72 => ?_)
        refine Z.eqσ (τ := tS τ (itN T a) (-1) (zX τ 42)) (tS_id (hp4 hB).2.1 (hp4 hB).2.2).symm ?_
        refine Z.aload_n B dX2_read_75 (v := .ref 34) rfl rfl ?_
        refine Z.aload_n B dX2_read_76 (v := .ref q) rfl rfl ?_
        refine Z.bipush B dX2_read_77 (v := nI 59) rfl ?_
        by_cases hsc : T (itN T a) = nI 59
        · skip
          refine Z.callVN (σ := (tS τ (itN T a) (-1) (zX τ 42))) B (M' := mX2_pass) (as := [.ref q, .int (nI 59)]) (st := []) dX2_read_79 wX2_pass iX2_pass sX2_pass kX2_42 (hlt.n (k := 34) (by decide)) (hlt.k (k := 34) (by decide)) (by decide) rfl rfl (t_X2_pass_1 (σ := τ) (f := -1) (r := zX τ 42) hlt htt (by omega) (a := itN T a) (by omega) (c := 59) hsc) rfl rfl (by decide) (by decide) (Nat.le_of_ble_eq_true rfl) (by show _ ≤ 161; omega) (by show _ ≤ 644; omega) ?_
          refine Z.aload_n B dX2_read_82 (v := .ref 34) rfl rfl ?_
          refine Z.getI (σ := (tS τ (itN T a + 1) (-1) (zX τ 42))) B fX2_23_2 dX2_read_83 (hlt.n (k := 34) (by decide)) (hlt.k (k := 34) (by decide)) (by decide) (v := (-1)) tS_f ?_
          refine Z.iconst B dX2_read_86 (v := (-1)) rfl ?_
          refine Z.icmp_ne B dX2_read_87 (tgt := 94) rfl (fun h87 => absurd rfl h87) (fun h87 => ?_)
          refine Z.iconst B dX2_read_90 (v := nI 1) rfl ?_
          refine Z.goto B dX2_read_91 (tgt := 95) rfl ?_
          refine Z.istore B dX2_read_95 (by decide) (L' := [(0, .ref 34), (1, .ref q), (2, .ref 20), (3, .int (nI (it + 1))), (4, .int (nI 1))]) rfl ?_
          refine Z.goto B dX2_read_97 (tgt := 23) rfl ?_
          have hpr : pr T m (f + 1) a d = ((pr T m f (itN T a + 1) (ipD T a d)).1, (pr T m f (itN T a + 1) (ipD T a d)).2.1 + 1, (pr T m f (itN T a + 1) (ipD T a d)).2.2) := by simp only [pr, hB]; rw [if_pos (by omega), if_pos hsc]
          rw [hpr] at hend
          exact rd_go B hq hm160 f _ (ipD T a d) (itN T a + 1) (it + 1) hlt (hp4 hB).1.tS (hW.ip hB) hp2.tS (htt.tS (by omega)) (by rw [tS_o (by omega) (by omega)]; exact hmt) tS_a tS_f (hf.tr (hp1.tr zFr.tS)) (Nat.le_trans hN hp1.1) (by omega) (by omega) (by omega) (fun υ g1 g2 g3 g4 g5 => by have := hend υ g1 g2 g3 g4 g5; rwa [show it + ((pr T m f (itN T a + 1) (ipD T a d)).2.1 + 1) = it + 1 + (pr T m f (itN T a + 1) (ipD T a d)).2.1 by omega] at this)
        · skip
          refine Z.callVN (σ := (tS τ (itN T a) (-1) (zX τ 42))) B (M' := mX2_pass) (as := [.ref q, .int (nI 59)]) (st := []) dX2_read_79 wX2_pass iX2_pass sX2_pass kX2_42 (hlt.n (k := 34) (by decide)) (hlt.k (k := 34) (by decide)) (by decide) rfl rfl (t_X2_pass_0 (σ := τ) (f := -1) (r := zX τ 42) hlt htt (by omega) (a := itN T a) (by omega) (c := 59) hsc) rfl rfl (by decide) (by decide) (Nat.le_of_ble_eq_true rfl) (by show _ ≤ 161; omega) (by show _ ≤ 644; omega) ?_
          refine Z.aload_n B dX2_read_82 (v := .ref 34) rfl rfl ?_
          refine Z.getI (σ := (tS τ (itN T a) (nI (itN T a)) (zX τ 42))) B fX2_23_2 dX2_read_83 (hlt.n (k := 34) (by decide)) (hlt.k (k := 34) (by decide)) (by decide) (v := nI (itN T a)) tS_f ?_
          refine Z.iconst B dX2_read_86 (v := (-1)) rfl ?_
          refine Z.icmp_ne B dX2_read_87 (tgt := 94) rfl (fun h87 => ?_) (fun h87 => (zm1 (by omega) h87).elim)
          refine Z.iconst B dX2_read_94 (v := nI 0) rfl ?_
          refine Z.istore B dX2_read_95 (by decide) (L' := [(0, .ref 34), (1, .ref q), (2, .ref 20), (3, .int (nI (it + 1))), (4, .int (nI 0))]) rfl ?_
          refine Z.goto B dX2_read_97 (tgt := 23) rfl ?_
          refine Z.iload B dX2_read_23 (x := nI 0) rfl ?_
          refine Z.if_eqN B dX2_read_25 (tgt := 100) rfl (by omega) (fun h25 => ?_) (fun h25 => by exfalso; first | omega | contradiction | simp_all)
          refine Z.widen (u' := 161) (w' := 644) (by omega) (by omega) ?_
          have hpr : pr T m (f + 1) a d = (some (itN T a), 1, ipD T a d) := by simp only [pr, hB]; rw [if_pos (by omega), if_neg hsc]
          rw [hpr] at hend
          exact hend _ (hp4 hB).1.tS tS_f (hf.tr (hp1.tr zFr.tS)) hp2.tS hlt
    · skip
      have hxl := ipB_le hB
      refine Z.getI (σ := τ) B fX2_23_2 dX2_read_45 (hlt.n (k := 34) (by decide)) (hlt.k (k := 34) (by decide)) (by decide) (v := nI x) (hp3 x hB).2 ?_
      refine Z.iconst B dX2_read_48 (v := (-1)) rfl ?_
      refine Z.icmp_ne B dX2_read_49 (tgt := 67) rfl (fun h49 => ?_) (fun h49 => (zm1 (by omega) h49).elim)
      refine Z.iconst B dX2_read_67 (v := nI 0) rfl ?_
      refine Z.istore B dX2_read_68 (by decide) (L' := [(0, .ref 34), (1, .ref q), (2, .ref 20), (3, .int (nI (it + 1))), (4, .int (nI 0))]) rfl ?_
      refine Z.iload B dX2_read_70 (x := nI 0) rfl ?_
      refine Z.if_eqN B dX2_read_72 (tgt := 23) rfl (by omega) (fun h72 => ?_) (fun h72 => by exfalso; first | omega | contradiction | simp_all)
      refine Z.iload B dX2_read_23 (x := nI 0) rfl ?_
      refine Z.if_eqN B dX2_read_25 (tgt := 100) rfl (by omega) (fun h25 => ?_) (fun h25 => by exfalso; first | omega | contradiction | simp_all)
      refine Z.widen (u' := 161) (w' := 644) (by omega) (by omega) ?_
      have hpr : pr T m (f + 1) a d = (some x, 1, d) := by simp only [pr, hB]
      rw [hpr] at hend
      exact hend _ (hp3 x hB).1 (hp3 x hB).2 (hf.tr hp1) hp2 hlt

/-- beyond the draft's lengths there is nothing -/
def DZ (σ : zSt) (h : Nat) : Prop := (∀ k, 48 ≤ k → zX σ (h + 1) k = 0) ∧ (∀ k, 12 ≤ k → zX σ (h + 2) k = 0) ∧ (∀ k, 4 ≤ k → zX σ (h + 3) k = 0) ∧ ∀ k, 8 ≤ k → zR σ (h + 4) k = none
theorem KH.dz {σ : zSt} {h : Nat} {d : HD} (hK : KH σ h d) (hW : HW d) : DZ σ h := by
  obtain ⟨-, ⟨b1, b2, b3⟩, c1, c2⟩ := hK
  exact ⟨fun k hk => by rw [b1]; exact hW.2.2.1 k hk, fun k hk => by rw [b2]; exact hW.2.2.2.2.1 k hk, fun k hk => by rw [b3]; exact hW.2.2.2.2.2.2.1 k hk, fun k hk => c2 k (Nat.le_trans hW.1.2.2 hk)⟩
theorem zWk_is {kd : Nat} (h : kd ≤ 6) : zIsW (zWk kd) := by
  have : kd = 0 ∨ kd = 1 ∨ kd = 2 ∨ kd = 3 ∨ kd = 4 ∨ kd = 5 ∨ kd = 6 := by omega
  rcases this with rfl | rfl | rfl | rfl | rfl | rfl | rfl <;> (unfold zIsW; decide)
theorem KH.ways {σ : zSt} {h : Nat} {d : HD} (hK : KH σ h d) : ∀ k, k < 8 → ∀ q, zR σ (h + 4) k = some q → 66 ≤ q ∧ q < zN σ ∧ zIsW (zK σ q) := by
  intro k hk q hq
  obtain ⟨-, -, c1, c2⟩ := hK
  rcases Nat.lt_or_ge k (Hy d) with h1 | h1
  · obtain ⟨q', g1, g2⟩ := c1 k h1
    rw [hq] at g1
    cases g1
    obtain ⟨z1, z2, z3, z4, z5, z6, z7, z8, z9, z10⟩ := g2
    exact ⟨z10, z1, by rw [z2]; exact zWk_is z7⟩
  · rw [c2 k h1] at hq; cases hq
/-- one house takes another over -/
theorem KH.over {σ τ : zSt} {h j : Nat} {d : HD} (hK : KH σ j d) (e0 : zX τ h 2 = zX σ j 2 ∧ zX τ h 5 = zX σ j 5 ∧ zX τ h 7 = zX σ j 7 ∧ zX τ h 8 = zX σ j 8) (e1 : zX τ (h + 1) = zX σ (j + 1)) (e2 : zX τ (h + 2) = zX σ (j + 2)) (e3 : zX τ (h + 3) = zX σ (j + 3)) (e4 : zR τ (h + 4) = zR σ (j + 4)) (hw : ∀ q kd pa w, zWo σ q kd pa w → zWo τ q kd pa w) : KH τ h d := by
  obtain ⟨⟨a1, a2, a3, a4⟩, ⟨b1, b2, b3⟩, c1, c2⟩ := hK
  refine ⟨⟨by rw [e0.1]; exact a1, by rw [e0.2.1]; exact a2, by rw [e0.2.2.1]; exact a3, by rw [e0.2.2.2]; exact a4⟩, ⟨e1.trans b1, e2.trans b2, e3.trans b3⟩, fun w hw2 => ?_, fun w hw2 => by rw [e4]; exact c2 w hw2⟩
  obtain ⟨q, q1, q2⟩ := c1 w hw2
  exact ⟨q, by rw [e4]; exact q1, hw _ _ _ _ q2⟩

theorem t_X2_read {σ : zSt} {d : HD} {q m : Nat} {T : Nat → Int32} (hl : Lay σ) (hK : KH σ 20 d) (hW : HW d) (hc : zCl σ) (ht : zTx σ q T) (hq : q + 1 < 34) (hm : zX σ q 2 = nI m) (hm160 : m ≤ 160) (hz : DZ σ 35) : Ct mX2_read [.ref 34, .ref q, .ref 20] σ (fun r τ => r = some (.int (nI (pr T m (m + 1) 0 d).2.1)) ∧ KH τ 35 (pr T m (m + 1) 0 d).2.2 ∧ zX τ 34 3 = flt (pr T m (m + 1) 0 d).1 ∧ zFr 34 42 (some 39) σ τ ∧ zCl τ) := by
  obtain ⟨z1, z2, z3, z4⟩ := hz
  obtain ⟨y1, y2, y3, y4⟩ := hK.dz hW
  have k1 : ∀ k, 48 ≤ k → zX σ 36 k = zX σ 21 k := fun k hk => (z1 k hk).trans (y1 k hk).symm
  have k2 : ∀ k, 12 ≤ k → zX σ 37 k = zX σ 22 k := fun k hk => (z2 k hk).trans (y2 k hk).symm
  have k3 : ∀ k, 4 ≤ k → zX σ 38 k = zX σ 23 k := fun k hk => (z3 k hk).trans (y3 k hk).symm
  have k4 : ∀ k, 8 ≤ k → zR σ 39 k = zR σ 24 k := fun k hk => (z4 k hk).trans (y4 k hk).symm
  refine Ct.ofN (by decide) (Nat.le_of_ble_eq_true rfl) fun κ B Rt hn0 => ?_
  show Z κ 0 0 σ 0 [(0, .ref 34), (1, .ref q), (2, .ref 20)] []
  refine Z.aload_n B dX2_read_0 (v := .ref 34) rfl rfl ?_
  refine Z.getR (σ := σ) B fX2_9_2 dX2_read_1 (hl.n (k := 34) (by decide)) (hl.k (k := 34) (by decide)) (by decide) (j := 35) (hl.r (k := 34) (f := 0) (by decide) (by decide)) ?_
  refine Z.aload_n B dX2_read_4 (v := .ref 20) rfl rfl ?_
  refine Z.callVN (σ := σ) B (M' := mX1_takeOver) (as := [.ref 20]) (st := []) dX2_read_5 wX1_takeOver iX1_takeOver sX1_takeOver kX2_26 (hl.n (k := 35) (by decide)) (hl.k (k := 35) (by decide)) (by decide) rfl rfl (t_X1_takeOver_35_20 (σ := σ) hl k1 k2 k3 k4 hK.ways) rfl rfl (by decide) (by decide) (Nat.le_of_ble_eq_true rfl) (by decide) (by decide) ?_
  refine Z.eqσ (τ := (zuX (zuR (zuX (zuX (zuX σ 36 (zX σ 21)) 37 (zX σ 22)) 38 (zX σ 23)) 39 (zR σ 24)) 35 (upd (upd (upd (upd (zX σ 35) 2 (zX σ 20 2)) 5 (zX σ 20 5)) 7 (zX σ 20 7)) 8 (zX σ 20 8)))) rfl ?_
  refine Z.aload_n B dX2_read_8 (v := .ref 34) rfl rfl ?_
  refine Z.iconst B dX2_read_9 (v := nI 0) rfl ?_
  refine Z.putI (σ := (zuX (zuR (zuX (zuX (zuX σ 36 (zX σ 21)) 37 (zX σ 22)) 38 (zX σ 23)) 39 (zR σ 24)) 35 (upd (upd (upd (upd (zX σ 35) 2 (zX σ 20 2)) 5 (zX σ 20 5)) 7 (zX σ 20 7)) 8 (zX σ 20 8)))) B fX2_19_2 (ty := .int) ⟨_, _, _, rfl, rfl, by decide +kernel⟩ dX2_read_10 (hl.n (k := 34) (by decide)) (hl.k (k := 34) (by decide)) (by decide) rfl rfl (τ := (zuX (zuX (zuR (zuX (zuX (zuX σ 36 (zX σ 21)) 37 (zX σ 22)) 38 (zX σ 23)) 39 (zR σ 24)) 35 (upd (upd (upd (upd (zX σ 35) 2 (zX σ 20 2)) 5 (zX σ 20 5)) 7 (zX σ 20 7)) 8 (zX σ 20 8))) 34 (upd (zX σ 34) 2 (nI 0)))) rfl ?_
  refine Z.aload_n B dX2_read_13 (v := .ref 34) rfl rfl ?_
  refine Z.iconst B dX2_read_14 (v := (-1)) rfl ?_
  refine Z.putI (σ := (zuX (zuX (zuR (zuX (zuX (zuX σ 36 (zX σ 21)) 37 (zX σ 22)) 38 (zX σ 23)) 39 (zR σ 24)) 35 (upd (upd (upd (upd (zX σ 35) 2 (zX σ 20 2)) 5 (zX σ 20 5)) 7 (zX σ 20 7)) 8 (zX σ 20 8))) 34 (upd (zX σ 34) 2 (nI 0)))) B fX2_23_2 (ty := .int) ⟨_, _, _, rfl, rfl, by decide +kernel⟩ dX2_read_15 (hl.n (k := 34) (by decide)) (hl.k (k := 34) (by decide)) (by decide) rfl rfl (τ := (zuX (zuX (zuR (zuX (zuX (zuX σ 36 (zX σ 21)) 37 (zX σ 22)) 38 (zX σ 23)) 39 (zR σ 24)) 35 (upd (upd (upd (upd (zX σ 35) 2 (zX σ 20 2)) 5 (zX σ 20 5)) 7 (zX σ 20 7)) 8 (zX σ 20 8))) 34 (upd (upd (zX σ 34) 2 (nI 0)) 3 (-1)))) (by simp only [zX_self, zuX_uX]) ?_
  refine Z.iconst B dX2_read_18 (v := nI 0) rfl ?_
  refine Z.istore_n B dX2_read_19 (by decide) (L' := [(0, .ref 34), (1, .ref q), (2, .ref 20), (3, .int (nI 0))]) rfl ?_
  refine Z.iconst B dX2_read_20 (v := nI 1) rfl ?_
  refine Z.istore B dX2_read_21 (by decide) (L' := [(0, .ref 34), (1, .ref q), (2, .ref 20), (3, .int (nI 0)), (4, .int (nI 1))]) rfl ?_
  have hl0 : Lay (zuX (zuR (zuX (zuX (zuX σ 36 (zX σ 21)) 37 (zX σ 22)) 38 (zX σ 23)) 39 (zR σ 24)) 35 (upd (upd (upd (upd (zX σ 35) 2 (zX σ 20 2)) 5 (zX σ 20 5)) 7 (zX σ 20 7)) 8 (zX σ 20 8))) := Lay.uR (σ := (zuX (zuX (zuX σ 36 (zX σ 21)) 37 (zX σ 22)) 38 (zX σ 23))) (k := 39) (f := zR σ 24) hl (fun _ => rfl)
  have hf1 : zFr 34 42 (some 39) σ (zuX (zuX (zuR (zuX (zuX (zuX σ 36 (zX σ 21)) 37 (zX σ 22)) 38 (zX σ 23)) 39 (zR σ 24)) 35 (upd (upd (upd (upd (zX σ 35) 2 (zX σ 20 2)) 5 (zX σ 20 5)) 7 (zX σ 20 7)) 8 (zX σ 20 8))) 34 (upd (upd (zX σ 34) 2 (nI 0)) 3 (-1))) := zFr.tr (zFr.tr (zFr.tr (zFr.tr (zFr.tr (zFr.uX (by decide) (by decide)) (zFr.uX (by decide) (by decide))) (zFr.uX (by decide) (by decide))) zFr.uR) (zFr.uX (by decide) (by decide))) (zFr.uX (by decide) (by decide))
  have hc1 : zCl (zuX (zuX (zuR (zuX (zuX (zuX σ 36 (zX σ 21)) 37 (zX σ 22)) 38 (zX σ 23)) 39 (zR σ 24)) 35 (upd (upd (upd (upd (zX σ 35) 2 (zX σ 20 2)) 5 (zX σ 20 5)) 7 (zX σ 20 7)) 8 (zX σ 20 8))) 34 (upd (upd (zX σ 34) 2 (nI 0)) 3 (-1))) := ((((hc.uX.uX.uX : zCl (zuX (zuX (zuX σ 36 (zX σ 21)) 37 (zX σ 22)) 38 (zX σ 23))).uR (k := 39) (f := zR σ 24) (fun j q hq => hc 24 j q hq)).uX).uX)
  have hK1 : KH (zuX (zuX (zuR (zuX (zuX (zuX σ 36 (zX σ 21)) 37 (zX σ 22)) 38 (zX σ 23)) 39 (zR σ 24)) 35 (upd (upd (upd (upd (zX σ 35) 2 (zX σ 20 2)) 5 (zX σ 20 5)) 7 (zX σ 20 7)) 8 (zX σ 20 8))) 34 (upd (upd (zX σ 34) 2 (nI 0)) 3 (-1))) 35 d := hK.over ⟨rfl, rfl, rfl, rfl⟩ rfl rfl rfl rfl (fun q kd pa w hq2 => hq2.fr hf1 (by decide) (fun k e => by cases e; decide))
  refine rd_go B hq hm160 (σ0 := σ) (m + 1) _ d 0 0 hl0 hK1 hW hc1 (ht.fr hq hf1) (ht.sz hq hm hf1) rfl rfl hf1 (by rw [hn0]; exact Nat.le_refl _) (Nat.le_refl _) (Nat.zero_le _) (by omega) (fun τ g1 g2 g3 g4 g5 => ?_)
  rw [Nat.zero_add]
  refine Z.iload_n B dX2_read_100 (x := nI (pr T m (m + 1) 0 d).2.1) rfl ?_
  refine Z.iret B Rt dX2_read_101 (ty := FieldType.int) rfl rfl (by decide) (by decide) ?_
  exact ⟨rfl, g1, g2, g3, g4⟩
