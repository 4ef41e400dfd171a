/-! houses read: the model's words -/
theorem wds_lt : ∀ j, j < 26 → wds j < 2 ^ 31 := by decide
theorem wds_at {σ : zSt} {s m j : Nat} {T : Nat → Int32} {a : Nat} {t w : Int32} {r : Nat → Int32} (ht : zTm σ s m T) (hj : j < 26) : zX (mS σ a t w r) 60 j = nI (wds j) := ht.2.2.2 j hj
theorem al_z {σ : zSt} {s m k w : Nat} {T : Nat → Int32} {a : Nat} (ht : zTm σ s m T) (hw : w < 4) (hk : k < al T a w) : a + k < m := by
  rcases Nat.lt_or_ge (a + k) m with h | h
  · exact h
  · exfalso
    have h2 := (al_s (T := T) (a := a) (w := w)).2.1 k hk
    have h3 := (al_s (T := T) (a := a) (w := w)).1
    have h4 := wds_S w hw k (by omega)
    have h5 := wds_L w hw k (by omega)
    rw [ht.z h] at h2
    have : w = 0 ∨ w = 1 ∨ w = 2 ∨ w = 3 := by omega
    have hb : ltr w k < 2 ^ 31 := by
      rw [← h5]
      have hl5 : wl w ≤ 5 := by rcases this with rfl | rfl | rfl | rfl <;> decide
      have hl3 : w = 2 → wl w = 3 := fun e => by subst e; rfl
      exact wds_lt _ (by rcases this with rfl | rfl | rfl | rfl <;> (simp; omega))
    have := (nI_eq (by decide) hb).mp h2
    omega

theorem t_X12_isW_0_1 {σ : zSt} {t w : Int32} {r : Nat → Int32} (hl : Lay σ) {s m : Nat} {T : Nat → Int32} (ht : zTm σ s m T) {a : Nat} (ha : a < 2 ^ 30) (h : al T a 0 = 5) : Dt mX12_isWordAt [.ref 45, .int (nI 0)] (mS σ a t w r) (some (.int (nI 1))) (mS σ a t w r) := by
  obtain ⟨⟨hs8, hm160⟩, ⟨hbs, hen⟩, hT, hwd⟩ := id ht
  refine Dt.of (by decide) (Nat.le_of_ble_eq_true rfl) fun κ B Rt => ?_
  show Z κ 0 0 (mS σ a t w r) 0 [(0, .ref 45), (1, .int (nI 0))] []
  refine Z.iconst B dX12_isWordAt_0 (v := nI 0) rfl ?_
  refine Z.istore_n B dX12_isWordAt_1 (by decide) (L' := [(0, .ref 45), (1, .int (nI 0)), (2, .int (nI 0))]) rfl ?_
  refine Z.iconst B dX12_isWordAt_2 (v := nI 0) rfl ?_
  refine Z.istore_n B dX12_isWordAt_3 (by decide) (L' := [(0, .ref 45), (1, .int (nI 0)), (2, .int (nI 0)), (3, .int (nI 0))]) rfl ?_
  refine Z.iload_n B dX12_isWordAt_4 (x := nI 0) rfl ?_
  refine Z.iload_n B dX12_isWordAt_5 (x := nI 0) rfl ?_
  refine Z.icmp_geN B dX12_isWordAt_6 (tgt := 32) rfl (by omega) (by omega) (fun h6 => ?_) (fun h6 => by exfalso; first | omega | contradiction | simp_all)
  refine Z.aload_n B dX12_isWordAt_32 (v := .ref 45) rfl rfl ?_
  refine Z.getI (σ := (mS σ a t w r)) B fX12_141_12 dX12_isWordAt_33 (hl.n (k := 45) (by decide)) (hl.k (k := 45) (by decide)) (by decide) (v := nI a) mS_a ?_
  refine Z.istore_n B dX12_isWordAt_36 (by decide) (L' := [(0, .ref 45), (1, .int (nI 0)), (2, .int (nI 0)), (3, .int (nI a))]) rfl ?_
  have hloop37 : ∀ k : Nat, k ≤ al T a 0 → Z κ 0 0 (mS σ a t w r) 37 [(0, .ref 45), (1, .int (nI 0)), (2, .int (nI (0 + k))), (3, .int (nI (a + k)))] [] := by
    refine z_loop (fun k => 5 - k) (fun k ih hk => ?_)
    have hA1 : al T a 0 ≤ 5 := (al_s (T := T) (a := a) (w := 0)).1
    have hz : wds (0 + k) ≤ 32 ↔ k = 5 := wds_S 0 (by decide) k (by show k ≤ 5; omega)
    have hzl : wds (0 + k) < 2 ^ 31 := wds_lt _ (by omega)
    refine Z.aload_n B dX12_isWordAt_37 (v := .ref 45) rfl rfl ?_
    refine Z.getR (σ := (mS σ a t w r)) B fX12_60_12 dX12_isWordAt_38 (hl.n (k := 45) (by decide)) (hl.k (k := 45) (by decide)) (by decide) (j := 60) (hl.r (k := 45) (f := 19) (by decide) (by decide)) ?_
    refine Z.iload_n B dX12_isWordAt_41 (x := nI (0 + k)) rfl ?_
    refine Z.iald (σ := (mS σ a t w r)) B dX12_isWordAt_42 (n := 26) (hl.n (k := 60) (by decide)) (hl.k (k := 60) (by decide)) (hl.l (k := 60) (by decide)) (by decide) (j := 0 + k) rfl (by omega) (v := nI (wds (0 + k))) (wds_at ht (by omega)) ?_
    refine Z.bipush B dX12_isWordAt_43 (v := nI 32) rfl ?_
    refine Z.icmp_leN B dX12_isWordAt_45 (tgt := 86) rfl (by omega) (by omega) (fun h45 => ?_) (fun h45 => ?_)
    · skip
      have hke : k = 5 := hz.mp h45
      refine Z.aload_n B dX12_isWordAt_86 (v := .ref 45) rfl rfl ?_
      refine Z.getR (σ := (mS σ a t w r)) B fX12_60_12 dX12_isWordAt_87 (hl.n (k := 45) (by decide)) (hl.k (k := 45) (by decide)) (by decide) (j := 60) (hl.r (k := 45) (f := 19) (by decide) (by decide)) ?_
      refine Z.iload_n B dX12_isWordAt_90 (x := nI (0 + k)) rfl ?_
      refine Z.iald (σ := (mS σ a t w r)) B dX12_isWordAt_91 (n := 26) (hl.n (k := 60) (by decide)) (hl.k (k := 60) (by decide)) (hl.l (k := 60) (by decide)) (by decide) (j := 0 + k) rfl (by omega) (v := nI (wds (0 + k))) (wds_at ht (by omega)) ?_
      refine Z.bipush B dX12_isWordAt_92 (v := nI 32) rfl ?_
      refine Z.icmp_gtN B dX12_isWordAt_94 (tgt := 101) rfl (by omega) (by omega) (fun h94 => (by omega)) (fun h94 => ?_)
      refine Z.iconst B dX12_isWordAt_97 (v := nI 1) rfl ?_
      refine Z.goto B dX12_isWordAt_98 (tgt := 102) rfl ?_
      refine Z.iret B Rt dX12_isWordAt_102 (ty := .boolean) rfl rfl (by decide) (by decide) ?_
      exact ⟨rfl, rfl⟩
    · skip
      have hlk : k < al T a 0 := (by have : ¬ k = 5 := (fun e => h45 (hz.mpr e)); omega)
      have hin := al_z ht (by decide) hlk
      refine Z.iload_n B dX12_isWordAt_48 (x := nI (a + k)) rfl ?_
      refine Z.aload_n B dX12_isWordAt_49 (v := .ref 45) rfl rfl ?_
      refine Z.getI (σ := (mS σ a t w r)) B fX12_144_12 dX12_isWordAt_50 (hl.n (k := 45) (by decide)) (hl.k (k := 45) (by decide)) (by decide) (v := nI m) ((mS_f (by decide) (by decide) (by decide)).trans hen) ?_
      refine Z.icmp_geN B dX12_isWordAt_53 (tgt := 86) rfl (by omega) (by omega) (fun h53 => (by omega)) (fun h53 => ?_)
      refine Z.aload_n B dX12_isWordAt_56 (v := .ref 45) rfl rfl ?_
      refine Z.getR (σ := (mS σ a t w r)) B fX12_53_12 dX12_isWordAt_57 (hl.n (k := 45) (by decide)) (hl.k (k := 45) (by decide)) (by decide) (j := 58) (hl.r (k := 45) (f := 17) (by decide) (by decide)) ?_
      refine Z.aload_n B dX12_isWordAt_60 (v := .ref 45) rfl rfl ?_
      refine Z.getI (σ := (mS σ a t w r)) B fX12_147_12 dX12_isWordAt_61 (hl.n (k := 45) (by decide)) (hl.k (k := 45) (by decide)) (by decide) (v := nI (s * 160)) ((mS_f (by decide) (by decide) (by decide)).trans hbs) ?_
      refine Z.iload_n B dX12_isWordAt_64 (x := nI (a + k)) rfl ?_
      refine Z.iaddN B dX12_isWordAt_65 (a := s * 160) (b := a + k) ?_
      refine Z.lald (σ := (mS σ a t w r)) B dX12_isWordAt_66 (n := 1280) (hl.n (k := 58) (by decide)) (hl.k (k := 58) (by decide)) (hl.l (k := 58) (by decide)) (by decide) (j := (s * 160) + (a + k)) rfl (by omega) (v := (zY (mS σ a t w r) 58 ((s * 160) + (a + k)))) rfl ?_
      refine Z.l2i B dX12_isWordAt_67 ?_
      refine Z.eqS (st' := [.int (T (a + k))]) (congrArg (fun z => Value.int z :: _) (ht.t (i := a + k) (by omega))) ?_
      refine Z.aload_n B dX12_isWordAt_68 (v := .ref 45) rfl rfl ?_
      refine Z.getR (σ := (mS σ a t w r)) B fX12_60_12 dX12_isWordAt_69 (hl.n (k := 45) (by decide)) (hl.k (k := 45) (by decide)) (by decide) (j := 60) (hl.r (k := 45) (f := 19) (by decide) (by decide)) ?_
      refine Z.iload_n B dX12_isWordAt_72 (x := nI (0 + k)) rfl ?_
      refine Z.iald (σ := (mS σ a t w r)) B dX12_isWordAt_73 (n := 26) (hl.n (k := 60) (by decide)) (hl.k (k := 60) (by decide)) (hl.l (k := 60) (by decide)) (by decide) (j := 0 + k) rfl (by omega) (v := nI (wds (0 + k))) (wds_at ht (by omega)) ?_
      refine Z.icmp_ne B dX12_isWordAt_74 (tgt := 86) rfl (fun h74 => (absurd (by rw [show wds (0 + k) = ltr 0 k from wds_L 0 (by decide) k (by show k < 5; omega)]; exact (al_s (T := T) (a := a) (w := 0)).2.1 k hlk) h74)) (fun h74 => ?_)
      refine Z.iincN B dX12_isWordAt_77 (by decide) (a := a + k) rfl (L' := [(0, .ref 45), (1, .int (nI 0)), (2, .int (nI (0 + k))), (3, .int (nI (a + k + 1)))]) rfl ?_
      refine Z.iincN B dX12_isWordAt_80 (by decide) (a := 0 + k) rfl (L' := [(0, .ref 45), (1, .int (nI 0)), (2, .int (nI (0 + k + 1))), (3, .int (nI (a + k + 1)))]) rfl ?_
      refine Z.goto B dX12_isWordAt_83 (tgt := 37) rfl ?_
      exact ih (k + 1) (by omega) (by omega)
  exact hloop37 0 (Nat.zero_le _)

theorem t_X12_isW_0_0 {σ : zSt} {t w : Int32} {r : Nat → Int32} (hl : Lay σ) {s m : Nat} {T : Nat → Int32} (ht : zTm σ s m T) {a : Nat} (ha : a < 2 ^ 30) (h : ¬ al T a 0 = 5) : Dt mX12_isWordAt [.ref 45, .int (nI 0)] (mS σ a t w r) (some (.int (nI 0))) (mS σ a t w r) := by
  obtain ⟨⟨hs8, hm160⟩, ⟨hbs, hen⟩, hT, hwd⟩ := id ht
  refine Dt.of (by decide) (Nat.le_of_ble_eq_true rfl) fun κ B Rt => ?_
  show Z κ 0 0 (mS σ a t w r) 0 [(0, .ref 45), (1, .int (nI 0))] []
  refine Z.iconst B dX12_isWordAt_0 (v := nI 0) rfl ?_
  refine Z.istore_n B dX12_isWordAt_1 (by decide) (L' := [(0, .ref 45), (1, .int (nI 0)), (2, .int (nI 0))]) rfl ?_
  refine Z.iconst B dX12_isWordAt_2 (v := nI 0) rfl ?_
  refine Z.istore_n B dX12_isWordAt_3 (by decide) (L' := [(0, .ref 45), (1, .int (nI 0)), (2, .int (nI 0)), (3, .int (nI 0))]) rfl ?_
  refine Z.iload_n B dX12_isWordAt_4 (x := nI 0) rfl ?_
  refine Z.iload_n B dX12_isWordAt_5 (x := nI 0) rfl ?_
  refine Z.icmp_geN B dX12_isWordAt_6 (tgt := 32) rfl (by omega) (by omega) (fun h6 => ?_) (fun h6 => by exfalso; first | omega | contradiction | simp_all)
  refine Z.aload_n B dX12_isWordAt_32 (v := .ref 45) rfl rfl ?_
  refine Z.getI (σ := (mS σ a t w r)) B fX12_141_12 dX12_isWordAt_33 (hl.n (k := 45) (by decide)) (hl.k (k := 45) (by decide)) (by decide) (v := nI a) mS_a ?_
  refine Z.istore_n B dX12_isWordAt_36 (by decide) (L' := [(0, .ref 45), (1, .int (nI 0)), (2, .int (nI 0)), (3, .int (nI a))]) rfl ?_
  have hloop37 : ∀ k : Nat, k ≤ al T a 0 → Z κ 0 0 (mS σ a t w r) 37 [(0, .ref 45), (1, .int (nI 0)), (2, .int (nI (0 + k))), (3, .int (nI (a + k)))] [] := by
    refine z_loop (fun k => 5 - k) (fun k ih hk => ?_)
    have hA1 : al T a 0 ≤ 5 := (al_s (T := T) (a := a) (w := 0)).1
    have hz : wds (0 + k) ≤ 32 ↔ k = 5 := wds_S 0 (by decide) k (by show k ≤ 5; omega)
    have hzl : wds (0 + k) < 2 ^ 31 := wds_lt _ (by omega)
    refine Z.aload_n B dX12_isWordAt_37 (v := .ref 45) rfl rfl ?_
    refine Z.getR (σ := (mS σ a t w r)) B fX12_60_12 dX12_isWordAt_38 (hl.n (k := 45) (by decide)) (hl.k (k := 45) (by decide)) (by decide) (j := 60) (hl.r (k := 45) (f := 19) (by decide) (by decide)) ?_
    refine Z.iload_n B dX12_isWordAt_41 (x := nI (0 + k)) rfl ?_
    refine Z.iald (σ := (mS σ a t w r)) B dX12_isWordAt_42 (n := 26) (hl.n (k := 60) (by decide)) (hl.k (k := 60) (by decide)) (hl.l (k := 60) (by decide)) (by decide) (j := 0 + k) rfl (by omega) (v := nI (wds (0 + k))) (wds_at ht (by omega)) ?_
    refine Z.bipush B dX12_isWordAt_43 (v := nI 32) rfl ?_
    refine Z.icmp_leN B dX12_isWordAt_45 (tgt := 86) rfl (by omega) (by omega) (fun h45 => (by have := hz.mp h45; omega)) (fun h45 => ?_)
    refine Z.iload_n B dX12_isWordAt_48 (x := nI (a + k)) rfl ?_
    refine Z.aload_n B dX12_isWordAt_49 (v := .ref 45) rfl rfl ?_
    refine Z.getI (σ := (mS σ a t w r)) B fX12_144_12 dX12_isWordAt_50 (hl.n (k := 45) (by decide)) (hl.k (k := 45) (by decide)) (by decide) (v := nI m) ((mS_f (by decide) (by decide) (by decide)).trans hen) ?_
    refine Z.icmp_geN B dX12_isWordAt_53 (tgt := 86) rfl (by omega) (by omega) (fun h53 => ?_) (fun h53 => ?_)
    · skip
      refine Z.aload_n B dX12_isWordAt_86 (v := .ref 45) rfl rfl ?_
      refine Z.getR (σ := (mS σ a t w r)) B fX12_60_12 dX12_isWordAt_87 (hl.n (k := 45) (by decide)) (hl.k (k := 45) (by decide)) (by decide) (j := 60) (hl.r (k := 45) (f := 19) (by decide) (by decide)) ?_
      refine Z.iload_n B dX12_isWordAt_90 (x := nI (0 + k)) rfl ?_
      refine Z.iald (σ := (mS σ a t w r)) B dX12_isWordAt_91 (n := 26) (hl.n (k := 60) (by decide)) (hl.k (k := 60) (by decide)) (hl.l (k := 60) (by decide)) (by decide) (j := 0 + k) rfl (by omega) (v := nI (wds (0 + k))) (wds_at ht (by omega)) ?_
      refine Z.bipush B dX12_isWordAt_92 (v := nI 32) rfl ?_
      refine Z.icmp_gtN B dX12_isWordAt_94 (tgt := 101) rfl (by omega) (by omega) (fun h94 => ?_) (fun h94 => (by omega))
      refine Z.iconst B dX12_isWordAt_101 (v := nI 0) rfl ?_
      refine Z.iret B Rt dX12_isWordAt_102 (ty := .boolean) rfl rfl (by decide) (by decide) ?_
      exact ⟨rfl, rfl⟩
    · skip
      refine Z.aload_n B dX12_isWordAt_56 (v := .ref 45) rfl rfl ?_
      refine Z.getR (σ := (mS σ a t w r)) B fX12_53_12 dX12_isWordAt_57 (hl.n (k := 45) (by decide)) (hl.k (k := 45) (by decide)) (by decide) (j := 58) (hl.r (k := 45) (f := 17) (by decide) (by decide)) ?_
      refine Z.aload_n B dX12_isWordAt_60 (v := .ref 45) rfl rfl ?_
      refine Z.getI (σ := (mS σ a t w r)) B fX12_147_12 dX12_isWordAt_61 (hl.n (k := 45) (by decide)) (hl.k (k := 45) (by decide)) (by decide) (v := nI (s * 160)) ((mS_f (by decide) (by decide) (by decide)).trans hbs) ?_
      refine Z.iload_n B dX12_isWordAt_64 (x := nI (a + k)) rfl ?_
      refine Z.iaddN B dX12_isWordAt_65 (a := s * 160) (b := a + k) ?_
      refine Z.lald (σ := (mS σ a t w r)) B dX12_isWordAt_66 (n := 1280) (hl.n (k := 58) (by decide)) (hl.k (k := 58) (by decide)) (hl.l (k := 58) (by decide)) (by decide) (j := (s * 160) + (a + k)) rfl (by omega) (v := (zY (mS σ a t w r) 58 ((s * 160) + (a + k)))) rfl ?_
      refine Z.l2i B dX12_isWordAt_67 ?_
      refine Z.eqS (st' := [.int (T (a + k))]) (congrArg (fun z => Value.int z :: _) (ht.t (i := a + k) (by omega))) ?_
      refine Z.aload_n B dX12_isWordAt_68 (v := .ref 45) rfl rfl ?_
      refine Z.getR (σ := (mS σ a t w r)) B fX12_60_12 dX12_isWordAt_69 (hl.n (k := 45) (by decide)) (hl.k (k := 45) (by decide)) (by decide) (j := 60) (hl.r (k := 45) (f := 19) (by decide) (by decide)) ?_
      refine Z.iload_n B dX12_isWordAt_72 (x := nI (0 + k)) rfl ?_
      refine Z.iald (σ := (mS σ a t w r)) B dX12_isWordAt_73 (n := 26) (hl.n (k := 60) (by decide)) (hl.k (k := 60) (by decide)) (hl.l (k := 60) (by decide)) (by decide) (j := 0 + k) rfl (by omega) (v := nI (wds (0 + k))) (wds_at ht (by omega)) ?_
      refine Z.icmp_ne B dX12_isWordAt_74 (tgt := 86) rfl (fun h74 => ?_) (fun h74 => ?_)
      · skip
        refine Z.aload_n B dX12_isWordAt_86 (v := .ref 45) rfl rfl ?_
        refine Z.getR (σ := (mS σ a t w r)) B fX12_60_12 dX12_isWordAt_87 (hl.n (k := 45) (by decide)) (hl.k (k := 45) (by decide)) (by decide) (j := 60) (hl.r (k := 45) (f := 19) (by decide) (by decide)) ?_
        refine Z.iload_n B dX12_isWordAt_90 (x := nI (0 + k)) rfl ?_
        refine Z.iald (σ := (mS σ a t w r)) B dX12_isWordAt_91 (n := 26) (hl.n (k := 60) (by decide)) (hl.k (k := 60) (by decide)) (hl.l (k := 60) (by decide)) (by decide) (j := 0 + k) rfl (by omega) (v := nI (wds (0 + k))) (wds_at ht (by omega)) ?_
        refine Z.bipush B dX12_isWordAt_92 (v := nI 32) rfl ?_
        refine Z.icmp_gtN B dX12_isWordAt_94 (tgt := 101) rfl (by omega) (by omega) (fun h94 => ?_) (fun h94 => (by omega))
        refine Z.iconst B dX12_isWordAt_101 (v := nI 0) rfl ?_
        refine Z.iret B Rt dX12_isWordAt_102 (ty := .boolean) rfl rfl (by decide) (by decide) ?_
        exact ⟨rfl, rfl⟩
      · skip
        refine Z.iincN B dX12_isWordAt_77 (by decide) (a := a + k) rfl (L' := [(0, .ref 45), (1, .int (nI 0)), (2, .int (nI (0 + k))), (3, .int (nI (a + k + 1)))]) rfl ?_
        refine Z.iincN B dX12_isWordAt_80 (by decide) (a := 0 + k) rfl (L' := [(0, .ref 45), (1, .int (nI 0)), (2, .int (nI (0 + k + 1))), (3, .int (nI (a + k + 1)))]) rfl ?_
        refine Z.goto B dX12_isWordAt_83 (tgt := 37) rfl ?_
        have hk2 : k < al T a 0 := (by rcases Nat.lt_or_ge k (al T a 0) with h1 | h1; exact h1; exfalso; have e : k = al T a 0 := (by omega); have hA := (al_s (T := T) (a := a) (w := 0)).2.2 (by rw [← e]; show k < 5; omega); rw [← e] at hA; exact hA (by rw [← wds_L 0 (by decide) k (by show k < 5; omega)]; exact h74))
        exact ih (k + 1) (by omega) (by omega)
  exact hloop37 0 (Nat.zero_le _)

theorem t_X12_isW_1_1 {σ : zSt} {t w : Int32} {r : Nat → Int32} (hl : Lay σ) {s m : Nat} {T : Nat → Int32} (ht : zTm σ s m T) {a : Nat} (ha : a < 2 ^ 30) (h : al T a 1 = 5) : Dt mX12_isWordAt [.ref 45, .int (nI 1)] (mS σ a t w r) (some (.int (nI 1))) (mS σ a t w r) := by
  obtain ⟨⟨hs8, hm160⟩, ⟨hbs, hen⟩, hT, hwd⟩ := id ht
  refine Dt.of (by decide) (Nat.le_of_ble_eq_true rfl) fun κ B Rt => ?_
  show Z κ 0 0 (mS σ a t w r) 0 [(0, .ref 45), (1, .int (nI 1))] []
  refine Z.iconst B dX12_isWordAt_0 (v := nI 0) rfl ?_
  refine Z.istore_n B dX12_isWordAt_1 (by decide) (L' := [(0, .ref 45), (1, .int (nI 1)), (2, .int (nI 0))]) rfl ?_
  refine Z.iconst B dX12_isWordAt_2 (v := nI 0) rfl ?_
  refine Z.istore_n B dX12_isWordAt_3 (by decide) (L' := [(0, .ref 45), (1, .int (nI 1)), (2, .int (nI 0)), (3, .int (nI 0))]) rfl ?_
  refine Z.iload_n B dX12_isWordAt_4 (x := nI 0) rfl ?_
  refine Z.iload_n B dX12_isWordAt_5 (x := nI 1) rfl ?_
  refine Z.icmp_geN B dX12_isWordAt_6 (tgt := 32) rfl (by omega) (by omega) (fun h6 => by exfalso; first | omega | contradiction | simp_all) (fun h6 => ?_)
  refine Z.iload_n B dX12_isWordAt_9 (x := nI 0) rfl ?_
  refine Z.aload_n B dX12_isWordAt_10 (v := .ref 45) rfl rfl ?_
  refine Z.getR (σ := (mS σ a t w r)) B fX12_60_12 dX12_isWordAt_11 (hl.n (k := 45) (by decide)) (hl.k (k := 45) (by decide)) (by decide) (j := 60) (hl.r (k := 45) (f := 19) (by decide) (by decide)) ?_
  refine Z.iload_n B dX12_isWordAt_14 (x := nI 0) rfl ?_
  refine Z.iald (σ := (mS σ a t w r)) B dX12_isWordAt_15 (n := 26) (hl.n (k := 60) (by decide)) (hl.k (k := 60) (by decide)) (hl.l (k := 60) (by decide)) (by decide) (j := 0) rfl (by decide) (v := nI 99) (wds_at ht (j := 0) (by decide)) ?_
  refine Z.if_neN B dX12_isWordAt_16 (tgt := 23) rfl (by omega) (fun h16 => ?_) (fun h16 => by exfalso; first | omega | contradiction | simp_all)
  refine Z.iconst B dX12_isWordAt_23 (v := nI 0) rfl ?_
  refine Z.iaddv B dX12_isWordAt_24 (v := nI 0) (by decide) ?_
  refine Z.istore_n B dX12_isWordAt_25 (by decide) (L' := [(0, .ref 45), (1, .int (nI 1)), (2, .int (nI 0)), (3, .int (nI 0))]) rfl ?_
  refine Z.iinc B dX12_isWordAt_26 (by decide) (x := nI 0) rfl (v := nI 1) (nI_inc 0) (L' := [(0, .ref 45), (1, .int (nI 1)), (2, .int (nI 1)), (3, .int (nI 0))]) rfl ?_
  refine Z.goto B dX12_isWordAt_29 (tgt := 4) rfl ?_
  refine Z.iload_n B dX12_isWordAt_4 (x := nI 0) rfl ?_
  refine Z.iload_n B dX12_isWordAt_5 (x := nI 1) rfl ?_
  refine Z.icmp_geN B dX12_isWordAt_6 (tgt := 32) rfl (by omega) (by omega) (fun h6 => by exfalso; first | omega | contradiction | simp_all) (fun h6 => ?_)
  refine Z.iload_n B dX12_isWordAt_9 (x := nI 0) rfl ?_
  refine Z.aload_n B dX12_isWordAt_10 (v := .ref 45) rfl rfl ?_
  refine Z.getR (σ := (mS σ a t w r)) B fX12_60_12 dX12_isWordAt_11 (hl.n (k := 45) (by decide)) (hl.k (k := 45) (by decide)) (by decide) (j := 60) (hl.r (k := 45) (f := 19) (by decide) (by decide)) ?_
  refine Z.iload_n B dX12_isWordAt_14 (x := nI 1) rfl ?_
  refine Z.iald (σ := (mS σ a t w r)) B dX12_isWordAt_15 (n := 26) (hl.n (k := 60) (by decide)) (hl.k (k := 60) (by decide)) (hl.l (k := 60) (by decide)) (by decide) (j := 1) rfl (by decide) (v := nI 111) (wds_at ht (j := 1) (by decide)) ?_
  refine Z.if_neN B dX12_isWordAt_16 (tgt := 23) rfl (by omega) (fun h16 => ?_) (fun h16 => by exfalso; first | omega | contradiction | simp_all)
  refine Z.iconst B dX12_isWordAt_23 (v := nI 0) rfl ?_
  refine Z.iaddv B dX12_isWordAt_24 (v := nI 0) (by decide) ?_
  refine Z.istore_n B dX12_isWordAt_25 (by decide) (L' := [(0, .ref 45), (1, .int (nI 1)), (2, .int (nI 1)), (3, .int (nI 0))]) rfl ?_
  refine Z.iinc B dX12_isWordAt_26 (by decide) (x := nI 1) rfl (v := nI 2) (nI_inc 1) (L' := [(0, .ref 45), (1, .int (nI 1)), (2, .int (nI 2)), (3, .int (nI 0))]) rfl ?_
  refine Z.goto B dX12_isWordAt_29 (tgt := 4) rfl ?_
  refine Z.iload_n B dX12_isWordAt_4 (x := nI 0) rfl ?_
  refine Z.iload_n B dX12_isWordAt_5 (x := nI 1) rfl ?_
  refine Z.icmp_geN B dX12_isWordAt_6 (tgt := 32) rfl (by omega) (by omega) (fun h6 => by exfalso; first | omega | contradiction | simp_all) (fun h6 => ?_)
  refine Z.iload_n B dX12_isWordAt_9 (x := nI 0) rfl ?_
  refine Z.aload_n B dX12_isWordAt_10 (v := .ref 45) rfl rfl ?_
  refine Z.getR (σ := (mS σ a t w r)) B fX12_60_12 dX12_isWordAt_11 (hl.n (k := 45) (by decide)) (hl.k (k := 45) (by decide)) (by decide) (j := 60) (hl.r (k := 45) (f := 19) (by decide) (by decide)) ?_
  refine Z.iload_n B dX12_isWordAt_14 (x := nI 2) rfl ?_
  refine Z.iald (σ := (mS σ a t w r)) B dX12_isWordAt_15 (n := 26) (hl.n (k := 60) (by decide)) (hl.k (k := 60) (by decide)) (hl.l (k := 60) (by decide)) (by decide) (j := 2) rfl (by decide) (v := nI 109) (wds_at ht (j := 2) (by decide)) ?_
  refine Z.if_neN B dX12_isWordAt_16 (tgt := 23) rfl (by omega) (fun h16 => ?_) (fun h16 => by exfalso; first | omega | contradiction | simp_all)
  refine Z.iconst B dX12_isWordAt_23 (v := nI 0) rfl ?_
  refine Z.iaddv B dX12_isWordAt_24 (v := nI 0) (by decide) ?_
  refine Z.istore_n B dX12_isWordAt_25 (by decide) (L' := [(0, .ref 45), (1, .int (nI 1)), (2, .int (nI 2)), (3, .int (nI 0))]) rfl ?_
  refine Z.iinc B dX12_isWordAt_26 (by decide) (x := nI 2) rfl (v := nI 3) (nI_inc 2) (L' := [(0, .ref 45), (1, .int (nI 1)), (2, .int (nI 3)), (3, .int (nI 0))]) rfl ?_
  refine Z.goto B dX12_isWordAt_29 (tgt := 4) rfl ?_
  refine Z.iload_n B dX12_isWordAt_4 (x := nI 0) rfl ?_
  refine Z.iload_n B dX12_isWordAt_5 (x := nI 1) rfl ?_
  refine Z.icmp_geN B dX12_isWordAt_6 (tgt := 32) rfl (by omega) (by omega) (fun h6 => by exfalso; first | omega | contradiction | simp_all) (fun h6 => ?_)
  refine Z.iload_n B dX12_isWordAt_9 (x := nI 0) rfl ?_
  refine Z.aload_n B dX12_isWordAt_10 (v := .ref 45) rfl rfl ?_
  refine Z.getR (σ := (mS σ a t w r)) B fX12_60_12 dX12_isWordAt_11 (hl.n (k := 45) (by decide)) (hl.k (k := 45) (by decide)) (by decide) (j := 60) (hl.r (k := 45) (f := 19) (by decide) (by decide)) ?_
  refine Z.iload_n B dX12_isWordAt_14 (x := nI 3) rfl ?_
  refine Z.iald (σ := (mS σ a t w r)) B dX12_isWordAt_15 (n := 26) (hl.n (k := 60) (by decide)) (hl.k (k := 60) (by decide)) (hl.l (k := 60) (by decide)) (by decide) (j := 3) rfl (by decide) (v := nI 101) (wds_at ht (j := 3) (by decide)) ?_
  refine Z.if_neN B dX12_isWordAt_16 (tgt := 23) rfl (by omega) (fun h16 => ?_) (fun h16 => by exfalso; first | omega | contradiction | simp_all)
  refine Z.iconst B dX12_isWordAt_23 (v := nI 0) rfl ?_
  refine Z.iaddv B dX12_isWordAt_24 (v := nI 0) (by decide) ?_
  refine Z.istore_n B dX12_isWordAt_25 (by decide) (L' := [(0, .ref 45), (1, .int (nI 1)), (2, .int (nI 3)), (3, .int (nI 0))]) rfl ?_
  refine Z.iinc B dX12_isWordAt_26 (by decide) (x := nI 3) rfl (v := nI 4) (nI_inc 3) (L' := [(0, .ref 45), (1, .int (nI 1)), (2, .int (nI 4)), (3, .int (nI 0))]) rfl ?_
  refine Z.goto B dX12_isWordAt_29 (tgt := 4) rfl ?_
  refine Z.iload_n B dX12_isWordAt_4 (x := nI 0) rfl ?_
  refine Z.iload_n B dX12_isWordAt_5 (x := nI 1) rfl ?_
  refine Z.icmp_geN B dX12_isWordAt_6 (tgt := 32) rfl (by omega) (by omega) (fun h6 => by exfalso; first | omega | contradiction | simp_all) (fun h6 => ?_)
  refine Z.iload_n B dX12_isWordAt_9 (x := nI 0) rfl ?_
  refine Z.aload_n B dX12_isWordAt_10 (v := .ref 45) rfl rfl ?_
  refine Z.getR (σ := (mS σ a t w r)) B fX12_60_12 dX12_isWordAt_11 (hl.n (k := 45) (by decide)) (hl.k (k := 45) (by decide)) (by decide) (j := 60) (hl.r (k := 45) (f := 19) (by decide) (by decide)) ?_
  refine Z.iload_n B dX12_isWordAt_14 (x := nI 4) rfl ?_
  refine Z.iald (σ := (mS σ a t w r)) B dX12_isWordAt_15 (n := 26) (hl.n (k := 60) (by decide)) (hl.k (k := 60) (by decide)) (hl.l (k := 60) (by decide)) (by decide) (j := 4) rfl (by decide) (v := nI 114) (wds_at ht (j := 4) (by decide)) ?_
  refine Z.if_neN B dX12_isWordAt_16 (tgt := 23) rfl (by omega) (fun h16 => ?_) (fun h16 => by exfalso; first | omega | contradiction | simp_all)
  refine Z.iconst B dX12_isWordAt_23 (v := nI 0) rfl ?_
  refine Z.iaddv B dX12_isWordAt_24 (v := nI 0) (by decide) ?_
  refine Z.istore_n B dX12_isWordAt_25 (by decide) (L' := [(0, .ref 45), (1, .int (nI 1)), (2, .int (nI 4)), (3, .int (nI 0))]) rfl ?_
  refine Z.iinc B dX12_isWordAt_26 (by decide) (x := nI 4) rfl (v := nI 5) (nI_inc 4) (L' := [(0, .ref 45), (1, .int (nI 1)), (2, .int (nI 5)), (3, .int (nI 0))]) rfl ?_
  refine Z.goto B dX12_isWordAt_29 (tgt := 4) rfl ?_
  refine Z.iload_n B dX12_isWordAt_4 (x := nI 0) rfl ?_
  refine Z.iload_n B dX12_isWordAt_5 (x := nI 1) rfl ?_
  refine Z.icmp_geN B dX12_isWordAt_6 (tgt := 32) rfl (by omega) (by omega) (fun h6 => by exfalso; first | omega | contradiction | simp_all) (fun h6 => ?_)
  refine Z.iload_n B dX12_isWordAt_9 (x := nI 0) rfl ?_
  refine Z.aload_n B dX12_isWordAt_10 (v := .ref 45) rfl rfl ?_
  refine Z.getR (σ := (mS σ a t w r)) B fX12_60_12 dX12_isWordAt_11 (hl.n (k := 45) (by decide)) (hl.k (k := 45) (by decide)) (by decide) (j := 60) (hl.r (k := 45) (f := 19) (by decide) (by decide)) ?_
  refine Z.iload_n B dX12_isWordAt_14 (x := nI 5) rfl ?_
  refine Z.iald (σ := (mS σ a t w r)) B dX12_isWordAt_15 (n := 26) (hl.n (k := 60) (by decide)) (hl.k (k := 60) (by decide)) (hl.l (k := 60) (by decide)) (by decide) (j := 5) rfl (by decide) (v := nI 32) (wds_at ht (j := 5) (by decide)) ?_
  refine Z.if_neN B dX12_isWordAt_16 (tgt := 23) rfl (by omega) (fun h16 => ?_) (fun h16 => by exfalso; first | omega | contradiction | simp_all)
  refine Z.iconst B dX12_isWordAt_23 (v := nI 0) rfl ?_
  refine Z.iaddv B dX12_isWordAt_24 (v := nI 0) (by decide) ?_
  refine Z.istore_n B dX12_isWordAt_25 (by decide) (L' := [(0, .ref 45), (1, .int (nI 1)), (2, .int (nI 5)), (3, .int (nI 0))]) rfl ?_
  refine Z.iinc B dX12_isWordAt_26 (by decide) (x := nI 5) rfl (v := nI 6) (nI_inc 5) (L' := [(0, .ref 45), (1, .int (nI 1)), (2, .int (nI 6)), (3, .int (nI 0))]) rfl ?_
  refine Z.goto B dX12_isWordAt_29 (tgt := 4) rfl ?_
  refine Z.iload_n B dX12_isWordAt_4 (x := nI 0) rfl ?_
  refine Z.iload_n B dX12_isWordAt_5 (x := nI 1) rfl ?_
  refine Z.icmp_geN B dX12_isWordAt_6 (tgt := 32) rfl (by omega) (by omega) (fun h6 => by exfalso; first | omega | contradiction | simp_all) (fun h6 => ?_)
  refine Z.iload_n B dX12_isWordAt_9 (x := nI 0) rfl ?_
  refine Z.aload_n B dX12_isWordAt_10 (v := .ref 45) rfl rfl ?_
  refine Z.getR (σ := (mS σ a t w r)) B fX12_60_12 dX12_isWordAt_11 (hl.n (k := 45) (by decide)) (hl.k (k := 45) (by decide)) (by decide) (j := 60) (hl.r (k := 45) (f := 19) (by decide) (by decide)) ?_
  refine Z.iload_n B dX12_isWordAt_14 (x := nI 6) rfl ?_
  refine Z.iald (σ := (mS σ a t w r)) B dX12_isWordAt_15 (n := 26) (hl.n (k := 60) (by decide)) (hl.k (k := 60) (by decide)) (hl.l (k := 60) (by decide)) (by decide) (j := 6) rfl (by decide) (v := nI 0) (wds_at ht (j := 6) (by decide)) ?_
  refine Z.if_neN B dX12_isWordAt_16 (tgt := 23) rfl (by omega) (fun h16 => by exfalso; first | omega | contradiction | simp_all) (fun h16 => ?_)
  refine Z.iconst B dX12_isWordAt_19 (v := nI 1) rfl ?_
  refine Z.goto B dX12_isWordAt_20 (tgt := 24) rfl ?_
  refine Z.iaddv B dX12_isWordAt_24 (v := nI 1) (by decide) ?_
  refine Z.istore_n B dX12_isWordAt_25 (by decide) (L' := [(0, .ref 45), (1, .int (nI 1)), (2, .int (nI 6)), (3, .int (nI 1))]) rfl ?_
  refine Z.iinc B dX12_isWordAt_26 (by decide) (x := nI 6) rfl (v := nI 7) (nI_inc 6) (L' := [(0, .ref 45), (1, .int (nI 1)), (2, .int (nI 7)), (3, .int (nI 1))]) rfl ?_
  refine Z.goto B dX12_isWordAt_29 (tgt := 4) rfl ?_
  refine Z.iload_n B dX12_isWordAt_4 (x := nI 1) rfl ?_
  refine Z.iload_n B dX12_isWordAt_5 (x := nI 1) rfl ?_
  refine Z.icmp_geN B dX12_isWordAt_6 (tgt := 32) rfl (by omega) (by omega) (fun h6 => ?_) (fun h6 => by exfalso; first | omega | contradiction | simp_all)
  refine Z.aload_n B dX12_isWordAt_32 (v := .ref 45) rfl rfl ?_
  refine Z.getI (σ := (mS σ a t w r)) B fX12_141_12 dX12_isWordAt_33 (hl.n (k := 45) (by decide)) (hl.k (k := 45) (by decide)) (by decide) (v := nI a) mS_a ?_
  refine Z.istore_n B dX12_isWordAt_36 (by decide) (L' := [(0, .ref 45), (1, .int (nI 1)), (2, .int (nI 7)), (3, .int (nI a))]) rfl ?_
  have hloop37 : ∀ k : Nat, k ≤ al T a 1 → Z κ 0 0 (mS σ a t w r) 37 [(0, .ref 45), (1, .int (nI 1)), (2, .int (nI (7 + k))), (3, .int (nI (a + k)))] [] := by
    refine z_loop (fun k => 5 - k) (fun k ih hk => ?_)
    have hA1 : al T a 1 ≤ 5 := (al_s (T := T) (a := a) (w := 1)).1
    have hz : wds (7 + k) ≤ 32 ↔ k = 5 := wds_S 1 (by decide) k (by show k ≤ 5; omega)
    have hzl : wds (7 + k) < 2 ^ 31 := wds_lt _ (by omega)
    refine Z.aload_n B dX12_isWordAt_37 (v := .ref 45) rfl rfl ?_
    refine Z.getR (σ := (mS σ a t w r)) B fX12_60_12 dX12_isWordAt_38 (hl.n (k := 45) (by decide)) (hl.k (k := 45) (by decide)) (by decide) (j := 60) (hl.r (k := 45) (f := 19) (by decide) (by decide)) ?_
    refine Z.iload_n B dX12_isWordAt_41 (x := nI (7 + k)) rfl ?_
    refine Z.iald (σ := (mS σ a t w r)) B dX12_isWordAt_42 (n := 26) (hl.n (k := 60) (by decide)) (hl.k (k := 60) (by decide)) (hl.l (k := 60) (by decide)) (by decide) (j := 7 + k) rfl (by omega) (v := nI (wds (7 + k))) (wds_at ht (by omega)) ?_
    refine Z.bipush B dX12_isWordAt_43 (v := nI 32) rfl ?_
    refine Z.icmp_leN B dX12_isWordAt_45 (tgt := 86) rfl (by omega) (by omega) (fun h45 => ?_) (fun h45 => ?_)
    · skip
      have hke : k = 5 := hz.mp h45
      refine Z.aload_n B dX12_isWordAt_86 (v := .ref 45) rfl rfl ?_
      refine Z.getR (σ := (mS σ a t w r)) B fX12_60_12 dX12_isWordAt_87 (hl.n (k := 45) (by decide)) (hl.k (k := 45) (by decide)) (by decide) (j := 60) (hl.r (k := 45) (f := 19) (by decide) (by decide)) ?_
      refine Z.iload_n B dX12_isWordAt_90 (x := nI (7 + k)) rfl ?_
      refine Z.iald (σ := (mS σ a t w r)) B dX12_isWordAt_91 (n := 26) (hl.n (k := 60) (by decide)) (hl.k (k := 60) (by decide)) (hl.l (k := 60) (by decide)) (by decide) (j := 7 + k) rfl (by omega) (v := nI (wds (7 + k))) (wds_at ht (by omega)) ?_
      refine Z.bipush B dX12_isWordAt_92 (v := nI 32) rfl ?_
      refine Z.icmp_gtN B dX12_isWordAt_94 (tgt := 101) rfl (by omega) (by omega) (fun h94 => (by omega)) (fun h94 => ?_)
      refine Z.iconst B dX12_isWordAt_97 (v := nI 1) rfl ?_
      refine Z.goto B dX12_isWordAt_98 (tgt := 102) rfl ?_
      refine Z.iret B Rt dX12_isWordAt_102 (ty := .boolean) rfl rfl (by decide) (by decide) ?_
      exact ⟨rfl, rfl⟩
    · skip
      have hlk : k < al T a 1 := (by have : ¬ k = 5 := (fun e => h45 (hz.mpr e)); omega)
      have hin := al_z ht (by decide) hlk
      refine Z.iload_n B dX12_isWordAt_48 (x := nI (a + k)) rfl ?_
      refine Z.aload_n B dX12_isWordAt_49 (v := .ref 45) rfl rfl ?_
      refine Z.getI (σ := (mS σ a t w r)) B fX12_144_12 dX12_isWordAt_50 (hl.n (k := 45) (by decide)) (hl.k (k := 45) (by decide)) (by decide) (v := nI m) ((mS_f (by decide) (by decide) (by decide)).trans hen) ?_
      refine Z.icmp_geN B dX12_isWordAt_53 (tgt := 86) rfl (by omega) (by omega) (fun h53 => (by omega)) (fun h53 => ?_)
      refine Z.aload_n B dX12_isWordAt_56 (v := .ref 45) rfl rfl ?_
      refine Z.getR (σ := (mS σ a t w r)) B fX12_53_12 dX12_isWordAt_57 (hl.n (k := 45) (by decide)) (hl.k (k := 45) (by decide)) (by decide) (j := 58) (hl.r (k := 45) (f := 17) (by decide) (by decide)) ?_
      refine Z.aload_n B dX12_isWordAt_60 (v := .ref 45) rfl rfl ?_
      refine Z.getI (σ := (mS σ a t w r)) B fX12_147_12 dX12_isWordAt_61 (hl.n (k := 45) (by decide)) (hl.k (k := 45) (by decide)) (by decide) (v := nI (s * 160)) ((mS_f (by decide) (by decide) (by decide)).trans hbs) ?_
      refine Z.iload_n B dX12_isWordAt_64 (x := nI (a + k)) rfl ?_
      refine Z.iaddN B dX12_isWordAt_65 (a := s * 160) (b := a + k) ?_
      refine Z.lald (σ := (mS σ a t w r)) B dX12_isWordAt_66 (n := 1280) (hl.n (k := 58) (by decide)) (hl.k (k := 58) (by decide)) (hl.l (k := 58) (by decide)) (by decide) (j := (s * 160) + (a + k)) rfl (by omega) (v := (zY (mS σ a t w r) 58 ((s * 160) + (a + k)))) rfl ?_
      refine Z.l2i B dX12_isWordAt_67 ?_
      refine Z.eqS (st' := [.int (T (a + k))]) (congrArg (fun z => Value.int z :: _) (ht.t (i := a + k) (by omega))) ?_
      refine Z.aload_n B dX12_isWordAt_68 (v := .ref 45) rfl rfl ?_
      refine Z.getR (σ := (mS σ a t w r)) B fX12_60_12 dX12_isWordAt_69 (hl.n (k := 45) (by decide)) (hl.k (k := 45) (by decide)) (by decide) (j := 60) (hl.r (k := 45) (f := 19) (by decide) (by decide)) ?_
      refine Z.iload_n B dX12_isWordAt_72 (x := nI (7 + k)) rfl ?_
      refine Z.iald (σ := (mS σ a t w r)) B dX12_isWordAt_73 (n := 26) (hl.n (k := 60) (by decide)) (hl.k (k := 60) (by decide)) (hl.l (k := 60) (by decide)) (by decide) (j := 7 + k) rfl (by omega) (v := nI (wds (7 + k))) (wds_at ht (by omega)) ?_
      refine Z.icmp_ne B dX12_isWordAt_74 (tgt := 86) rfl (fun h74 => (absurd (by rw [show wds (7 + k) = ltr 1 k from wds_L 1 (by decide) k (by show k < 5; omega)]; exact (al_s (T := T) (a := a) (w := 1)).2.1 k hlk) h74)) (fun h74 => ?_)
      refine Z.iincN B dX12_isWordAt_77 (by decide) (a := a + k) rfl (L' := [(0, .ref 45), (1, .int (nI 1)), (2, .int (nI (7 + k))), (3, .int (nI (a + k + 1)))]) rfl ?_
      refine Z.iincN B dX12_isWordAt_80 (by decide) (a := 7 + k) rfl (L' := [(0, .ref 45), (1, .int (nI 1)), (2, .int (nI (7 + k + 1))), (3, .int (nI (a + k + 1)))]) rfl ?_
      refine Z.goto B dX12_isWordAt_83 (tgt := 37) rfl ?_
      exact ih (k + 1) (by omega) (by omega)
  exact hloop37 0 (Nat.zero_le _)

theorem t_X12_isW_1_0 {σ : zSt} {t w : Int32} {r : Nat → Int32} (hl : Lay σ) {s m : Nat} {T : Nat → Int32} (ht : zTm σ s m T) {a : Nat} (ha : a < 2 ^ 30) (h : ¬ al T a 1 = 5) : Dt mX12_isWordAt [.ref 45, .int (nI 1)] (mS σ a t w r) (some (.int (nI 0))) (mS σ a t w r) := by
  obtain ⟨⟨hs8, hm160⟩, ⟨hbs, hen⟩, hT, hwd⟩ := id ht
  refine Dt.of (by decide) (Nat.le_of_ble_eq_true rfl) fun κ B Rt => ?_
  show Z κ 0 0 (mS σ a t w r) 0 [(0, .ref 45), (1, .int (nI 1))] []
  refine Z.iconst B dX12_isWordAt_0 (v := nI 0) rfl ?_
  refine Z.istore_n B dX12_isWordAt_1 (by decide) (L' := [(0, .ref 45), (1, .int (nI 1)), (2, .int (nI 0))]) rfl ?_
  refine Z.iconst B dX12_isWordAt_2 (v := nI 0) rfl ?_
  refine Z.istore_n B dX12_isWordAt_3 (by decide) (L' := [(0, .ref 45), (1, .int (nI 1)), (2, .int (nI 0)), (3, .int (nI 0))]) rfl ?_
  refine Z.iload_n B dX12_isWordAt_4 (x := nI 0) rfl ?_
  refine Z.iload_n B dX12_isWordAt_5 (x := nI 1) rfl ?_
  refine Z.icmp_geN B dX12_isWordAt_6 (tgt := 32) rfl (by omega) (by omega) (fun h6 => by exfalso; first | omega | contradiction | simp_all) (fun h6 => ?_)
  refine Z.iload_n B dX12_isWordAt_9 (x := nI 0) rfl ?_
  refine Z.aload_n B dX12_isWordAt_10 (v := .ref 45) rfl rfl ?_
  refine Z.getR (σ := (mS σ a t w r)) B fX12_60_12 dX12_isWordAt_11 (hl.n (k := 45) (by decide)) (hl.k (k := 45) (by decide)) (by decide) (j := 60) (hl.r (k := 45) (f := 19) (by decide) (by decide)) ?_
  refine Z.iload_n B dX12_isWordAt_14 (x := nI 0) rfl ?_
  refine Z.iald (σ := (mS σ a t w r)) B dX12_isWordAt_15 (n := 26) (hl.n (k := 60) (by decide)) (hl.k (k := 60) (by decide)) (hl.l (k := 60) (by decide)) (by decide) (j := 0) rfl (by decide) (v := nI 99) (wds_at ht (j := 0) (by decide)) ?_
  refine Z.if_neN B dX12_isWordAt_16 (tgt := 23) rfl (by omega) (fun h16 => ?_) (fun h16 => by exfalso; first | omega | contradiction | simp_all)
  refine Z.iconst B dX12_isWordAt_23 (v := nI 0) rfl ?_
  refine Z.iaddv B dX12_isWordAt_24 (v := nI 0) (by decide) ?_
  refine Z.istore_n B dX12_isWordAt_25 (by decide) (L' := [(0, .ref 45), (1, .int (nI 1)), (2, .int (nI 0)), (3, .int (nI 0))]) rfl ?_
  refine Z.iinc B dX12_isWordAt_26 (by decide) (x := nI 0) rfl (v := nI 1) (nI_inc 0) (L' := [(0, .ref 45), (1, .int (nI 1)), (2, .int (nI 1)), (3, .int (nI 0))]) rfl ?_
  refine Z.goto B dX12_isWordAt_29 (tgt := 4) rfl ?_
  refine Z.iload_n B dX12_isWordAt_4 (x := nI 0) rfl ?_
  refine Z.iload_n B dX12_isWordAt_5 (x := nI 1) rfl ?_
  refine Z.icmp_geN B dX12_isWordAt_6 (tgt := 32) rfl (by omega) (by omega) (fun h6 => by exfalso; first | omega | contradiction | simp_all) (fun h6 => ?_)
  refine Z.iload_n B dX12_isWordAt_9 (x := nI 0) rfl ?_
  refine Z.aload_n B dX12_isWordAt_10 (v := .ref 45) rfl rfl ?_
  refine Z.getR (σ := (mS σ a t w r)) B fX12_60_12 dX12_isWordAt_11 (hl.n (k := 45) (by decide)) (hl.k (k := 45) (by decide)) (by decide) (j := 60) (hl.r (k := 45) (f := 19) (by decide) (by decide)) ?_
  refine Z.iload_n B dX12_isWordAt_14 (x := nI 1) rfl ?_
  refine Z.iald (σ := (mS σ a t w r)) B dX12_isWordAt_15 (n := 26) (hl.n (k := 60) (by decide)) (hl.k (k := 60) (by decide)) (hl.l (k := 60) (by decide)) (by decide) (j := 1) rfl (by decide) (v := nI 111) (wds_at ht (j := 1) (by decide)) ?_
  refine Z.if_neN B dX12_isWordAt_16 (tgt := 23) rfl (by omega) (fun h16 => ?_) (fun h16 => by exfalso; first | omega | contradiction | simp_all)
  refine Z.iconst B dX12_isWordAt_23 (v := nI 0) rfl ?_
  refine Z.iaddv B dX12_isWordAt_24 (v := nI 0) (by decide) ?_
  refine Z.istore_n B dX12_isWordAt_25 (by decide) (L' := [(0, .ref 45), (1, .int (nI 1)), (2, .int (nI 1)), (3, .int (nI 0))]) rfl ?_
  refine Z.iinc B dX12_isWordAt_26 (by decide) (x := nI 1) rfl (v := nI 2) (nI_inc 1) (L' := [(0, .ref 45), (1, .int (nI 1)), (2, .int (nI 2)), (3, .int (nI 0))]) rfl ?_
  refine Z.goto B dX12_isWordAt_29 (tgt := 4) rfl ?_
  refine Z.iload_n B dX12_isWordAt_4 (x := nI 0) rfl ?_
  refine Z.iload_n B dX12_isWordAt_5 (x := nI 1) rfl ?_
  refine Z.icmp_geN B dX12_isWordAt_6 (tgt := 32) rfl (by omega) (by omega) (fun h6 => by exfalso; first | omega | contradiction | simp_all) (fun h6 => ?_)
  refine Z.iload_n B dX12_isWordAt_9 (x := nI 0) rfl ?_
  refine Z.aload_n B dX12_isWordAt_10 (v := .ref 45) rfl rfl ?_
  refine Z.getR (σ := (mS σ a t w r)) B fX12_60_12 dX12_isWordAt_11 (hl.n (k := 45) (by decide)) (hl.k (k := 45) (by decide)) (by decide) (j := 60) (hl.r (k := 45) (f := 19) (by decide) (by decide)) ?_
  refine Z.iload_n B dX12_isWordAt_14 (x := nI 2) rfl ?_
  refine Z.iald (σ := (mS σ a t w r)) B dX12_isWordAt_15 (n := 26) (hl.n (k := 60) (by decide)) (hl.k (k := 60) (by decide)) (hl.l (k := 60) (by decide)) (by decide) (j := 2) rfl (by decide) (v := nI 109) (wds_at ht (j := 2) (by decide)) ?_
  refine Z.if_neN B dX12_isWordAt_16 (tgt := 23) rfl (by omega) (fun h16 => ?_) (fun h16 => by exfalso; first | omega | contradiction | simp_all)
  refine Z.iconst B dX12_isWordAt_23 (v := nI 0) rfl ?_
  refine Z.iaddv B dX12_isWordAt_24 (v := nI 0) (by decide) ?_
  refine Z.istore_n B dX12_isWordAt_25 (by decide) (L' := [(0, .ref 45), (1, .int (nI 1)), (2, .int (nI 2)), (3, .int (nI 0))]) rfl ?_
  refine Z.iinc B dX12_isWordAt_26 (by decide) (x := nI 2) rfl (v := nI 3) (nI_inc 2) (L' := [(0, .ref 45), (1, .int (nI 1)), (2, .int (nI 3)), (3, .int (nI 0))]) rfl ?_
  refine Z.goto B dX12_isWordAt_29 (tgt := 4) rfl ?_
  refine Z.iload_n B dX12_isWordAt_4 (x := nI 0) rfl ?_
  refine Z.iload_n B dX12_isWordAt_5 (x := nI 1) rfl ?_
  refine Z.icmp_geN B dX12_isWordAt_6 (tgt := 32) rfl (by omega) (by omega) (fun h6 => by exfalso; first | omega | contradiction | simp_all) (fun h6 => ?_)
  refine Z.iload_n B dX12_isWordAt_9 (x := nI 0) rfl ?_
  refine Z.aload_n B dX12_isWordAt_10 (v := .ref 45) rfl rfl ?_
  refine Z.getR (σ := (mS σ a t w r)) B fX12_60_12 dX12_isWordAt_11 (hl.n (k := 45) (by decide)) (hl.k (k := 45) (by decide)) (by decide) (j := 60) (hl.r (k := 45) (f := 19) (by decide) (by decide)) ?_
  refine Z.iload_n B dX12_isWordAt_14 (x := nI 3) rfl ?_
  refine Z.iald (σ := (mS σ a t w r)) B dX12_isWordAt_15 (n := 26) (hl.n (k := 60) (by decide)) (hl.k (k := 60) (by decide)) (hl.l (k := 60) (by decide)) (by decide) (j := 3) rfl (by decide) (v := nI 101) (wds_at ht (j := 3) (by decide)) ?_
  refine Z.if_neN B dX12_isWordAt_16 (tgt := 23) rfl (by omega) (fun h16 => ?_) (fun h16 => by exfalso; first | omega | contradiction | simp_all)
  refine Z.iconst B dX12_isWordAt_23 (v := nI 0) rfl ?_
  refine Z.iaddv B dX12_isWordAt_24 (v := nI 0) (by decide) ?_
  refine Z.istore_n B dX12_isWordAt_25 (by decide) (L' := [(0, .ref 45), (1, .int (nI 1)), (2, .int (nI 3)), (3, .int (nI 0))]) rfl ?_
  refine Z.iinc B dX12_isWordAt_26 (by decide) (x := nI 3) rfl (v := nI 4) (nI_inc 3) (L' := [(0, .ref 45), (1, .int (nI 1)), (2, .int (nI 4)), (3, .int (nI 0))]) rfl ?_
  refine Z.goto B dX12_isWordAt_29 (tgt := 4) rfl ?_
  refine Z.iload_n B dX12_isWordAt_4 (x := nI 0) rfl ?_
  refine Z.iload_n B dX12_isWordAt_5 (x := nI 1) rfl ?_
  refine Z.icmp_geN B dX12_isWordAt_6 (tgt := 32) rfl (by omega) (by omega) (fun h6 => by exfalso; first | omega | contradiction | simp_all) (fun h6 => ?_)
  refine Z.iload_n B dX12_isWordAt_9 (x := nI 0) rfl ?_
  refine Z.aload_n B dX12_isWordAt_10 (v := .ref 45) rfl rfl ?_
  refine Z.getR (σ := (mS σ a t w r)) B fX12_60_12 dX12_isWordAt_11 (hl.n (k := 45) (by decide)) (hl.k (k := 45) (by decide)) (by decide) (j := 60) (hl.r (k := 45) (f := 19) (by decide) (by decide)) ?_
  refine Z.iload_n B dX12_isWordAt_14 (x := nI 4) rfl ?_
  refine Z.iald (σ := (mS σ a t w r)) B dX12_isWordAt_15 (n := 26) (hl.n (k := 60) (by decide)) (hl.k (k := 60) (by decide)) (hl.l (k := 60) (by decide)) (by decide) (j := 4) rfl (by decide) (v := nI 114) (wds_at ht (j := 4) (by decide)) ?_
  refine Z.if_neN B dX12_isWordAt_16 (tgt := 23) rfl (by omega) (fun h16 => ?_) (fun h16 => by exfalso; first | omega | contradiction | simp_all)
  refine Z.iconst B dX12_isWordAt_23 (v := nI 0) rfl ?_
  refine Z.iaddv B dX12_isWordAt_24 (v := nI 0) (by decide) ?_
  refine Z.istore_n B dX12_isWordAt_25 (by decide) (L' := [(0, .ref 45), (1, .int (nI 1)), (2, .int (nI 4)), (3, .int (nI 0))]) rfl ?_
  refine Z.iinc B dX12_isWordAt_26 (by decide) (x := nI 4) rfl (v := nI 5) (nI_inc 4) (L' := [(0, .ref 45), (1, .int (nI 1)), (2, .int (nI 5)), (3, .int (nI 0))]) rfl ?_
  refine Z.goto B dX12_isWordAt_29 (tgt := 4) rfl ?_
  refine Z.iload_n B dX12_isWordAt_4 (x := nI 0) rfl ?_
  refine Z.iload_n B dX12_isWordAt_5 (x := nI 1) rfl ?_
  refine Z.icmp_geN B dX12_isWordAt_6 (tgt := 32) rfl (by omega) (by omega) (fun h6 => by exfalso; first | omega | contradiction | simp_all) (fun h6 => ?_)
  refine Z.iload_n B dX12_isWordAt_9 (x := nI 0) rfl ?_
  refine Z.aload_n B dX12_isWordAt_10 (v := .ref 45) rfl rfl ?_
  refine Z.getR (σ := (mS σ a t w r)) B fX12_60_12 dX12_isWordAt_11 (hl.n (k := 45) (by decide)) (hl.k (k := 45) (by decide)) (by decide) (j := 60) (hl.r (k := 45) (f := 19) (by decide) (by decide)) ?_
  refine Z.iload_n B dX12_isWordAt_14 (x := nI 5) rfl ?_
  refine Z.iald (σ := (mS σ a t w r)) B dX12_isWordAt_15 (n := 26) (hl.n (k := 60) (by decide)) (hl.k (k := 60) (by decide)) (hl.l (k := 60) (by decide)) (by decide) (j := 5) rfl (by decide) (v := nI 32) (wds_at ht (j := 5) (by decide)) ?_
  refine Z.if_neN B dX12_isWordAt_16 (tgt := 23) rfl (by omega) (fun h16 => ?_) (fun h16 => by exfalso; first | omega | contradiction | simp_all)
  refine Z.iconst B dX12_isWordAt_23 (v := nI 0) rfl ?_
  refine Z.iaddv B dX12_isWordAt_24 (v := nI 0) (by decide) ?_
  refine Z.istore_n B dX12_isWordAt_25 (by decide) (L' := [(0, .ref 45), (1, .int (nI 1)), (2, .int (nI 5)), (3, .int (nI 0))]) rfl ?_
  refine Z.iinc B dX12_isWordAt_26 (by decide) (x := nI 5) rfl (v := nI 6) (nI_inc 5) (L' := [(0, .ref 45), (1, .int (nI 1)), (2, .int (nI 6)), (3, .int (nI 0))]) rfl ?_
  refine Z.goto B dX12_isWordAt_29 (tgt := 4) rfl ?_
  refine Z.iload_n B dX12_isWordAt_4 (x := nI 0) rfl ?_
  refine Z.iload_n B dX12_isWordAt_5 (x := nI 1) rfl ?_
  refine Z.icmp_geN B dX12_isWordAt_6 (tgt := 32) rfl (by omega) (by omega) (fun h6 => by exfalso; first | omega | contradiction | simp_all) (fun h6 => ?_)
  refine Z.iload_n B dX12_isWordAt_9 (x := nI 0) rfl ?_
  refine Z.aload_n B dX12_isWordAt_10 (v := .ref 45) rfl rfl ?_
  refine Z.getR (σ := (mS σ a t w r)) B fX12_60_12 dX12_isWordAt_11 (hl.n (k := 45) (by decide)) (hl.k (k := 45) (by decide)) (by decide) (j := 60) (hl.r (k := 45) (f := 19) (by decide) (by decide)) ?_
  refine Z.iload_n B dX12_isWordAt_14 (x := nI 6) rfl ?_
  refine Z.iald (σ := (mS σ a t w r)) B dX12_isWordAt_15 (n := 26) (hl.n (k := 60) (by decide)) (hl.k (k := 60) (by decide)) (hl.l (k := 60) (by decide)) (by decide) (j := 6) rfl (by decide) (v := nI 0) (wds_at ht (j := 6) (by decide)) ?_
  refine Z.if_neN B dX12_isWordAt_16 (tgt := 23) rfl (by omega) (fun h16 => by exfalso; first | omega | contradiction | simp_all) (fun h16 => ?_)
  refine Z.iconst B dX12_isWordAt_19 (v := nI 1) rfl ?_
  refine Z.goto B dX12_isWordAt_20 (tgt := 24) rfl ?_
  refine Z.iaddv B dX12_isWordAt_24 (v := nI 1) (by decide) ?_
  refine Z.istore_n B dX12_isWordAt_25 (by decide) (L' := [(0, .ref 45), (1, .int (nI 1)), (2, .int (nI 6)), (3, .int (nI 1))]) rfl ?_
  refine Z.iinc B dX12_isWordAt_26 (by decide) (x := nI 6) rfl (v := nI 7) (nI_inc 6) (L' := [(0, .ref 45), (1, .int (nI 1)), (2, .int (nI 7)), (3, .int (nI 1))]) rfl ?_
  refine Z.goto B dX12_isWordAt_29 (tgt := 4) rfl ?_
  refine Z.iload_n B dX12_isWordAt_4 (x := nI 1) rfl ?_
  refine Z.iload_n B dX12_isWordAt_5 (x := nI 1) rfl ?_
  refine Z.icmp_geN B dX12_isWordAt_6 (tgt := 32) rfl (by omega) (by omega) (fun h6 => ?_) (fun h6 => by exfalso; first | omega | contradiction | simp_all)
  refine Z.aload_n B dX12_isWordAt_32 (v := .ref 45) rfl rfl ?_
  refine Z.getI (σ := (mS σ a t w r)) B fX12_141_12 dX12_isWordAt_33 (hl.n (k := 45) (by decide)) (hl.k (k := 45) (by decide)) (by decide) (v := nI a) mS_a ?_
  refine Z.istore_n B dX12_isWordAt_36 (by decide) (L' := [(0, .ref 45), (1, .int (nI 1)), (2, .int (nI 7)), (3, .int (nI a))]) rfl ?_
  have hloop37 : ∀ k : Nat, k ≤ al T a 1 → Z κ 0 0 (mS σ a t w r) 37 [(0, .ref 45), (1, .int (nI 1)), (2, .int (nI (7 + k))), (3, .int (nI (a + k)))] [] := by
    refine z_loop (fun k => 5 - k) (fun k ih hk => ?_)
    have hA1 : al T a 1 ≤ 5 := (al_s (T := T) (a := a) (w := 1)).1
    have hz : wds (7 + k) ≤ 32 ↔ k = 5 := wds_S 1 (by decide) k (by show k ≤ 5; omega)
    have hzl : wds (7 + k) < 2 ^ 31 := wds_lt _ (by omega)
    refine Z.aload_n B dX12_isWordAt_37 (v := .ref 45) rfl rfl ?_
    refine Z.getR (σ := (mS σ a t w r)) B fX12_60_12 dX12_isWordAt_38 (hl.n (k := 45) (by decide)) (hl.k (k := 45) (by decide)) (by decide) (j := 60) (hl.r (k := 45) (f := 19) (by decide) (by decide)) ?_
    refine Z.iload_n B dX12_isWordAt_41 (x := nI (7 + k)) rfl ?_
    refine Z.iald (σ := (mS σ a t w r)) B dX12_isWordAt_42 (n := 26) (hl.n (k := 60) (by decide)) (hl.k (k := 60) (by decide)) (hl.l (k := 60) (by decide)) (by decide) (j := 7 + k) rfl (by omega) (v := nI (wds (7 + k))) (wds_at ht (by omega)) ?_
    refine Z.bipush B dX12_isWordAt_43 (v := nI 32) rfl ?_
    refine Z.icmp_leN B dX12_isWordAt_45 (tgt := 86) rfl (by omega) (by omega) (fun h45 => (by have := hz.mp h45; omega)) (fun h45 => ?_)
    refine Z.iload_n B dX12_isWordAt_48 (x := nI (a + k)) rfl ?_
    refine Z.aload_n B dX12_isWordAt_49 (v := .ref 45) rfl rfl ?_
    refine Z.getI (σ := (mS σ a t w r)) B fX12_144_12 dX12_isWordAt_50 (hl.n (k := 45) (by decide)) (hl.k (k := 45) (by decide)) (by decide) (v := nI m) ((mS_f (by decide) (by decide) (by decide)).trans hen) ?_
    refine Z.icmp_geN B dX12_isWordAt_53 (tgt := 86) rfl (by omega) (by omega) (fun h53 => ?_) (fun h53 => ?_)
    · skip
      refine Z.aload_n B dX12_isWordAt_86 (v := .ref 45) rfl rfl ?_
      refine Z.getR (σ := (mS σ a t w r)) B fX12_60_12 dX12_isWordAt_87 (hl.n (k := 45) (by decide)) (hl.k (k := 45) (by decide)) (by decide) (j := 60) (hl.r (k := 45) (f := 19) (by decide) (by decide)) ?_
      refine Z.iload_n B dX12_isWordAt_90 (x := nI (7 + k)) rfl ?_
      refine Z.iald (σ := (mS σ a t w r)) B dX12_isWordAt_91 (n := 26) (hl.n (k := 60) (by decide)) (hl.k (k := 60) (by decide)) (hl.l (k := 60) (by decide)) (by decide) (j := 7 + k) rfl (by omega) (v := nI (wds (7 + k))) (wds_at ht (by omega)) ?_
      refine Z.bipush B dX12_isWordAt_92 (v := nI 32) rfl ?_
      refine Z.icmp_gtN B dX12_isWordAt_94 (tgt := 101) rfl (by omega) (by omega) (fun h94 => ?_) (fun h94 => (by omega))
      refine Z.iconst B dX12_isWordAt_101 (v := nI 0) rfl ?_
      refine Z.iret B Rt dX12_isWordAt_102 (ty := .boolean) rfl rfl (by decide) (by decide) ?_
      exact ⟨rfl, rfl⟩
    · skip
      refine Z.aload_n B dX12_isWordAt_56 (v := .ref 45) rfl rfl ?_
      refine Z.getR (σ := (mS σ a t w r)) B fX12_53_12 dX12_isWordAt_57 (hl.n (k := 45) (by decide)) (hl.k (k := 45) (by decide)) (by decide) (j := 58) (hl.r (k := 45) (f := 17) (by decide) (by decide)) ?_
      refine Z.aload_n B dX12_isWordAt_60 (v := .ref 45) rfl rfl ?_
      refine Z.getI (σ := (mS σ a t w r)) B fX12_147_12 dX12_isWordAt_61 (hl.n (k := 45) (by decide)) (hl.k (k := 45) (by decide)) (by decide) (v := nI (s * 160)) ((mS_f (by decide) (by decide) (by decide)).trans hbs) ?_
      refine Z.iload_n B dX12_isWordAt_64 (x := nI (a + k)) rfl ?_
      refine Z.iaddN B dX12_isWordAt_65 (a := s * 160) (b := a + k) ?_
      refine Z.lald (σ := (mS σ a t w r)) B dX12_isWordAt_66 (n := 1280) (hl.n (k := 58) (by decide)) (hl.k (k := 58) (by decide)) (hl.l (k := 58) (by decide)) (by decide) (j := (s * 160) + (a + k)) rfl (by omega) (v := (zY (mS σ a t w r) 58 ((s * 160) + (a + k)))) rfl ?_
      refine Z.l2i B dX12_isWordAt_67 ?_
      refine Z.eqS (st' := [.int (T (a + k))]) (congrArg (fun z => Value.int z :: _) (ht.t (i := a + k) (by omega))) ?_
      refine Z.aload_n B dX12_isWordAt_68 (v := .ref 45) rfl rfl ?_
      refine Z.getR (σ := (mS σ a t w r)) B fX12_60_12 dX12_isWordAt_69 (hl.n (k := 45) (by decide)) (hl.k (k := 45) (by decide)) (by decide) (j := 60) (hl.r (k := 45) (f := 19) (by decide) (by decide)) ?_
      refine Z.iload_n B dX12_isWordAt_72 (x := nI (7 + k)) rfl ?_
      refine Z.iald (σ := (mS σ a t w r)) B dX12_isWordAt_73 (n := 26) (hl.n (k := 60) (by decide)) (hl.k (k := 60) (by decide)) (hl.l (k := 60) (by decide)) (by decide) (j := 7 + k) rfl (by omega) (v := nI (wds (7 + k))) (wds_at ht (by omega)) ?_
      refine Z.icmp_ne B dX12_isWordAt_74 (tgt := 86) rfl (fun h74 => ?_) (fun h74 => ?_)
      · skip
        refine Z.aload_n B dX12_isWordAt_86 (v := .ref 45) rfl rfl ?_
        refine Z.getR (σ := (mS σ a t w r)) B fX12_60_12 dX12_isWordAt_87 (hl.n (k := 45) (by decide)) (hl.k (k := 45) (by decide)) (by decide) (j := 60) (hl.r (k := 45) (f := 19) (by decide) (by decide)) ?_
        refine Z.iload_n B dX12_isWordAt_90 (x := nI (7 + k)) rfl ?_
        refine Z.iald (σ := (mS σ a t w r)) B dX12_isWordAt_91 (n := 26) (hl.n (k := 60) (by decide)) (hl.k (k := 60) (by decide)) (hl.l (k := 60) (by decide)) (by decide) (j := 7 + k) rfl (by omega) (v := nI (wds (7 + k))) (wds_at ht (by omega)) ?_
        refine Z.bipush B dX12_isWordAt_92 (v := nI 32) rfl ?_
        refine Z.icmp_gtN B dX12_isWordAt_94 (tgt := 101) rfl (by omega) (by omega) (fun h94 => ?_) (fun h94 => (by omega))
        refine Z.iconst B dX12_isWordAt_101 (v := nI 0) rfl ?_
        refine Z.iret B Rt dX12_isWordAt_102 (ty := .boolean) rfl rfl (by decide) (by decide) ?_
        exact ⟨rfl, rfl⟩
      · skip
        refine Z.iincN B dX12_isWordAt_77 (by decide) (a := a + k) rfl (L' := [(0, .ref 45), (1, .int (nI 1)), (2, .int (nI (7 + k))), (3, .int (nI (a + k + 1)))]) rfl ?_
        refine Z.iincN B dX12_isWordAt_80 (by decide) (a := 7 + k) rfl (L' := [(0, .ref 45), (1, .int (nI 1)), (2, .int (nI (7 + k + 1))), (3, .int (nI (a + k + 1)))]) rfl ?_
        refine Z.goto B dX12_isWordAt_83 (tgt := 37) rfl ?_
        have hk2 : k < al T a 1 := (by rcases Nat.lt_or_ge k (al T a 1) with h1 | h1; exact h1; exfalso; have e : k = al T a 1 := (by omega); have hA := (al_s (T := T) (a := a) (w := 1)).2.2 (by rw [← e]; show k < 5; omega); rw [← e] at hA; exact hA (by rw [← wds_L 1 (by decide) k (by show k < 5; omega)]; exact h74))
        exact ih (k + 1) (by omega) (by omega)
  exact hloop37 0 (Nat.zero_le _)

theorem t_X12_isW_2_1 {σ : zSt} {t w : Int32} {r : Nat → Int32} (hl : Lay σ) {s m : Nat} {T : Nat → Int32} (ht : zTm σ s m T) {a : Nat} (ha : a < 2 ^ 30) (h : al T a 2 = 3) : Dt mX12_isWordAt [.ref 45, .int (nI 2)] (mS σ a t w r) (some (.int (nI 1))) (mS σ a t w r) := by
  obtain ⟨⟨hs8, hm160⟩, ⟨hbs, hen⟩, hT, hwd⟩ := id ht
  refine Dt.of (by decide) (Nat.le_of_ble_eq_true rfl) fun κ B Rt => ?_
  show Z κ 0 0 (mS σ a t w r) 0 [(0, .ref 45), (1, .int (nI 2))] []
  refine Z.iconst B dX12_isWordAt_0 (v := nI 0) rfl ?_
  refine Z.istore_n B dX12_isWordAt_1 (by decide) (L' := [(0, .ref 45), (1, .int (nI 2)), (2, .int (nI 0))]) rfl ?_
  refine Z.iconst B dX12_isWordAt_2 (v := nI 0) rfl ?_
  refine Z.istore_n B dX12_isWordAt_3 (by decide) (L' := [(0, .ref 45), (1, .int (nI 2)), (2, .int (nI 0)), (3, .int (nI 0))]) rfl ?_
  refine Z.iload_n B dX12_isWordAt_4 (x := nI 0) rfl ?_
  refine Z.iload_n B dX12_isWordAt_5 (x := nI 2) rfl ?_
  refine Z.icmp_geN B dX12_isWordAt_6 (tgt := 32) rfl (by omega) (by omega) (fun h6 => by exfalso; first | omega | contradiction | simp_all) (fun h6 => ?_)
  refine Z.iload_n B dX12_isWordAt_9 (x := nI 0) rfl ?_
  refine Z.aload_n B dX12_isWordAt_10 (v := .ref 45) rfl rfl ?_
  refine Z.getR (σ := (mS σ a t w r)) B fX12_60_12 dX12_isWordAt_11 (hl.n (k := 45) (by decide)) (hl.k (k := 45) (by decide)) (by decide) (j := 60) (hl.r (k := 45) (f := 19) (by decide) (by decide)) ?_
  refine Z.iload_n B dX12_isWordAt_14 (x := nI 0) rfl ?_
  refine Z.iald (σ := (mS σ a t w r)) B dX12_isWordAt_15 (n := 26) (hl.n (k := 60) (by decide)) (hl.k (k := 60) (by decide)) (hl.l (k := 60) (by decide)) (by decide) (j := 0) rfl (by decide) (v := nI 99) (wds_at ht (j := 0) (by decide)) ?_
  refine Z.if_neN B dX12_isWordAt_16 (tgt := 23) rfl (by omega) (fun h16 => ?_) (fun h16 => by exfalso; first | omega | contradiction | simp_all)
  refine Z.iconst B dX12_isWordAt_23 (v := nI 0) rfl ?_
  refine Z.iaddv B dX12_isWordAt_24 (v := nI 0) (by decide) ?_
  refine Z.istore_n B dX12_isWordAt_25 (by decide) (L' := [(0, .ref 45), (1, .int (nI 2)), (2, .int (nI 0)), (3, .int (nI 0))]) rfl ?_
  refine Z.iinc B dX12_isWordAt_26 (by decide) (x := nI 0) rfl (v := nI 1) (nI_inc 0) (L' := [(0, .ref 45), (1, .int (nI 2)), (2, .int (nI 1)), (3, .int (nI 0))]) rfl ?_
  refine Z.goto B dX12_isWordAt_29 (tgt := 4) rfl ?_
  refine Z.iload_n B dX12_isWordAt_4 (x := nI 0) rfl ?_
  refine Z.iload_n B dX12_isWordAt_5 (x := nI 2) rfl ?_
  refine Z.icmp_geN B dX12_isWordAt_6 (tgt := 32) rfl (by omega) (by omega) (fun h6 => by exfalso; first | omega | contradiction | simp_all) (fun h6 => ?_)
  refine Z.iload_n B dX12_isWordAt_9 (x := nI 0) rfl ?_
  refine Z.aload_n B dX12_isWordAt_10 (v := .ref 45) rfl rfl ?_
  refine Z.getR (σ := (mS σ a t w r)) B fX12_60_12 dX12_isWordAt_11 (hl.n (k := 45) (by decide)) (hl.k (k := 45) (by decide)) (by decide) (j := 60) (hl.r (k := 45) (f := 19) (by decide) (by decide)) ?_
  refine Z.iload_n B dX12_isWordAt_14 (x := nI 1) rfl ?_
  refine Z.iald (σ := (mS σ a t w r)) B dX12_isWordAt_15 (n := 26) (hl.n (k := 60) (by decide)) (hl.k (k := 60) (by decide)) (hl.l (k := 60) (by decide)) (by decide) (j := 1) rfl (by decide) (v := nI 111) (wds_at ht (j := 1) (by decide)) ?_
  refine Z.if_neN B dX12_isWordAt_16 (tgt := 23) rfl (by omega) (fun h16 => ?_) (fun h16 => by exfalso; first | omega | contradiction | simp_all)
  refine Z.iconst B dX12_isWordAt_23 (v := nI 0) rfl ?_
  refine Z.iaddv B dX12_isWordAt_24 (v := nI 0) (by decide) ?_
  refine Z.istore_n B dX12_isWordAt_25 (by decide) (L' := [(0, .ref 45), (1, .int (nI 2)), (2, .int (nI 1)), (3, .int (nI 0))]) rfl ?_
  refine Z.iinc B dX12_isWordAt_26 (by decide) (x := nI 1) rfl (v := nI 2) (nI_inc 1) (L' := [(0, .ref 45), (1, .int (nI 2)), (2, .int (nI 2)), (3, .int (nI 0))]) rfl ?_
  refine Z.goto B dX12_isWordAt_29 (tgt := 4) rfl ?_
  refine Z.iload_n B dX12_isWordAt_4 (x := nI 0) rfl ?_
  refine Z.iload_n B dX12_isWordAt_5 (x := nI 2) rfl ?_
  refine Z.icmp_geN B dX12_isWordAt_6 (tgt := 32) rfl (by omega) (by omega) (fun h6 => by exfalso; first | omega | contradiction | simp_all) (fun h6 => ?_)
  refine Z.iload_n B dX12_isWordAt_9 (x := nI 0) rfl ?_
  refine Z.aload_n B dX12_isWordAt_10 (v := .ref 45) rfl rfl ?_
  refine Z.getR (σ := (mS σ a t w r)) B fX12_60_12 dX12_isWordAt_11 (hl.n (k := 45) (by decide)) (hl.k (k := 45) (by decide)) (by decide) (j := 60) (hl.r (k := 45) (f := 19) (by decide) (by decide)) ?_
  refine Z.iload_n B dX12_isWordAt_14 (x := nI 2) rfl ?_
  refine Z.iald (σ := (mS σ a t w r)) B dX12_isWordAt_15 (n := 26) (hl.n (k := 60) (by decide)) (hl.k (k := 60) (by decide)) (hl.l (k := 60) (by decide)) (by decide) (j := 2) rfl (by decide) (v := nI 109) (wds_at ht (j := 2) (by decide)) ?_
  refine Z.if_neN B dX12_isWordAt_16 (tgt := 23) rfl (by omega) (fun h16 => ?_) (fun h16 => by exfalso; first | omega | contradiction | simp_all)
  refine Z.iconst B dX12_isWordAt_23 (v := nI 0) rfl ?_
  refine Z.iaddv B dX12_isWordAt_24 (v := nI 0) (by decide) ?_
  refine Z.istore_n B dX12_isWordAt_25 (by decide) (L' := [(0, .ref 45), (1, .int (nI 2)), (2, .int (nI 2)), (3, .int (nI 0))]) rfl ?_
  refine Z.iinc B dX12_isWordAt_26 (by decide) (x := nI 2) rfl (v := nI 3) (nI_inc 2) (L' := [(0, .ref 45), (1, .int (nI 2)), (2, .int (nI 3)), (3, .int (nI 0))]) rfl ?_
  refine Z.goto B dX12_isWordAt_29 (tgt := 4) rfl ?_
  refine Z.iload_n B dX12_isWordAt_4 (x := nI 0) rfl ?_
  refine Z.iload_n B dX12_isWordAt_5 (x := nI 2) rfl ?_
  refine Z.icmp_geN B dX12_isWordAt_6 (tgt := 32) rfl (by omega) (by omega) (fun h6 => by exfalso; first | omega | contradiction | simp_all) (fun h6 => ?_)
  refine Z.iload_n B dX12_isWordAt_9 (x := nI 0) rfl ?_
  refine Z.aload_n B dX12_isWordAt_10 (v := .ref 45) rfl rfl ?_
  refine Z.getR (σ := (mS σ a t w r)) B fX12_60_12 dX12_isWordAt_11 (hl.n (k := 45) (by decide)) (hl.k (k := 45) (by decide)) (by decide) (j := 60) (hl.r (k := 45) (f := 19) (by decide) (by decide)) ?_
  refine Z.iload_n B dX12_isWordAt_14 (x := nI 3) rfl ?_
  refine Z.iald (σ := (mS σ a t w r)) B dX12_isWordAt_15 (n := 26) (hl.n (k := 60) (by decide)) (hl.k (k := 60) (by decide)) (hl.l (k := 60) (by decide)) (by decide) (j := 3) rfl (by decide) (v := nI 101) (wds_at ht (j := 3) (by decide)) ?_
  refine Z.if_neN B dX12_isWordAt_16 (tgt := 23) rfl (by omega) (fun h16 => ?_) (fun h16 => by exfalso; first | omega | contradiction | simp_all)
  refine Z.iconst B dX12_isWordAt_23 (v := nI 0) rfl ?_
  refine Z.iaddv B dX12_isWordAt_24 (v := nI 0) (by decide) ?_
  refine Z.istore_n B dX12_isWordAt_25 (by decide) (L' := [(0, .ref 45), (1, .int (nI 2)), (2, .int (nI 3)), (3, .int (nI 0))]) rfl ?_
  refine Z.iinc B dX12_isWordAt_26 (by decide) (x := nI 3) rfl (v := nI 4) (nI_inc 3) (L' := [(0, .ref 45), (1, .int (nI 2)), (2, .int (nI 4)), (3, .int (nI 0))]) rfl ?_
  refine Z.goto B dX12_isWordAt_29 (tgt := 4) rfl ?_
  refine Z.iload_n B dX12_isWordAt_4 (x := nI 0) rfl ?_
  refine Z.iload_n B dX12_isWordAt_5 (x := nI 2) rfl ?_
  refine Z.icmp_geN B dX12_isWordAt_6 (tgt := 32) rfl (by omega) (by omega) (fun h6 => by exfalso; first | omega | contradiction | simp_all) (fun h6 => ?_)
  refine Z.iload_n B dX12_isWordAt_9 (x := nI 0) rfl ?_
  refine Z.aload_n B dX12_isWordAt_10 (v := .ref 45) rfl rfl ?_
  refine Z.getR (σ := (mS σ a t w r)) B fX12_60_12 dX12_isWordAt_11 (hl.n (k := 45) (by decide)) (hl.k (k := 45) (by decide)) (by decide) (j := 60) (hl.r (k := 45) (f := 19) (by decide) (by decide)) ?_
  refine Z.iload_n B dX12_isWordAt_14 (x := nI 4) rfl ?_
  refine Z.iald (σ := (mS σ a t w r)) B dX12_isWordAt_15 (n := 26) (hl.n (k := 60) (by decide)) (hl.k (k := 60) (by decide)) (hl.l (k := 60) (by decide)) (by decide) (j := 4) rfl (by decide) (v := nI 114) (wds_at ht (j := 4) (by decide)) ?_
  refine Z.if_neN B dX12_isWordAt_16 (tgt := 23) rfl (by omega) (fun h16 => ?_) (fun h16 => by exfalso; first | omega | contradiction | simp_all)
  refine Z.iconst B dX12_isWordAt_23 (v := nI 0) rfl ?_
  refine Z.iaddv B dX12_isWordAt_24 (v := nI 0) (by decide) ?_
  refine Z.istore_n B dX12_isWordAt_25 (by decide) (L' := [(0, .ref 45), (1, .int (nI 2)), (2, .int (nI 4)), (3, .int (nI 0))]) rfl ?_
  refine Z.iinc B dX12_isWordAt_26 (by decide) (x := nI 4) rfl (v := nI 5) (nI_inc 4) (L' := [(0, .ref 45), (1, .int (nI 2)), (2, .int (nI 5)), (3, .int (nI 0))]) rfl ?_
  refine Z.goto B dX12_isWordAt_29 (tgt := 4) rfl ?_
  refine Z.iload_n B dX12_isWordAt_4 (x := nI 0) rfl ?_
  refine Z.iload_n B dX12_isWordAt_5 (x := nI 2) rfl ?_
  refine Z.icmp_geN B dX12_isWordAt_6 (tgt := 32) rfl (by omega) (by omega) (fun h6 => by exfalso; first | omega | contradiction | simp_all) (fun h6 => ?_)
  refine Z.iload_n B dX12_isWordAt_9 (x := nI 0) rfl ?_
  refine Z.aload_n B dX12_isWordAt_10 (v := .ref 45) rfl rfl ?_
  refine Z.getR (σ := (mS σ a t w r)) B fX12_60_12 dX12_isWordAt_11 (hl.n (k := 45) (by decide)) (hl.k (k := 45) (by decide)) (by decide) (j := 60) (hl.r (k := 45) (f := 19) (by decide) (by decide)) ?_
  refine Z.iload_n B dX12_isWordAt_14 (x := nI 5) rfl ?_
  refine Z.iald (σ := (mS σ a t w r)) B dX12_isWordAt_15 (n := 26) (hl.n (k := 60) (by decide)) (hl.k (k := 60) (by decide)) (hl.l (k := 60) (by decide)) (by decide) (j := 5) rfl (by decide) (v := nI 32) (wds_at ht (j := 5) (by decide)) ?_
  refine Z.if_neN B dX12_isWordAt_16 (tgt := 23) rfl (by omega) (fun h16 => ?_) (fun h16 => by exfalso; first | omega | contradiction | simp_all)
  refine Z.iconst B dX12_isWordAt_23 (v := nI 0) rfl ?_
  refine Z.iaddv B dX12_isWordAt_24 (v := nI 0) (by decide) ?_
  refine Z.istore_n B dX12_isWordAt_25 (by decide) (L' := [(0, .ref 45), (1, .int (nI 2)), (2, .int (nI 5)), (3, .int (nI 0))]) rfl ?_
  refine Z.iinc B dX12_isWordAt_26 (by decide) (x := nI 5) rfl (v := nI 6) (nI_inc 5) (L' := [(0, .ref 45), (1, .int (nI 2)), (2, .int (nI 6)), (3, .int (nI 0))]) rfl ?_
  refine Z.goto B dX12_isWordAt_29 (tgt := 4) rfl ?_
  refine Z.iload_n B dX12_isWordAt_4 (x := nI 0) rfl ?_
  refine Z.iload_n B dX12_isWordAt_5 (x := nI 2) rfl ?_
  refine Z.icmp_geN B dX12_isWordAt_6 (tgt := 32) rfl (by omega) (by omega) (fun h6 => by exfalso; first | omega | contradiction | simp_all) (fun h6 => ?_)
  refine Z.iload_n B dX12_isWordAt_9 (x := nI 0) rfl ?_
  refine Z.aload_n B dX12_isWordAt_10 (v := .ref 45) rfl rfl ?_
  refine Z.getR (σ := (mS σ a t w r)) B fX12_60_12 dX12_isWordAt_11 (hl.n (k := 45) (by decide)) (hl.k (k := 45) (by decide)) (by decide) (j := 60) (hl.r (k := 45) (f := 19) (by decide) (by decide)) ?_
  refine Z.iload_n B dX12_isWordAt_14 (x := nI 6) rfl ?_
  refine Z.iald (σ := (mS σ a t w r)) B dX12_isWordAt_15 (n := 26) (hl.n (k := 60) (by decide)) (hl.k (k := 60) (by decide)) (hl.l (k := 60) (by decide)) (by decide) (j := 6) rfl (by decide) (v := nI 0) (wds_at ht (j := 6) (by decide)) ?_
  refine Z.if_neN B dX12_isWordAt_16 (tgt := 23) rfl (by omega) (fun h16 => by exfalso; first | omega | contradiction | simp_all) (fun h16 => ?_)
  refine Z.iconst B dX12_isWordAt_19 (v := nI 1) rfl ?_
  refine Z.goto B dX12_isWordAt_20 (tgt := 24) rfl ?_
  refine Z.iaddv B dX12_isWordAt_24 (v := nI 1) (by decide) ?_
  refine Z.istore_n B dX12_isWordAt_25 (by decide) (L' := [(0, .ref 45), (1, .int (nI 2)), (2, .int (nI 6)), (3, .int (nI 1))]) rfl ?_
  refine Z.iinc B dX12_isWordAt_26 (by decide) (x := nI 6) rfl (v := nI 7) (nI_inc 6) (L' := [(0, .ref 45), (1, .int (nI 2)), (2, .int (nI 7)), (3, .int (nI 1))]) rfl ?_
  refine Z.goto B dX12_isWordAt_29 (tgt := 4) rfl ?_
  refine Z.iload_n B dX12_isWordAt_4 (x := nI 1) rfl ?_
  refine Z.iload_n B dX12_isWordAt_5 (x := nI 2) rfl ?_
  refine Z.icmp_geN B dX12_isWordAt_6 (tgt := 32) rfl (by omega) (by omega) (fun h6 => by exfalso; first | omega | contradiction | simp_all) (fun h6 => ?_)
  refine Z.iload_n B dX12_isWordAt_9 (x := nI 1) rfl ?_
  refine Z.aload_n B dX12_isWordAt_10 (v := .ref 45) rfl rfl ?_
  refine Z.getR (σ := (mS σ a t w r)) B fX12_60_12 dX12_isWordAt_11 (hl.n (k := 45) (by decide)) (hl.k (k := 45) (by decide)) (by decide) (j := 60) (hl.r (k := 45) (f := 19) (by decide) (by decide)) ?_
  refine Z.iload_n B dX12_isWordAt_14 (x := nI 7) rfl ?_
  refine Z.iald (σ := (mS σ a t w r)) B dX12_isWordAt_15 (n := 26) (hl.n (k := 60) (by decide)) (hl.k (k := 60) (by decide)) (hl.l (k := 60) (by decide)) (by decide) (j := 7) rfl (by decide) (v := nI 97) (wds_at ht (j := 7) (by decide)) ?_
  refine Z.if_neN B dX12_isWordAt_16 (tgt := 23) rfl (by omega) (fun h16 => ?_) (fun h16 => by exfalso; first | omega | contradiction | simp_all)
  refine Z.iconst B dX12_isWordAt_23 (v := nI 0) rfl ?_
  refine Z.iaddv B dX12_isWordAt_24 (v := nI 1) (by decide) ?_
  refine Z.istore_n B dX12_isWordAt_25 (by decide) (L' := [(0, .ref 45), (1, .int (nI 2)), (2, .int (nI 7)), (3, .int (nI 1))]) rfl ?_
  refine Z.iinc B dX12_isWordAt_26 (by decide) (x := nI 7) rfl (v := nI 8) (nI_inc 7) (L' := [(0, .ref 45), (1, .int (nI 2)), (2, .int (nI 8)), (3, .int (nI 1))]) rfl ?_
  refine Z.goto B dX12_isWordAt_29 (tgt := 4) rfl ?_
  refine Z.iload_n B dX12_isWordAt_4 (x := nI 1) rfl ?_
  refine Z.iload_n B dX12_isWordAt_5 (x := nI 2) rfl ?_
  refine Z.icmp_geN B dX12_isWordAt_6 (tgt := 32) rfl (by omega) (by omega) (fun h6 => by exfalso; first | omega | contradiction | simp_all) (fun h6 => ?_)
  refine Z.iload_n B dX12_isWordAt_9 (x := nI 1) rfl ?_
  refine Z.aload_n B dX12_isWordAt_10 (v := .ref 45) rfl rfl ?_
  refine Z.getR (σ := (mS σ a t w r)) B fX12_60_12 dX12_isWordAt_11 (hl.n (k := 45) (by decide)) (hl.k (k := 45) (by decide)) (by decide) (j := 60) (hl.r (k := 45) (f := 19) (by decide) (by decide)) ?_
  refine Z.iload_n B dX12_isWordAt_14 (x := nI 8) rfl ?_
  refine Z.iald (σ := (mS σ a t w r)) B dX12_isWordAt_15 (n := 26) (hl.n (k := 60) (by decide)) (hl.k (k := 60) (by decide)) (hl.l (k := 60) (by decide)) (by decide) (j := 8) rfl (by decide) (v := nI 115) (wds_at ht (j := 8) (by decide)) ?_
  refine Z.if_neN B dX12_isWordAt_16 (tgt := 23) rfl (by omega) (fun h16 => ?_) (fun h16 => by exfalso; first | omega | contradiction | simp_all)
  refine Z.iconst B dX12_isWordAt_23 (v := nI 0) rfl ?_
  refine Z.iaddv B dX12_isWordAt_24 (v := nI 1) (by decide) ?_
  refine Z.istore_n B dX12_isWordAt_25 (by decide) (L' := [(0, .ref 45), (1, .int (nI 2)), (2, .int (nI 8)), (3, .int (nI 1))]) rfl ?_
  refine Z.iinc B dX12_isWordAt_26 (by decide) (x := nI 8) rfl (v := nI 9) (nI_inc 8) (L' := [(0, .ref 45), (1, .int (nI 2)), (2, .int (nI 9)), (3, .int (nI 1))]) rfl ?_
  refine Z.goto B dX12_isWordAt_29 (tgt := 4) rfl ?_
  refine Z.iload_n B dX12_isWordAt_4 (x := nI 1) rfl ?_
  refine Z.iload_n B dX12_isWordAt_5 (x := nI 2) rfl ?_
  refine Z.icmp_geN B dX12_isWordAt_6 (tgt := 32) rfl (by omega) (by omega) (fun h6 => by exfalso; first | omega | contradiction | simp_all) (fun h6 => ?_)
  refine Z.iload_n B dX12_isWordAt_9 (x := nI 1) rfl ?_
  refine Z.aload_n B dX12_isWordAt_10 (v := .ref 45) rfl rfl ?_
  refine Z.getR (σ := (mS σ a t w r)) B fX12_60_12 dX12_isWordAt_11 (hl.n (k := 45) (by decide)) (hl.k (k := 45) (by decide)) (by decide) (j := 60) (hl.r (k := 45) (f := 19) (by decide) (by decide)) ?_
  refine Z.iload_n B dX12_isWordAt_14 (x := nI 9) rfl ?_
  refine Z.iald (σ := (mS σ a t w r)) B dX12_isWordAt_15 (n := 26) (hl.n (k := 60) (by decide)) (hl.k (k := 60) (by decide)) (hl.l (k := 60) (by decide)) (by decide) (j := 9) rfl (by decide) (v := nI 107) (wds_at ht (j := 9) (by decide)) ?_
  refine Z.if_neN B dX12_isWordAt_16 (tgt := 23) rfl (by omega) (fun h16 => ?_) (fun h16 => by exfalso; first | omega | contradiction | simp_all)
  refine Z.iconst B dX12_isWordAt_23 (v := nI 0) rfl ?_
  refine Z.iaddv B dX12_isWordAt_24 (v := nI 1) (by decide) ?_
  refine Z.istore_n B dX12_isWordAt_25 (by decide) (L' := [(0, .ref 45), (1, .int (nI 2)), (2, .int (nI 9)), (3, .int (nI 1))]) rfl ?_
  refine Z.iinc B dX12_isWordAt_26 (by decide) (x := nI 9) rfl (v := nI 10) (nI_inc 9) (L' := [(0, .ref 45), (1, .int (nI 2)), (2, .int (nI 10)), (3, .int (nI 1))]) rfl ?_
  refine Z.goto B dX12_isWordAt_29 (tgt := 4) rfl ?_
  refine Z.iload_n B dX12_isWordAt_4 (x := nI 1) rfl ?_
  refine Z.iload_n B dX12_isWordAt_5 (x := nI 2) rfl ?_
  refine Z.icmp_geN B dX12_isWordAt_6 (tgt := 32) rfl (by omega) (by omega) (fun h6 => by exfalso; first | omega | contradiction | simp_all) (fun h6 => ?_)
  refine Z.iload_n B dX12_isWordAt_9 (x := nI 1) rfl ?_
  refine Z.aload_n B dX12_isWordAt_10 (v := .ref 45) rfl rfl ?_
  refine Z.getR (σ := (mS σ a t w r)) B fX12_60_12 dX12_isWordAt_11 (hl.n (k := 45) (by decide)) (hl.k (k := 45) (by decide)) (by decide) (j := 60) (hl.r (k := 45) (f := 19) (by decide) (by decide)) ?_
  refine Z.iload_n B dX12_isWordAt_14 (x := nI 10) rfl ?_
  refine Z.iald (σ := (mS σ a t w r)) B dX12_isWordAt_15 (n := 26) (hl.n (k := 60) (by decide)) (hl.k (k := 60) (by decide)) (hl.l (k := 60) (by decide)) (by decide) (j := 10) rfl (by decide) (v := nI 101) (wds_at ht (j := 10) (by decide)) ?_
  refine Z.if_neN B dX12_isWordAt_16 (tgt := 23) rfl (by omega) (fun h16 => ?_) (fun h16 => by exfalso; first | omega | contradiction | simp_all)
  refine Z.iconst B dX12_isWordAt_23 (v := nI 0) rfl ?_
  refine Z.iaddv B dX12_isWordAt_24 (v := nI 1) (by decide) ?_
  refine Z.istore_n B dX12_isWordAt_25 (by decide) (L' := [(0, .ref 45), (1, .int (nI 2)), (2, .int (nI 10)), (3, .int (nI 1))]) rfl ?_
  refine Z.iinc B dX12_isWordAt_26 (by decide) (x := nI 10) rfl (v := nI 11) (nI_inc 10) (L' := [(0, .ref 45), (1, .int (nI 2)), (2, .int (nI 11)), (3, .int (nI 1))]) rfl ?_
  refine Z.goto B dX12_isWordAt_29 (tgt := 4) rfl ?_
  refine Z.iload_n B dX12_isWordAt_4 (x := nI 1) rfl ?_
  refine Z.iload_n B dX12_isWordAt_5 (x := nI 2) rfl ?_
  refine Z.icmp_geN B dX12_isWordAt_6 (tgt := 32) rfl (by omega) (by omega) (fun h6 => by exfalso; first | omega | contradiction | simp_all) (fun h6 => ?_)
  refine Z.iload_n B dX12_isWordAt_9 (x := nI 1) rfl ?_
  refine Z.aload_n B dX12_isWordAt_10 (v := .ref 45) rfl rfl ?_
  refine Z.getR (σ := (mS σ a t w r)) B fX12_60_12 dX12_isWordAt_11 (hl.n (k := 45) (by decide)) (hl.k (k := 45) (by decide)) (by decide) (j := 60) (hl.r (k := 45) (f := 19) (by decide) (by decide)) ?_
  refine Z.iload_n B dX12_isWordAt_14 (x := nI 11) rfl ?_
  refine Z.iald (σ := (mS σ a t w r)) B dX12_isWordAt_15 (n := 26) (hl.n (k := 60) (by decide)) (hl.k (k := 60) (by decide)) (hl.l (k := 60) (by decide)) (by decide) (j := 11) rfl (by decide) (v := nI 114) (wds_at ht (j := 11) (by decide)) ?_
  refine Z.if_neN B dX12_isWordAt_16 (tgt := 23) rfl (by omega) (fun h16 => ?_) (fun h16 => by exfalso; first | omega | contradiction | simp_all)
  refine Z.iconst B dX12_isWordAt_23 (v := nI 0) rfl ?_
  refine Z.iaddv B dX12_isWordAt_24 (v := nI 1) (by decide) ?_
  refine Z.istore_n B dX12_isWordAt_25 (by decide) (L' := [(0, .ref 45), (1, .int (nI 2)), (2, .int (nI 11)), (3, .int (nI 1))]) rfl ?_
  refine Z.iinc B dX12_isWordAt_26 (by decide) (x := nI 11) rfl (v := nI 12) (nI_inc 11) (L' := [(0, .ref 45), (1, .int (nI 2)), (2, .int (nI 12)), (3, .int (nI 1))]) rfl ?_
  refine Z.goto B dX12_isWordAt_29 (tgt := 4) rfl ?_
  refine Z.iload_n B dX12_isWordAt_4 (x := nI 1) rfl ?_
  refine Z.iload_n B dX12_isWordAt_5 (x := nI 2) rfl ?_
  refine Z.icmp_geN B dX12_isWordAt_6 (tgt := 32) rfl (by omega) (by omega) (fun h6 => by exfalso; first | omega | contradiction | simp_all) (fun h6 => ?_)
  refine Z.iload_n B dX12_isWordAt_9 (x := nI 1) rfl ?_
  refine Z.aload_n B dX12_isWordAt_10 (v := .ref 45) rfl rfl ?_
  refine Z.getR (σ := (mS σ a t w r)) B fX12_60_12 dX12_isWordAt_11 (hl.n (k := 45) (by decide)) (hl.k (k := 45) (by decide)) (by decide) (j := 60) (hl.r (k := 45) (f := 19) (by decide) (by decide)) ?_
  refine Z.iload_n B dX12_isWordAt_14 (x := nI 12) rfl ?_
  refine Z.iald (σ := (mS σ a t w r)) B dX12_isWordAt_15 (n := 26) (hl.n (k := 60) (by decide)) (hl.k (k := 60) (by decide)) (hl.l (k := 60) (by decide)) (by decide) (j := 12) rfl (by decide) (v := nI 32) (wds_at ht (j := 12) (by decide)) ?_
  refine Z.if_neN B dX12_isWordAt_16 (tgt := 23) rfl (by omega) (fun h16 => ?_) (fun h16 => by exfalso; first | omega | contradiction | simp_all)
  refine Z.iconst B dX12_isWordAt_23 (v := nI 0) rfl ?_
  refine Z.iaddv B dX12_isWordAt_24 (v := nI 1) (by decide) ?_
  refine Z.istore_n B dX12_isWordAt_25 (by decide) (L' := [(0, .ref 45), (1, .int (nI 2)), (2, .int (nI 12)), (3, .int (nI 1))]) rfl ?_
  refine Z.iinc B dX12_isWordAt_26 (by decide) (x := nI 12) rfl (v := nI 13) (nI_inc 12) (L' := [(0, .ref 45), (1, .int (nI 2)), (2, .int (nI 13)), (3, .int (nI 1))]) rfl ?_
  refine Z.goto B dX12_isWordAt_29 (tgt := 4) rfl ?_
  refine Z.iload_n B dX12_isWordAt_4 (x := nI 1) rfl ?_
  refine Z.iload_n B dX12_isWordAt_5 (x := nI 2) rfl ?_
  refine Z.icmp_geN B dX12_isWordAt_6 (tgt := 32) rfl (by omega) (by omega) (fun h6 => by exfalso; first | omega | contradiction | simp_all) (fun h6 => ?_)
  refine Z.iload_n B dX12_isWordAt_9 (x := nI 1) rfl ?_
  refine Z.aload_n B dX12_isWordAt_10 (v := .ref 45) rfl rfl ?_
  refine Z.getR (σ := (mS σ a t w r)) B fX12_60_12 dX12_isWordAt_11 (hl.n (k := 45) (by decide)) (hl.k (k := 45) (by decide)) (by decide) (j := 60) (hl.r (k := 45) (f := 19) (by decide) (by decide)) ?_
  refine Z.iload_n B dX12_isWordAt_14 (x := nI 13) rfl ?_
  refine Z.iald (σ := (mS σ a t w r)) B dX12_isWordAt_15 (n := 26) (hl.n (k := 60) (by decide)) (hl.k (k := 60) (by decide)) (hl.l (k := 60) (by decide)) (by decide) (j := 13) rfl (by decide) (v := nI 0) (wds_at ht (j := 13) (by decide)) ?_
  refine Z.if_neN B dX12_isWordAt_16 (tgt := 23) rfl (by omega) (fun h16 => by exfalso; first | omega | contradiction | simp_all) (fun h16 => ?_)
  refine Z.iconst B dX12_isWordAt_19 (v := nI 1) rfl ?_
  refine Z.goto B dX12_isWordAt_20 (tgt := 24) rfl ?_
  refine Z.iaddv B dX12_isWordAt_24 (v := nI 2) (by decide) ?_
  refine Z.istore_n B dX12_isWordAt_25 (by decide) (L' := [(0, .ref 45), (1, .int (nI 2)), (2, .int (nI 13)), (3, .int (nI 2))]) rfl ?_
  refine Z.iinc B dX12_isWordAt_26 (by decide) (x := nI 13) rfl (v := nI 14) (nI_inc 13) (L' := [(0, .ref 45), (1, .int (nI 2)), (2, .int (nI 14)), (3, .int (nI 2))]) rfl ?_
  refine Z.goto B dX12_isWordAt_29 (tgt := 4) rfl ?_
  refine Z.iload_n B dX12_isWordAt_4 (x := nI 2) rfl ?_
  refine Z.iload_n B dX12_isWordAt_5 (x := nI 2) rfl ?_
  refine Z.icmp_geN B dX12_isWordAt_6 (tgt := 32) rfl (by omega) (by omega) (fun h6 => ?_) (fun h6 => by exfalso; first | omega | contradiction | simp_all)
  refine Z.aload_n B dX12_isWordAt_32 (v := .ref 45) rfl rfl ?_
  refine Z.getI (σ := (mS σ a t w r)) B fX12_141_12 dX12_isWordAt_33 (hl.n (k := 45) (by decide)) (hl.k (k := 45) (by decide)) (by decide) (v := nI a) mS_a ?_
  refine Z.istore_n B dX12_isWordAt_36 (by decide) (L' := [(0, .ref 45), (1, .int (nI 2)), (2, .int (nI 14)), (3, .int (nI a))]) rfl ?_
  have hloop37 : ∀ k : Nat, k ≤ al T a 2 → Z κ 0 0 (mS σ a t w r) 37 [(0, .ref 45), (1, .int (nI 2)), (2, .int (nI (14 + k))), (3, .int (nI (a + k)))] [] := by
    refine z_loop (fun k => 3 - k) (fun k ih hk => ?_)
    have hA1 : al T a 2 ≤ 3 := (al_s (T := T) (a := a) (w := 2)).1
    have hz : wds (14 + k) ≤ 32 ↔ k = 3 := wds_S 2 (by decide) k (by show k ≤ 3; omega)
    have hzl : wds (14 + k) < 2 ^ 31 := wds_lt _ (by omega)
    refine Z.aload_n B dX12_isWordAt_37 (v := .ref 45) rfl rfl ?_
    refine Z.getR (σ := (mS σ a t w r)) B fX12_60_12 dX12_isWordAt_38 (hl.n (k := 45) (by decide)) (hl.k (k := 45) (by decide)) (by decide) (j := 60) (hl.r (k := 45) (f := 19) (by decide) (by decide)) ?_
    refine Z.iload_n B dX12_isWordAt_41 (x := nI (14 + k)) rfl ?_
    refine Z.iald (σ := (mS σ a t w r)) B dX12_isWordAt_42 (n := 26) (hl.n (k := 60) (by decide)) (hl.k (k := 60) (by decide)) (hl.l (k := 60) (by decide)) (by decide) (j := 14 + k) rfl (by omega) (v := nI (wds (14 + k))) (wds_at ht (by omega)) ?_
    refine Z.bipush B dX12_isWordAt_43 (v := nI 32) rfl ?_
    refine Z.icmp_leN B dX12_isWordAt_45 (tgt := 86) rfl (by omega) (by omega) (fun h45 => ?_) (fun h45 => ?_)
    · skip
      have hke : k = 3 := hz.mp h45
      refine Z.aload_n B dX12_isWordAt_86 (v := .ref 45) rfl rfl ?_
      refine Z.getR (σ := (mS σ a t w r)) B fX12_60_12 dX12_isWordAt_87 (hl.n (k := 45) (by decide)) (hl.k (k := 45) (by decide)) (by decide) (j := 60) (hl.r (k := 45) (f := 19) (by decide) (by decide)) ?_
      refine Z.iload_n B dX12_isWordAt_90 (x := nI (14 + k)) rfl ?_
      refine Z.iald (σ := (mS σ a t w r)) B dX12_isWordAt_91 (n := 26) (hl.n (k := 60) (by decide)) (hl.k (k := 60) (by decide)) (hl.l (k := 60) (by decide)) (by decide) (j := 14 + k) rfl (by omega) (v := nI (wds (14 + k))) (wds_at ht (by omega)) ?_
      refine Z.bipush B dX12_isWordAt_92 (v := nI 32) rfl ?_
      refine Z.icmp_gtN B dX12_isWordAt_94 (tgt := 101) rfl (by omega) (by omega) (fun h94 => (by omega)) (fun h94 => ?_)
      refine Z.iconst B dX12_isWordAt_97 (v := nI 1) rfl ?_
      refine Z.goto B dX12_isWordAt_98 (tgt := 102) rfl ?_
      refine Z.iret B Rt dX12_isWordAt_102 (ty := .boolean) rfl rfl (by decide) (by decide) ?_
      exact ⟨rfl, rfl⟩
    · skip
      have hlk : k < al T a 2 := (by have : ¬ k = 3 := (fun e => h45 (hz.mpr e)); omega)
      have hin := al_z ht (by decide) hlk
      refine Z.iload_n B dX12_isWordAt_48 (x := nI (a + k)) rfl ?_
      refine Z.aload_n B dX12_isWordAt_49 (v := .ref 45) rfl rfl ?_
      refine Z.getI (σ := (mS σ a t w r)) B fX12_144_12 dX12_isWordAt_50 (hl.n (k := 45) (by decide)) (hl.k (k := 45) (by decide)) (by decide) (v := nI m) ((mS_f (by decide) (by decide) (by decide)).trans hen) ?_
      refine Z.icmp_geN B dX12_isWordAt_53 (tgt := 86) rfl (by omega) (by omega) (fun h53 => (by omega)) (fun h53 => ?_)
      refine Z.aload_n B dX12_isWordAt_56 (v := .ref 45) rfl rfl ?_
      refine Z.getR (σ := (mS σ a t w r)) B fX12_53_12 dX12_isWordAt_57 (hl.n (k := 45) (by decide)) (hl.k (k := 45) (by decide)) (by decide) (j := 58) (hl.r (k := 45) (f := 17) (by decide) (by decide)) ?_
      refine Z.aload_n B dX12_isWordAt_60 (v := .ref 45) rfl rfl ?_
      refine Z.getI (σ := (mS σ a t w r)) B fX12_147_12 dX12_isWordAt_61 (hl.n (k := 45) (by decide)) (hl.k (k := 45) (by decide)) (by decide) (v := nI (s * 160)) ((mS_f (by decide) (by decide) (by decide)).trans hbs) ?_
      refine Z.iload_n B dX12_isWordAt_64 (x := nI (a + k)) rfl ?_
      refine Z.iaddN B dX12_isWordAt_65 (a := s * 160) (b := a + k) ?_
      refine Z.lald (σ := (mS σ a t w r)) B dX12_isWordAt_66 (n := 1280) (hl.n (k := 58) (by decide)) (hl.k (k := 58) (by decide)) (hl.l (k := 58) (by decide)) (by decide) (j := (s * 160) + (a + k)) rfl (by omega) (v := (zY (mS σ a t w r) 58 ((s * 160) + (a + k)))) rfl ?_
      refine Z.l2i B dX12_isWordAt_67 ?_
      refine Z.eqS (st' := [.int (T (a + k))]) (congrArg (fun z => Value.int z :: _) (ht.t (i := a + k) (by omega))) ?_
      refine Z.aload_n B dX12_isWordAt_68 (v := .ref 45) rfl rfl ?_
      refine Z.getR (σ := (mS σ a t w r)) B fX12_60_12 dX12_isWordAt_69 (hl.n (k := 45) (by decide)) (hl.k (k := 45) (by decide)) (by decide) (j := 60) (hl.r (k := 45) (f := 19) (by decide) (by decide)) ?_
      refine Z.iload_n B dX12_isWordAt_72 (x := nI (14 + k)) rfl ?_
      refine Z.iald (σ := (mS σ a t w r)) B dX12_isWordAt_73 (n := 26) (hl.n (k := 60) (by decide)) (hl.k (k := 60) (by decide)) (hl.l (k := 60) (by decide)) (by decide) (j := 14 + k) rfl (by omega) (v := nI (wds (14 + k))) (wds_at ht (by omega)) ?_
      refine Z.icmp_ne B dX12_isWordAt_74 (tgt := 86) rfl (fun h74 => (absurd (by rw [show wds (14 + k) = ltr 2 k from wds_L 2 (by decide) k (by show k < 3; omega)]; exact (al_s (T := T) (a := a) (w := 2)).2.1 k hlk) h74)) (fun h74 => ?_)
      refine Z.iincN B dX12_isWordAt_77 (by decide) (a := a + k) rfl (L' := [(0, .ref 45), (1, .int (nI 2)), (2, .int (nI (14 + k))), (3, .int (nI (a + k + 1)))]) rfl ?_
      refine Z.iincN B dX12_isWordAt_80 (by decide) (a := 14 + k) rfl (L' := [(0, .ref 45), (1, .int (nI 2)), (2, .int (nI (14 + k + 1))), (3, .int (nI (a + k + 1)))]) rfl ?_
      refine Z.goto B dX12_isWordAt_83 (tgt := 37) rfl ?_
      exact ih (k + 1) (by omega) (by omega)
  exact hloop37 0 (Nat.zero_le _)

theorem t_X12_isW_2_0 {σ : zSt} {t w : Int32} {r : Nat → Int32} (hl : Lay σ) {s m : Nat} {T : Nat → Int32} (ht : zTm σ s m T) {a : Nat} (ha : a < 2 ^ 30) (h : ¬ al T a 2 = 3) : Dt mX12_isWordAt [.ref 45, .int (nI 2)] (mS σ a t w r) (some (.int (nI 0))) (mS σ a t w r) := by
  obtain ⟨⟨hs8, hm160⟩, ⟨hbs, hen⟩, hT, hwd⟩ := id ht
  refine Dt.of (by decide) (Nat.le_of_ble_eq_true rfl) fun κ B Rt => ?_
  show Z κ 0 0 (mS σ a t w r) 0 [(0, .ref 45), (1, .int (nI 2))] []
  refine Z.iconst B dX12_isWordAt_0 (v := nI 0) rfl ?_
  refine Z.istore_n B dX12_isWordAt_1 (by decide) (L' := [(0, .ref 45), (1, .int (nI 2)), (2, .int (nI 0))]) rfl ?_
  refine Z.iconst B dX12_isWordAt_2 (v := nI 0) rfl ?_
  refine Z.istore_n B dX12_isWordAt_3 (by decide) (L' := [(0, .ref 45), (1, .int (nI 2)), (2, .int (nI 0)), (3, .int (nI 0))]) rfl ?_
  refine Z.iload_n B dX12_isWordAt_4 (x := nI 0) rfl ?_
  refine Z.iload_n B dX12_isWordAt_5 (x := nI 2) rfl ?_
  refine Z.icmp_geN B dX12_isWordAt_6 (tgt := 32) rfl (by omega) (by omega) (fun h6 => by exfalso; first | omega | contradiction | simp_all) (fun h6 => ?_)
  refine Z.iload_n B dX12_isWordAt_9 (x := nI 0) rfl ?_
  refine Z.aload_n B dX12_isWordAt_10 (v := .ref 45) rfl rfl ?_
  refine Z.getR (σ := (mS σ a t w r)) B fX12_60_12 dX12_isWordAt_11 (hl.n (k := 45) (by decide)) (hl.k (k := 45) (by decide)) (by decide) (j := 60) (hl.r (k := 45) (f := 19) (by decide) (by decide)) ?_
  refine Z.iload_n B dX12_isWordAt_14 (x := nI 0) rfl ?_
  refine Z.iald (σ := (mS σ a t w r)) B dX12_isWordAt_15 (n := 26) (hl.n (k := 60) (by decide)) (hl.k (k := 60) (by decide)) (hl.l (k := 60) (by decide)) (by decide) (j := 0) rfl (by decide) (v := nI 99) (wds_at ht (j := 0) (by decide)) ?_
  refine Z.if_neN B dX12_isWordAt_16 (tgt := 23) rfl (by omega) (fun h16 => ?_) (fun h16 => by exfalso; first | omega | contradiction | simp_all)
  refine Z.iconst B dX12_isWordAt_23 (v := nI 0) rfl ?_
  refine Z.iaddv B dX12_isWordAt_24 (v := nI 0) (by decide) ?_
  refine Z.istore_n B dX12_isWordAt_25 (by decide) (L' := [(0, .ref 45), (1, .int (nI 2)), (2, .int (nI 0)), (3, .int (nI 0))]) rfl ?_
  refine Z.iinc B dX12_isWordAt_26 (by decide) (x := nI 0) rfl (v := nI 1) (nI_inc 0) (L' := [(0, .ref 45), (1, .int (nI 2)), (2, .int (nI 1)), (3, .int (nI 0))]) rfl ?_
  refine Z.goto B dX12_isWordAt_29 (tgt := 4) rfl ?_
  refine Z.iload_n B dX12_isWordAt_4 (x := nI 0) rfl ?_
  refine Z.iload_n B dX12_isWordAt_5 (x := nI 2) rfl ?_
  refine Z.icmp_geN B dX12_isWordAt_6 (tgt := 32) rfl (by omega) (by omega) (fun h6 => by exfalso; first | omega | contradiction | simp_all) (fun h6 => ?_)
  refine Z.iload_n B dX12_isWordAt_9 (x := nI 0) rfl ?_
  refine Z.aload_n B dX12_isWordAt_10 (v := .ref 45) rfl rfl ?_
  refine Z.getR (σ := (mS σ a t w r)) B fX12_60_12 dX12_isWordAt_11 (hl.n (k := 45) (by decide)) (hl.k (k := 45) (by decide)) (by decide) (j := 60) (hl.r (k := 45) (f := 19) (by decide) (by decide)) ?_
  refine Z.iload_n B dX12_isWordAt_14 (x := nI 1) rfl ?_
  refine Z.iald (σ := (mS σ a t w r)) B dX12_isWordAt_15 (n := 26) (hl.n (k := 60) (by decide)) (hl.k (k := 60) (by decide)) (hl.l (k := 60) (by decide)) (by decide) (j := 1) rfl (by decide) (v := nI 111) (wds_at ht (j := 1) (by decide)) ?_
  refine Z.if_neN B dX12_isWordAt_16 (tgt := 23) rfl (by omega) (fun h16 => ?_) (fun h16 => by exfalso; first | omega | contradiction | simp_all)
  refine Z.iconst B dX12_isWordAt_23 (v := nI 0) rfl ?_
  refine Z.iaddv B dX12_isWordAt_24 (v := nI 0) (by decide) ?_
  refine Z.istore_n B dX12_isWordAt_25 (by decide) (L' := [(0, .ref 45), (1, .int (nI 2)), (2, .int (nI 1)), (3, .int (nI 0))]) rfl ?_
  refine Z.iinc B dX12_isWordAt_26 (by decide) (x := nI 1) rfl (v := nI 2) (nI_inc 1) (L' := [(0, .ref 45), (1, .int (nI 2)), (2, .int (nI 2)), (3, .int (nI 0))]) rfl ?_
  refine Z.goto B dX12_isWordAt_29 (tgt := 4) rfl ?_
  refine Z.iload_n B dX12_isWordAt_4 (x := nI 0) rfl ?_
  refine Z.iload_n B dX12_isWordAt_5 (x := nI 2) rfl ?_
  refine Z.icmp_geN B dX12_isWordAt_6 (tgt := 32) rfl (by omega) (by omega) (fun h6 => by exfalso; first | omega | contradiction | simp_all) (fun h6 => ?_)
  refine Z.iload_n B dX12_isWordAt_9 (x := nI 0) rfl ?_
  refine Z.aload_n B dX12_isWordAt_10 (v := .ref 45) rfl rfl ?_
  refine Z.getR (σ := (mS σ a t w r)) B fX12_60_12 dX12_isWordAt_11 (hl.n (k := 45) (by decide)) (hl.k (k := 45) (by decide)) (by decide) (j := 60) (hl.r (k := 45) (f := 19) (by decide) (by decide)) ?_
  refine Z.iload_n B dX12_isWordAt_14 (x := nI 2) rfl ?_
  refine Z.iald (σ := (mS σ a t w r)) B dX12_isWordAt_15 (n := 26) (hl.n (k := 60) (by decide)) (hl.k (k := 60) (by decide)) (hl.l (k := 60) (by decide)) (by decide) (j := 2) rfl (by decide) (v := nI 109) (wds_at ht (j := 2) (by decide)) ?_
  refine Z.if_neN B dX12_isWordAt_16 (tgt := 23) rfl (by omega) (fun h16 => ?_) (fun h16 => by exfalso; first | omega | contradiction | simp_all)
  refine Z.iconst B dX12_isWordAt_23 (v := nI 0) rfl ?_
  refine Z.iaddv B dX12_isWordAt_24 (v := nI 0) (by decide) ?_
  refine Z.istore_n B dX12_isWordAt_25 (by decide) (L' := [(0, .ref 45), (1, .int (nI 2)), (2, .int (nI 2)), (3, .int (nI 0))]) rfl ?_
  refine Z.iinc B dX12_isWordAt_26 (by decide) (x := nI 2) rfl (v := nI 3) (nI_inc 2) (L' := [(0, .ref 45), (1, .int (nI 2)), (2, .int (nI 3)), (3, .int (nI 0))]) rfl ?_
  refine Z.goto B dX12_isWordAt_29 (tgt := 4) rfl ?_
  refine Z.iload_n B dX12_isWordAt_4 (x := nI 0) rfl ?_
  refine Z.iload_n B dX12_isWordAt_5 (x := nI 2) rfl ?_
  refine Z.icmp_geN B dX12_isWordAt_6 (tgt := 32) rfl (by omega) (by omega) (fun h6 => by exfalso; first | omega | contradiction | simp_all) (fun h6 => ?_)
  refine Z.iload_n B dX12_isWordAt_9 (x := nI 0) rfl ?_
  refine Z.aload_n B dX12_isWordAt_10 (v := .ref 45) rfl rfl ?_
  refine Z.getR (σ := (mS σ a t w r)) B fX12_60_12 dX12_isWordAt_11 (hl.n (k := 45) (by decide)) (hl.k (k := 45) (by decide)) (by decide) (j := 60) (hl.r (k := 45) (f := 19) (by decide) (by decide)) ?_
  refine Z.iload_n B dX12_isWordAt_14 (x := nI 3) rfl ?_
  refine Z.iald (σ := (mS σ a t w r)) B dX12_isWordAt_15 (n := 26) (hl.n (k := 60) (by decide)) (hl.k (k := 60) (by decide)) (hl.l (k := 60) (by decide)) (by decide) (j := 3) rfl (by decide) (v := nI 101) (wds_at ht (j := 3) (by decide)) ?_
  refine Z.if_neN B dX12_isWordAt_16 (tgt := 23) rfl (by omega) (fun h16 => ?_) (fun h16 => by exfalso; first | omega | contradiction | simp_all)
  refine Z.iconst B dX12_isWordAt_23 (v := nI 0) rfl ?_
  refine Z.iaddv B dX12_isWordAt_24 (v := nI 0) (by decide) ?_
  refine Z.istore_n B dX12_isWordAt_25 (by decide) (L' := [(0, .ref 45), (1, .int (nI 2)), (2, .int (nI 3)), (3, .int (nI 0))]) rfl ?_
  refine Z.iinc B dX12_isWordAt_26 (by decide) (x := nI 3) rfl (v := nI 4) (nI_inc 3) (L' := [(0, .ref 45), (1, .int (nI 2)), (2, .int (nI 4)), (3, .int (nI 0))]) rfl ?_
  refine Z.goto B dX12_isWordAt_29 (tgt := 4) rfl ?_
  refine Z.iload_n B dX12_isWordAt_4 (x := nI 0) rfl ?_
  refine Z.iload_n B dX12_isWordAt_5 (x := nI 2) rfl ?_
  refine Z.icmp_geN B dX12_isWordAt_6 (tgt := 32) rfl (by omega) (by omega) (fun h6 => by exfalso; first | omega | contradiction | simp_all) (fun h6 => ?_)
  refine Z.iload_n B dX12_isWordAt_9 (x := nI 0) rfl ?_
  refine Z.aload_n B dX12_isWordAt_10 (v := .ref 45) rfl rfl ?_
  refine Z.getR (σ := (mS σ a t w r)) B fX12_60_12 dX12_isWordAt_11 (hl.n (k := 45) (by decide)) (hl.k (k := 45) (by decide)) (by decide) (j := 60) (hl.r (k := 45) (f := 19) (by decide) (by decide)) ?_
  refine Z.iload_n B dX12_isWordAt_14 (x := nI 4) rfl ?_
  refine Z.iald (σ := (mS σ a t w r)) B dX12_isWordAt_15 (n := 26) (hl.n (k := 60) (by decide)) (hl.k (k := 60) (by decide)) (hl.l (k := 60) (by decide)) (by decide) (j := 4) rfl (by decide) (v := nI 114) (wds_at ht (j := 4) (by decide)) ?_
  refine Z.if_neN B dX12_isWordAt_16 (tgt := 23) rfl (by omega) (fun h16 => ?_) (fun h16 => by exfalso; first | omega | contradiction | simp_all)
  refine Z.iconst B dX12_isWordAt_23 (v := nI 0) rfl ?_
  refine Z.iaddv B dX12_isWordAt_24 (v := nI 0) (by decide) ?_
  refine Z.istore_n B dX12_isWordAt_25 (by decide) (L' := [(0, .ref 45), (1, .int (nI 2)), (2, .int (nI 4)), (3, .int (nI 0))]) rfl ?_
  refine Z.iinc B dX12_isWordAt_26 (by decide) (x := nI 4) rfl (v := nI 5) (nI_inc 4) (L' := [(0, .ref 45), (1, .int (nI 2)), (2, .int (nI 5)), (3, .int (nI 0))]) rfl ?_
  refine Z.goto B dX12_isWordAt_29 (tgt := 4) rfl ?_
  refine Z.iload_n B dX12_isWordAt_4 (x := nI 0) rfl ?_
  refine Z.iload_n B dX12_isWordAt_5 (x := nI 2) rfl ?_
  refine Z.icmp_geN B dX12_isWordAt_6 (tgt := 32) rfl (by omega) (by omega) (fun h6 => by exfalso; first | omega | contradiction | simp_all) (fun h6 => ?_)
  refine Z.iload_n B dX12_isWordAt_9 (x := nI 0) rfl ?_
  refine Z.aload_n B dX12_isWordAt_10 (v := .ref 45) rfl rfl ?_
  refine Z.getR (σ := (mS σ a t w r)) B fX12_60_12 dX12_isWordAt_11 (hl.n (k := 45) (by decide)) (hl.k (k := 45) (by decide)) (by decide) (j := 60) (hl.r (k := 45) (f := 19) (by decide) (by decide)) ?_
  refine Z.iload_n B dX12_isWordAt_14 (x := nI 5) rfl ?_
  refine Z.iald (σ := (mS σ a t w r)) B dX12_isWordAt_15 (n := 26) (hl.n (k := 60) (by decide)) (hl.k (k := 60) (by decide)) (hl.l (k := 60) (by decide)) (by decide) (j := 5) rfl (by decide) (v := nI 32) (wds_at ht (j := 5) (by decide)) ?_
  refine Z.if_neN B dX12_isWordAt_16 (tgt := 23) rfl (by omega) (fun h16 => ?_) (fun h16 => by exfalso; first | omega | contradiction | simp_all)
  refine Z.iconst B dX12_isWordAt_23 (v := nI 0) rfl ?_
  refine Z.iaddv B dX12_isWordAt_24 (v := nI 0) (by decide) ?_
  refine Z.istore_n B dX12_isWordAt_25 (by decide) (L' := [(0, .ref 45), (1, .int (nI 2)), (2, .int (nI 5)), (3, .int (nI 0))]) rfl ?_
  refine Z.iinc B dX12_isWordAt_26 (by decide) (x := nI 5) rfl (v := nI 6) (nI_inc 5) (L' := [(0, .ref 45), (1, .int (nI 2)), (2, .int (nI 6)), (3, .int (nI 0))]) rfl ?_
  refine Z.goto B dX12_isWordAt_29 (tgt := 4) rfl ?_
  refine Z.iload_n B dX12_isWordAt_4 (x := nI 0) rfl ?_
  refine Z.iload_n B dX12_isWordAt_5 (x := nI 2) rfl ?_
  refine Z.icmp_geN B dX12_isWordAt_6 (tgt := 32) rfl (by omega) (by omega) (fun h6 => by exfalso; first | omega | contradiction | simp_all) (fun h6 => ?_)
  refine Z.iload_n B dX12_isWordAt_9 (x := nI 0) rfl ?_
  refine Z.aload_n B dX12_isWordAt_10 (v := .ref 45) rfl rfl ?_
  refine Z.getR (σ := (mS σ a t w r)) B fX12_60_12 dX12_isWordAt_11 (hl.n (k := 45) (by decide)) (hl.k (k := 45) (by decide)) (by decide) (j := 60) (hl.r (k := 45) (f := 19) (by decide) (by decide)) ?_
  refine Z.iload_n B dX12_isWordAt_14 (x := nI 6) rfl ?_
  refine Z.iald (σ := (mS σ a t w r)) B dX12_isWordAt_15 (n := 26) (hl.n (k := 60) (by decide)) (hl.k (k := 60) (by decide)) (hl.l (k := 60) (by decide)) (by decide) (j := 6) rfl (by decide) (v := nI 0) (wds_at ht (j := 6) (by decide)) ?_
  refine Z.if_neN B dX12_isWordAt_16 (tgt := 23) rfl (by omega) (fun h16 => by exfalso; first | omega | contradiction | simp_all) (fun h16 => ?_)
  refine Z.iconst B dX12_isWordAt_19 (v := nI 1) rfl ?_
  refine Z.goto B dX12_isWordAt_20 (tgt := 24) rfl ?_
  refine Z.iaddv B dX12_isWordAt_24 (v := nI 1) (by decide) ?_
  refine Z.istore_n B dX12_isWordAt_25 (by decide) (L' := [(0, .ref 45), (1, .int (nI 2)), (2, .int (nI 6)), (3, .int (nI 1))]) rfl ?_
  refine Z.iinc B dX12_isWordAt_26 (by decide) (x := nI 6) rfl (v := nI 7) (nI_inc 6) (L' := [(0, .ref 45), (1, .int (nI 2)), (2, .int (nI 7)), (3, .int (nI 1))]) rfl ?_
  refine Z.goto B dX12_isWordAt_29 (tgt := 4) rfl ?_
  refine Z.iload_n B dX12_isWordAt_4 (x := nI 1) rfl ?_
  refine Z.iload_n B dX12_isWordAt_5 (x := nI 2) rfl ?_
  refine Z.icmp_geN B dX12_isWordAt_6 (tgt := 32) rfl (by omega) (by omega) (fun h6 => by exfalso; first | omega | contradiction | simp_all) (fun h6 => ?_)
  refine Z.iload_n B dX12_isWordAt_9 (x := nI 1) rfl ?_
  refine Z.aload_n B dX12_isWordAt_10 (v := .ref 45) rfl rfl ?_
  refine Z.getR (σ := (mS σ a t w r)) B fX12_60_12 dX12_isWordAt_11 (hl.n (k := 45) (by decide)) (hl.k (k := 45) (by decide)) (by decide) (j := 60) (hl.r (k := 45) (f := 19) (by decide) (by decide)) ?_
  refine Z.iload_n B dX12_isWordAt_14 (x := nI 7) rfl ?_
  refine Z.iald (σ := (mS σ a t w r)) B dX12_isWordAt_15 (n := 26) (hl.n (k := 60) (by decide)) (hl.k (k := 60) (by decide)) (hl.l (k := 60) (by decide)) (by decide) (j := 7) rfl (by decide) (v := nI 97) (wds_at ht (j := 7) (by decide)) ?_
  refine Z.if_neN B dX12_isWordAt_16 (tgt := 23) rfl (by omega) (fun h16 => ?_) (fun h16 => by exfalso; first | omega | contradiction | simp_all)
  refine Z.iconst B dX12_isWordAt_23 (v := nI 0) rfl ?_
  refine Z.iaddv B dX12_isWordAt_24 (v := nI 1) (by decide) ?_
  refine Z.istore_n B dX12_isWordAt_25 (by decide) (L' := [(0, .ref 45), (1, .int (nI 2)), (2, .int (nI 7)), (3, .int (nI 1))]) rfl ?_
  refine Z.iinc B dX12_isWordAt_26 (by decide) (x := nI 7) rfl (v := nI 8) (nI_inc 7) (L' := [(0, .ref 45), (1, .int (nI 2)), (2, .int (nI 8)), (3, .int (nI 1))]) rfl ?_
  refine Z.goto B dX12_isWordAt_29 (tgt := 4) rfl ?_
  refine Z.iload_n B dX12_isWordAt_4 (x := nI 1) rfl ?_
  refine Z.iload_n B dX12_isWordAt_5 (x := nI 2) rfl ?_
  refine Z.icmp_geN B dX12_isWordAt_6 (tgt := 32) rfl (by omega) (by omega) (fun h6 => by exfalso; first | omega | contradiction | simp_all) (fun h6 => ?_)
  refine Z.iload_n B dX12_isWordAt_9 (x := nI 1) rfl ?_
  refine Z.aload_n B dX12_isWordAt_10 (v := .ref 45) rfl rfl ?_
  refine Z.getR (σ := (mS σ a t w r)) B fX12_60_12 dX12_isWordAt_11 (hl.n (k := 45) (by decide)) (hl.k (k := 45) (by decide)) (by decide) (j := 60) (hl.r (k := 45) (f := 19) (by decide) (by decide)) ?_
  refine Z.iload_n B dX12_isWordAt_14 (x := nI 8) rfl ?_
  refine Z.iald (σ := (mS σ a t w r)) B dX12_isWordAt_15 (n := 26) (hl.n (k := 60) (by decide)) (hl.k (k := 60) (by decide)) (hl.l (k := 60) (by decide)) (by decide) (j := 8) rfl (by decide) (v := nI 115) (wds_at ht (j := 8) (by decide)) ?_
  refine Z.if_neN B dX12_isWordAt_16 (tgt := 23) rfl (by omega) (fun h16 => ?_) (fun h16 => by exfalso; first | omega | contradiction | simp_all)
  refine Z.iconst B dX12_isWordAt_23 (v := nI 0) rfl ?_
  refine Z.iaddv B dX12_isWordAt_24 (v := nI 1) (by decide) ?_
  refine Z.istore_n B dX12_isWordAt_25 (by decide) (L' := [(0, .ref 45), (1, .int (nI 2)), (2, .int (nI 8)), (3, .int (nI 1))]) rfl ?_
  refine Z.iinc B dX12_isWordAt_26 (by decide) (x := nI 8) rfl (v := nI 9) (nI_inc 8) (L' := [(0, .ref 45), (1, .int (nI 2)), (2, .int (nI 9)), (3, .int (nI 1))]) rfl ?_
  refine Z.goto B dX12_isWordAt_29 (tgt := 4) rfl ?_
  refine Z.iload_n B dX12_isWordAt_4 (x := nI 1) rfl ?_
  refine Z.iload_n B dX12_isWordAt_5 (x := nI 2) rfl ?_
  refine Z.icmp_geN B dX12_isWordAt_6 (tgt := 32) rfl (by omega) (by omega) (fun h6 => by exfalso; first | omega | contradiction | simp_all) (fun h6 => ?_)
  refine Z.iload_n B dX12_isWordAt_9 (x := nI 1) rfl ?_
  refine Z.aload_n B dX12_isWordAt_10 (v := .ref 45) rfl rfl ?_
  refine Z.getR (σ := (mS σ a t w r)) B fX12_60_12 dX12_isWordAt_11 (hl.n (k := 45) (by decide)) (hl.k (k := 45) (by decide)) (by decide) (j := 60) (hl.r (k := 45) (f := 19) (by decide) (by decide)) ?_
  refine Z.iload_n B dX12_isWordAt_14 (x := nI 9) rfl ?_
  refine Z.iald (σ := (mS σ a t w r)) B dX12_isWordAt_15 (n := 26) (hl.n (k := 60) (by decide)) (hl.k (k := 60) (by decide)) (hl.l (k := 60) (by decide)) (by decide) (j := 9) rfl (by decide) (v := nI 107) (wds_at ht (j := 9) (by decide)) ?_
  refine Z.if_neN B dX12_isWordAt_16 (tgt := 23) rfl (by omega) (fun h16 => ?_) (fun h16 => by exfalso; first | omega | contradiction | simp_all)
  refine Z.iconst B dX12_isWordAt_23 (v := nI 0) rfl ?_
  refine Z.iaddv B dX12_isWordAt_24 (v := nI 1) (by decide) ?_
  refine Z.istore_n B dX12_isWordAt_25 (by decide) (L' := [(0, .ref 45), (1, .int (nI 2)), (2, .int (nI 9)), (3, .int (nI 1))]) rfl ?_
  refine Z.iinc B dX12_isWordAt_26 (by decide) (x := nI 9) rfl (v := nI 10) (nI_inc 9) (L' := [(0, .ref 45), (1, .int (nI 2)), (2, .int (nI 10)), (3, .int (nI 1))]) rfl ?_
  refine Z.goto B dX12_isWordAt_29 (tgt := 4) rfl ?_
  refine Z.iload_n B dX12_isWordAt_4 (x := nI 1) rfl ?_
  refine Z.iload_n B dX12_isWordAt_5 (x := nI 2) rfl ?_
  refine Z.icmp_geN B dX12_isWordAt_6 (tgt := 32) rfl (by omega) (by omega) (fun h6 => by exfalso; first | omega | contradiction | simp_all) (fun h6 => ?_)
  refine Z.iload_n B dX12_isWordAt_9 (x := nI 1) rfl ?_
  refine Z.aload_n B dX12_isWordAt_10 (v := .ref 45) rfl rfl ?_
  refine Z.getR (σ := (mS σ a t w r)) B fX12_60_12 dX12_isWordAt_11 (hl.n (k := 45) (by decide)) (hl.k (k := 45) (by decide)) (by decide) (j := 60) (hl.r (k := 45) (f := 19) (by decide) (by decide)) ?_
  refine Z.iload_n B dX12_isWordAt_14 (x := nI 10) rfl ?_
  refine Z.iald (σ := (mS σ a t w r)) B dX12_isWordAt_15 (n := 26) (hl.n (k := 60) (by decide)) (hl.k (k := 60) (by decide)) (hl.l (k := 60) (by decide)) (by decide) (j := 10) rfl (by decide) (v := nI 101) (wds_at ht (j := 10) (by decide)) ?_
  refine Z.if_neN B dX12_isWordAt_16 (tgt := 23) rfl (by omega) (fun h16 => ?_) (fun h16 => by exfalso; first | omega | contradiction | simp_all)
  refine Z.iconst B dX12_isWordAt_23 (v := nI 0) rfl ?_
  refine Z.iaddv B dX12_isWordAt_24 (v := nI 1) (by decide) ?_
  refine Z.istore_n B dX12_isWordAt_25 (by decide) (L' := [(0, .ref 45), (1, .int (nI 2)), (2, .int (nI 10)), (3, .int (nI 1))]) rfl ?_
  refine Z.iinc B dX12_isWordAt_26 (by decide) (x := nI 10) rfl (v := nI 11) (nI_inc 10) (L' := [(0, .ref 45), (1, .int (nI 2)), (2, .int (nI 11)), (3, .int (nI 1))]) rfl ?_
  refine Z.goto B dX12_isWordAt_29 (tgt := 4) rfl ?_
  refine Z.iload_n B dX12_isWordAt_4 (x := nI 1) rfl ?_
  refine Z.iload_n B dX12_isWordAt_5 (x := nI 2) rfl ?_
  refine Z.icmp_geN B dX12_isWordAt_6 (tgt := 32) rfl (by omega) (by omega) (fun h6 => by exfalso; first | omega | contradiction | simp_all) (fun h6 => ?_)
  refine Z.iload_n B dX12_isWordAt_9 (x := nI 1) rfl ?_
  refine Z.aload_n B dX12_isWordAt_10 (v := .ref 45) rfl rfl ?_
  refine Z.getR (σ := (mS σ a t w r)) B fX12_60_12 dX12_isWordAt_11 (hl.n (k := 45) (by decide)) (hl.k (k := 45) (by decide)) (by decide) (j := 60) (hl.r (k := 45) (f := 19) (by decide) (by decide)) ?_
  refine Z.iload_n B dX12_isWordAt_14 (x := nI 11) rfl ?_
  refine Z.iald (σ := (mS σ a t w r)) B dX12_isWordAt_15 (n := 26) (hl.n (k := 60) (by decide)) (hl.k (k := 60) (by decide)) (hl.l (k := 60) (by decide)) (by decide) (j := 11) rfl (by decide) (v := nI 114) (wds_at ht (j := 11) (by decide)) ?_
  refine Z.if_neN B dX12_isWordAt_16 (tgt := 23) rfl (by omega) (fun h16 => ?_) (fun h16 => by exfalso; first | omega | contradiction | simp_all)
  refine Z.iconst B dX12_isWordAt_23 (v := nI 0) rfl ?_
  refine Z.iaddv B dX12_isWordAt_24 (v := nI 1) (by decide) ?_
  refine Z.istore_n B dX12_isWordAt_25 (by decide) (L' := [(0, .ref 45), (1, .int (nI 2)), (2, .int (nI 11)), (3, .int (nI 1))]) rfl ?_
  refine Z.iinc B dX12_isWordAt_26 (by decide) (x := nI 11) rfl (v := nI 12) (nI_inc 11) (L' := [(0, .ref 45), (1, .int (nI 2)), (2, .int (nI 12)), (3, .int (nI 1))]) rfl ?_
  refine Z.goto B dX12_isWordAt_29 (tgt := 4) rfl ?_
  refine Z.iload_n B dX12_isWordAt_4 (x := nI 1) rfl ?_
  refine Z.iload_n B dX12_isWordAt_5 (x := nI 2) rfl ?_
  refine Z.icmp_geN B dX12_isWordAt_6 (tgt := 32) rfl (by omega) (by omega) (fun h6 => by exfalso; first | omega | contradiction | simp_all) (fun h6 => ?_)
  refine Z.iload_n B dX12_isWordAt_9 (x := nI 1) rfl ?_
  refine Z.aload_n B dX12_isWordAt_10 (v := .ref 45) rfl rfl ?_
  refine Z.getR (σ := (mS σ a t w r)) B fX12_60_12 dX12_isWordAt_11 (hl.n (k := 45) (by decide)) (hl.k (k := 45) (by decide)) (by decide) (j := 60) (hl.r (k := 45) (f := 19) (by decide) (by decide)) ?_
  refine Z.iload_n B dX12_isWordAt_14 (x := nI 12) rfl ?_
  refine Z.iald (σ := (mS σ a t w r)) B dX12_isWordAt_15 (n := 26) (hl.n (k := 60) (by decide)) (hl.k (k := 60) (by decide)) (hl.l (k := 60) (by decide)) (by decide) (j := 12) rfl (by decide) (v := nI 32) (wds_at ht (j := 12) (by decide)) ?_
  refine Z.if_neN B dX12_isWordAt_16 (tgt := 23) rfl (by omega) (fun h16 => ?_) (fun h16 => by exfalso; first | omega | contradiction | simp_all)
  refine Z.iconst B dX12_isWordAt_23 (v := nI 0) rfl ?_
  refine Z.iaddv B dX12_isWordAt_24 (v := nI 1) (by decide) ?_
  refine Z.istore_n B dX12_isWordAt_25 (by decide) (L' := [(0, .ref 45), (1, .int (nI 2)), (2, .int (nI 12)), (3, .int (nI 1))]) rfl ?_
  refine Z.iinc B dX12_isWordAt_26 (by decide) (x := nI 12) rfl (v := nI 13) (nI_inc 12) (L' := [(0, .ref 45), (1, .int (nI 2)), (2, .int (nI 13)), (3, .int (nI 1))]) rfl ?_
  refine Z.goto B dX12_isWordAt_29 (tgt := 4) rfl ?_
  refine Z.iload_n B dX12_isWordAt_4 (x := nI 1) rfl ?_
  refine Z.iload_n B dX12_isWordAt_5 (x := nI 2) rfl ?_
  refine Z.icmp_geN B dX12_isWordAt_6 (tgt := 32) rfl (by omega) (by omega) (fun h6 => by exfalso; first | omega | contradiction | simp_all) (fun h6 => ?_)
  refine Z.iload_n B dX12_isWordAt_9 (x := nI 1) rfl ?_
  refine Z.aload_n B dX12_isWordAt_10 (v := .ref 45) rfl rfl ?_
  refine Z.getR (σ := (mS σ a t w r)) B fX12_60_12 dX12_isWordAt_11 (hl.n (k := 45) (by decide)) (hl.k (k := 45) (by decide)) (by decide) (j := 60) (hl.r (k := 45) (f := 19) (by decide) (by decide)) ?_
  refine Z.iload_n B dX12_isWordAt_14 (x := nI 13) rfl ?_
  refine Z.iald (σ := (mS σ a t w r)) B dX12_isWordAt_15 (n := 26) (hl.n (k := 60) (by decide)) (hl.k (k := 60) (by decide)) (hl.l (k := 60) (by decide)) (by decide) (j := 13) rfl (by decide) (v := nI 0) (wds_at ht (j := 13) (by decide)) ?_
  refine Z.if_neN B dX12_isWordAt_16 (tgt := 23) rfl (by omega) (fun h16 => by exfalso; first | omega | contradiction | simp_all) (fun h16 => ?_)
  refine Z.iconst B dX12_isWordAt_19 (v := nI 1) rfl ?_
  refine Z.goto B dX12_isWordAt_20 (tgt := 24) rfl ?_
  refine Z.iaddv B dX12_isWordAt_24 (v := nI 2) (by decide) ?_
  refine Z.istore_n B dX12_isWordAt_25 (by decide) (L' := [(0, .ref 45), (1, .int (nI 2)), (2, .int (nI 13)), (3, .int (nI 2))]) rfl ?_
  refine Z.iinc B dX12_isWordAt_26 (by decide) (x := nI 13) rfl (v := nI 14) (nI_inc 13) (L' := [(0, .ref 45), (1, .int (nI 2)), (2, .int (nI 14)), (3, .int (nI 2))]) rfl ?_
  refine Z.goto B dX12_isWordAt_29 (tgt := 4) rfl ?_
  refine Z.iload_n B dX12_isWordAt_4 (x := nI 2) rfl ?_
  refine Z.iload_n B dX12_isWordAt_5 (x := nI 2) rfl ?_
  refine Z.icmp_geN B dX12_isWordAt_6 (tgt := 32) rfl (by omega) (by omega) (fun h6 => ?_) (fun h6 => by exfalso; first | omega | contradiction | simp_all)
  refine Z.aload_n B dX12_isWordAt_32 (v := .ref 45) rfl rfl ?_
  refine Z.getI (σ := (mS σ a t w r)) B fX12_141_12 dX12_isWordAt_33 (hl.n (k := 45) (by decide)) (hl.k (k := 45) (by decide)) (by decide) (v := nI a) mS_a ?_
  refine Z.istore_n B dX12_isWordAt_36 (by decide) (L' := [(0, .ref 45), (1, .int (nI 2)), (2, .int (nI 14)), (3, .int (nI a))]) rfl ?_
  have hloop37 : ∀ k : Nat, k ≤ al T a 2 → Z κ 0 0 (mS σ a t w r) 37 [(0, .ref 45), (1, .int (nI 2)), (2, .int (nI (14 + k))), (3, .int (nI (a + k)))] [] := by
    refine z_loop (fun k => 3 - k) (fun k ih hk => ?_)
    have hA1 : al T a 2 ≤ 3 := (al_s (T := T) (a := a) (w := 2)).1
    have hz : wds (14 + k) ≤ 32 ↔ k = 3 := wds_S 2 (by decide) k (by show k ≤ 3; omega)
    have hzl : wds (14 + k) < 2 ^ 31 := wds_lt _ (by omega)
    refine Z.aload_n B dX12_isWordAt_37 (v := .ref 45) rfl rfl ?_
    refine Z.getR (σ := (mS σ a t w r)) B fX12_60_12 dX12_isWordAt_38 (hl.n (k := 45) (by decide)) (hl.k (k := 45) (by decide)) (by decide) (j := 60) (hl.r (k := 45) (f := 19) (by decide) (by decide)) ?_
    refine Z.iload_n B dX12_isWordAt_41 (x := nI (14 + k)) rfl ?_
    refine Z.iald (σ := (mS σ a t w r)) B dX12_isWordAt_42 (n := 26) (hl.n (k := 60) (by decide)) (hl.k (k := 60) (by decide)) (hl.l (k := 60) (by decide)) (by decide) (j := 14 + k) rfl (by omega) (v := nI (wds (14 + k))) (wds_at ht (by omega)) ?_
    refine Z.bipush B dX12_isWordAt_43 (v := nI 32) rfl ?_
    refine Z.icmp_leN B dX12_isWordAt_45 (tgt := 86) rfl (by omega) (by omega) (fun h45 => (by have := hz.mp h45; omega)) (fun h45 => ?_)
    refine Z.iload_n B dX12_isWordAt_48 (x := nI (a + k)) rfl ?_
    refine Z.aload_n B dX12_isWordAt_49 (v := .ref 45) rfl rfl ?_
    refine Z.getI (σ := (mS σ a t w r)) B fX12_144_12 dX12_isWordAt_50 (hl.n (k := 45) (by decide)) (hl.k (k := 45) (by decide)) (by decide) (v := nI m) ((mS_f (by decide) (by decide) (by decide)).trans hen) ?_
    refine Z.icmp_geN B dX12_isWordAt_53 (tgt := 86) rfl (by omega) (by omega) (fun h53 => ?_) (fun h53 => ?_)
    · skip
      refine Z.aload_n B dX12_isWordAt_86 (v := .ref 45) rfl rfl ?_
      refine Z.getR (σ := (mS σ a t w r)) B fX12_60_12 dX12_isWordAt_87 (hl.n (k := 45) (by decide)) (hl.k (k := 45) (by decide)) (by decide) (j := 60) (hl.r (k := 45) (f := 19) (by decide) (by decide)) ?_
      refine Z.iload_n B dX12_isWordAt_90 (x := nI (14 + k)) rfl ?_
      refine Z.iald (σ := (mS σ a t w r)) B dX12_isWordAt_91 (n := 26) (hl.n (k := 60) (by decide)) (hl.k (k := 60) (by decide)) (hl.l (k := 60) (by decide)) (by decide) (j := 14 + k) rfl (by omega) (v := nI (wds (14 + k))) (wds_at ht (by omega)) ?_
      refine Z.bipush B dX12_isWordAt_92 (v := nI 32) rfl ?_
      refine Z.icmp_gtN B dX12_isWordAt_94 (tgt := 101) rfl (by omega) (by omega) (fun h94 => ?_) (fun h94 => (by omega))
      refine Z.iconst B dX12_isWordAt_101 (v := nI 0) rfl ?_
      refine Z.iret B Rt dX12_isWordAt_102 (ty := .boolean) rfl rfl (by decide) (by decide) ?_
      exact ⟨rfl, rfl⟩
    · skip
      refine Z.aload_n B dX12_isWordAt_56 (v := .ref 45) rfl rfl ?_
      refine Z.getR (σ := (mS σ a t w r)) B fX12_53_12 dX12_isWordAt_57 (hl.n (k := 45) (by decide)) (hl.k (k := 45) (by decide)) (by decide) (j := 58) (hl.r (k := 45) (f := 17) (by decide) (by decide)) ?_
      refine Z.aload_n B dX12_isWordAt_60 (v := .ref 45) rfl rfl ?_
      refine Z.getI (σ := (mS σ a t w r)) B fX12_147_12 dX12_isWordAt_61 (hl.n (k := 45) (by decide)) (hl.k (k := 45) (by decide)) (by decide) (v := nI (s * 160)) ((mS_f (by decide) (by decide) (by decide)).trans hbs) ?_
      refine Z.iload_n B dX12_isWordAt_64 (x := nI (a + k)) rfl ?_
      refine Z.iaddN B dX12_isWordAt_65 (a := s * 160) (b := a + k) ?_
      refine Z.lald (σ := (mS σ a t w r)) B dX12_isWordAt_66 (n := 1280) (hl.n (k := 58) (by decide)) (hl.k (k := 58) (by decide)) (hl.l (k := 58) (by decide)) (by decide) (j := (s * 160) + (a + k)) rfl (by omega) (v := (zY (mS σ a t w r) 58 ((s * 160) + (a + k)))) rfl ?_
      refine Z.l2i B dX12_isWordAt_67 ?_
      refine Z.eqS (st' := [.int (T (a + k))]) (congrArg (fun z => Value.int z :: _) (ht.t (i := a + k) (by omega))) ?_
      refine Z.aload_n B dX12_isWordAt_68 (v := .ref 45) rfl rfl ?_
      refine Z.getR (σ := (mS σ a t w r)) B fX12_60_12 dX12_isWordAt_69 (hl.n (k := 45) (by decide)) (hl.k (k := 45) (by decide)) (by decide) (j := 60) (hl.r (k := 45) (f := 19) (by decide) (by decide)) ?_
      refine Z.iload_n B dX12_isWordAt_72 (x := nI (14 + k)) rfl ?_
      refine Z.iald (σ := (mS σ a t w r)) B dX12_isWordAt_73 (n := 26) (hl.n (k := 60) (by decide)) (hl.k (k := 60) (by decide)) (hl.l (k := 60) (by decide)) (by decide) (j := 14 + k) rfl (by omega) (v := nI (wds (14 + k))) (wds_at ht (by omega)) ?_
      refine Z.icmp_ne B dX12_isWordAt_74 (tgt := 86) rfl (fun h74 => ?_) (fun h74 => ?_)
      · skip
        refine Z.aload_n B dX12_isWordAt_86 (v := .ref 45) rfl rfl ?_
        refine Z.getR (σ := (mS σ a t w r)) B fX12_60_12 dX12_isWordAt_87 (hl.n (k := 45) (by decide)) (hl.k (k := 45) (by decide)) (by decide) (j := 60) (hl.r (k := 45) (f := 19) (by decide) (by decide)) ?_
        refine Z.iload_n B dX12_isWordAt_90 (x := nI (14 + k)) rfl ?_
        refine Z.iald (σ := (mS σ a t w r)) B dX12_isWordAt_91 (n := 26) (hl.n (k := 60) (by decide)) (hl.k (k := 60) (by decide)) (hl.l (k := 60) (by decide)) (by decide) (j := 14 + k) rfl (by omega) (v := nI (wds (14 + k))) (wds_at ht (by omega)) ?_
        refine Z.bipush B dX12_isWordAt_92 (v := nI 32) rfl ?_
        refine Z.icmp_gtN B dX12_isWordAt_94 (tgt := 101) rfl (by omega) (by omega) (fun h94 => ?_) (fun h94 => (by omega))
        refine Z.iconst B dX12_isWordAt_101 (v := nI 0) rfl ?_
        refine Z.iret B Rt dX12_isWordAt_102 (ty := .boolean) rfl rfl (by decide) (by decide) ?_
        exact ⟨rfl, rfl⟩
      · skip
        refine Z.iincN B dX12_isWordAt_77 (by decide) (a := a + k) rfl (L' := [(0, .ref 45), (1, .int (nI 2)), (2, .int (nI (14 + k))), (3, .int (nI (a + k + 1)))]) rfl ?_
        refine Z.iincN B dX12_isWordAt_80 (by decide) (a := 14 + k) rfl (L' := [(0, .ref 45), (1, .int (nI 2)), (2, .int (nI (14 + k + 1))), (3, .int (nI (a + k + 1)))]) rfl ?_
        refine Z.goto B dX12_isWordAt_83 (tgt := 37) rfl ?_
        have hk2 : k < al T a 2 := (by rcases Nat.lt_or_ge k (al T a 2) with h1 | h1; exact h1; exfalso; have e : k = al T a 2 := (by omega); have hA := (al_s (T := T) (a := a) (w := 2)).2.2 (by rw [← e]; show k < 3; omega); rw [← e] at hA; exact hA (by rw [← wds_L 2 (by decide) k (by show k < 3; omega)]; exact h74))
        exact ih (k + 1) (by omega) (by omega)
  exact hloop37 0 (Nat.zero_le _)

theorem t_X12_isW_3_1 {σ : zSt} {t w : Int32} {r : Nat → Int32} (hl : Lay σ) {s m : Nat} {T : Nat → Int32} (ht : zTm σ s m T) {a : Nat} (ha : a < 2 ^ 30) (h : al T a 3 = 5) : Dt mX12_isWordAt [.ref 45, .int (nI 3)] (mS σ a t w r) (some (.int (nI 1))) (mS σ a t w r) := by
  obtain ⟨⟨hs8, hm160⟩, ⟨hbs, hen⟩, hT, hwd⟩ := id ht
  refine Dt.of (by decide) (Nat.le_of_ble_eq_true rfl) fun κ B Rt => ?_
  show Z κ 0 0 (mS σ a t w r) 0 [(0, .ref 45), (1, .int (nI 3))] []
  refine Z.iconst B dX12_isWordAt_0 (v := nI 0) rfl ?_
  refine Z.istore_n B dX12_isWordAt_1 (by decide) (L' := [(0, .ref 45), (1, .int (nI 3)), (2, .int (nI 0))]) rfl ?_
  refine Z.iconst B dX12_isWordAt_2 (v := nI 0) rfl ?_
  refine Z.istore_n B dX12_isWordAt_3 (by decide) (L' := [(0, .ref 45), (1, .int (nI 3)), (2, .int (nI 0)), (3, .int (nI 0))]) rfl ?_
  refine Z.iload_n B dX12_isWordAt_4 (x := nI 0) rfl ?_
  refine Z.iload_n B dX12_isWordAt_5 (x := nI 3) rfl ?_
  refine Z.icmp_geN B dX12_isWordAt_6 (tgt := 32) rfl (by omega) (by omega) (fun h6 => by exfalso; first | omega | contradiction | simp_all) (fun h6 => ?_)
  refine Z.iload_n B dX12_isWordAt_9 (x := nI 0) rfl ?_
  refine Z.aload_n B dX12_isWordAt_10 (v := .ref 45) rfl rfl ?_
  refine Z.getR (σ := (mS σ a t w r)) B fX12_60_12 dX12_isWordAt_11 (hl.n (k := 45) (by decide)) (hl.k (k := 45) (by decide)) (by decide) (j := 60) (hl.r (k := 45) (f := 19) (by decide) (by decide)) ?_
  refine Z.iload_n B dX12_isWordAt_14 (x := nI 0) rfl ?_
  refine Z.iald (σ := (mS σ a t w r)) B dX12_isWordAt_15 (n := 26) (hl.n (k := 60) (by decide)) (hl.k (k := 60) (by decide)) (hl.l (k := 60) (by decide)) (by decide) (j := 0) rfl (by decide) (v := nI 99) (wds_at ht (j := 0) (by decide)) ?_
  refine Z.if_neN B dX12_isWordAt_16 (tgt := 23) rfl (by omega) (fun h16 => ?_) (fun h16 => by exfalso; first | omega | contradiction | simp_all)
  refine Z.iconst B dX12_isWordAt_23 (v := nI 0) rfl ?_
  refine Z.iaddv B dX12_isWordAt_24 (v := nI 0) (by decide) ?_
  refine Z.istore_n B dX12_isWordAt_25 (by decide) (L' := [(0, .ref 45), (1, .int (nI 3)), (2, .int (nI 0)), (3, .int (nI 0))]) rfl ?_
  refine Z.iinc B dX12_isWordAt_26 (by decide) (x := nI 0) rfl (v := nI 1) (nI_inc 0) (L' := [(0, .ref 45), (1, .int (nI 3)), (2, .int (nI 1)), (3, .int (nI 0))]) rfl ?_
  refine Z.goto B dX12_isWordAt_29 (tgt := 4) rfl ?_
  refine Z.iload_n B dX12_isWordAt_4 (x := nI 0) rfl ?_
  refine Z.iload_n B dX12_isWordAt_5 (x := nI 3) rfl ?_
  refine Z.icmp_geN B dX12_isWordAt_6 (tgt := 32) rfl (by omega) (by omega) (fun h6 => by exfalso; first | omega | contradiction | simp_all) (fun h6 => ?_)
  refine Z.iload_n B dX12_isWordAt_9 (x := nI 0) rfl ?_
  refine Z.aload_n B dX12_isWordAt_10 (v := .ref 45) rfl rfl ?_
  refine Z.getR (σ := (mS σ a t w r)) B fX12_60_12 dX12_isWordAt_11 (hl.n (k := 45) (by decide)) (hl.k (k := 45) (by decide)) (by decide) (j := 60) (hl.r (k := 45) (f := 19) (by decide) (by decide)) ?_
  refine Z.iload_n B dX12_isWordAt_14 (x := nI 1) rfl ?_
  refine Z.iald (σ := (mS σ a t w r)) B dX12_isWordAt_15 (n := 26) (hl.n (k := 60) (by decide)) (hl.k (k := 60) (by decide)) (hl.l (k := 60) (by decide)) (by decide) (j := 1) rfl (by decide) (v := nI 111) (wds_at ht (j := 1) (by decide)) ?_
  refine Z.if_neN B dX12_isWordAt_16 (tgt := 23) rfl (by omega) (fun h16 => ?_) (fun h16 => by exfalso; first | omega | contradiction | simp_all)
  refine Z.iconst B dX12_isWordAt_23 (v := nI 0) rfl ?_
  refine Z.iaddv B dX12_isWordAt_24 (v := nI 0) (by decide) ?_
  refine Z.istore_n B dX12_isWordAt_25 (by decide) (L' := [(0, .ref 45), (1, .int (nI 3)), (2, .int (nI 1)), (3, .int (nI 0))]) rfl ?_
  refine Z.iinc B dX12_isWordAt_26 (by decide) (x := nI 1) rfl (v := nI 2) (nI_inc 1) (L' := [(0, .ref 45), (1, .int (nI 3)), (2, .int (nI 2)), (3, .int (nI 0))]) rfl ?_
  refine Z.goto B dX12_isWordAt_29 (tgt := 4) rfl ?_
  refine Z.iload_n B dX12_isWordAt_4 (x := nI 0) rfl ?_
  refine Z.iload_n B dX12_isWordAt_5 (x := nI 3) rfl ?_
  refine Z.icmp_geN B dX12_isWordAt_6 (tgt := 32) rfl (by omega) (by omega) (fun h6 => by exfalso; first | omega | contradiction | simp_all) (fun h6 => ?_)
  refine Z.iload_n B dX12_isWordAt_9 (x := nI 0) rfl ?_
  refine Z.aload_n B dX12_isWordAt_10 (v := .ref 45) rfl rfl ?_
  refine Z.getR (σ := (mS σ a t w r)) B fX12_60_12 dX12_isWordAt_11 (hl.n (k := 45) (by decide)) (hl.k (k := 45) (by decide)) (by decide) (j := 60) (hl.r (k := 45) (f := 19) (by decide) (by decide)) ?_
  refine Z.iload_n B dX12_isWordAt_14 (x := nI 2) rfl ?_
  refine Z.iald (σ := (mS σ a t w r)) B dX12_isWordAt_15 (n := 26) (hl.n (k := 60) (by decide)) (hl.k (k := 60) (by decide)) (hl.l (k := 60) (by decide)) (by decide) (j := 2) rfl (by decide) (v := nI 109) (wds_at ht (j := 2) (by decide)) ?_
  refine Z.if_neN B dX12_isWordAt_16 (tgt := 23) rfl (by omega) (fun h16 => ?_) (fun h16 => by exfalso; first | omega | contradiction | simp_all)
  refine Z.iconst B dX12_isWordAt_23 (v := nI 0) rfl ?_
  refine Z.iaddv B dX12_isWordAt_24 (v := nI 0) (by decide) ?_
  refine Z.istore_n B dX12_isWordAt_25 (by decide) (L' := [(0, .ref 45), (1, .int (nI 3)), (2, .int (nI 2)), (3, .int (nI 0))]) rfl ?_
  refine Z.iinc B dX12_isWordAt_26 (by decide) (x := nI 2) rfl (v := nI 3) (nI_inc 2) (L' := [(0, .ref 45), (1, .int (nI 3)), (2, .int (nI 3)), (3, .int (nI 0))]) rfl ?_
  refine Z.goto B dX12_isWordAt_29 (tgt := 4) rfl ?_
  refine Z.iload_n B dX12_isWordAt_4 (x := nI 0) rfl ?_
  refine Z.iload_n B dX12_isWordAt_5 (x := nI 3) rfl ?_
  refine Z.icmp_geN B dX12_isWordAt_6 (tgt := 32) rfl (by omega) (by omega) (fun h6 => by exfalso; first | omega | contradiction | simp_all) (fun h6 => ?_)
  refine Z.iload_n B dX12_isWordAt_9 (x := nI 0) rfl ?_
  refine Z.aload_n B dX12_isWordAt_10 (v := .ref 45) rfl rfl ?_
  refine Z.getR (σ := (mS σ a t w r)) B fX12_60_12 dX12_isWordAt_11 (hl.n (k := 45) (by decide)) (hl.k (k := 45) (by decide)) (by decide) (j := 60) (hl.r (k := 45) (f := 19) (by decide) (by decide)) ?_
  refine Z.iload_n B dX12_isWordAt_14 (x := nI 3) rfl ?_
  refine Z.iald (σ := (mS σ a t w r)) B dX12_isWordAt_15 (n := 26) (hl.n (k := 60) (by decide)) (hl.k (k := 60) (by decide)) (hl.l (k := 60) (by decide)) (by decide) (j := 3) rfl (by decide) (v := nI 101) (wds_at ht (j := 3) (by decide)) ?_
  refine Z.if_neN B dX12_isWordAt_16 (tgt := 23) rfl (by omega) (fun h16 => ?_) (fun h16 => by exfalso; first | omega | contradiction | simp_all)
  refine Z.iconst B dX12_isWordAt_23 (v := nI 0) rfl ?_
  refine Z.iaddv B dX12_isWordAt_24 (v := nI 0) (by decide) ?_
  refine Z.istore_n B dX12_isWordAt_25 (by decide) (L' := [(0, .ref 45), (1, .int (nI 3)), (2, .int (nI 3)), (3, .int (nI 0))]) rfl ?_
  refine Z.iinc B dX12_isWordAt_26 (by decide) (x := nI 3) rfl (v := nI 4) (nI_inc 3) (L' := [(0, .ref 45), (1, .int (nI 3)), (2, .int (nI 4)), (3, .int (nI 0))]) rfl ?_
  refine Z.goto B dX12_isWordAt_29 (tgt := 4) rfl ?_
  refine Z.iload_n B dX12_isWordAt_4 (x := nI 0) rfl ?_
  refine Z.iload_n B dX12_isWordAt_5 (x := nI 3) rfl ?_
  refine Z.icmp_geN B dX12_isWordAt_6 (tgt := 32) rfl (by omega) (by omega) (fun h6 => by exfalso; first | omega | contradiction | simp_all) (fun h6 => ?_)
  refine Z.iload_n B dX12_isWordAt_9 (x := nI 0) rfl ?_
  refine Z.aload_n B dX12_isWordAt_10 (v := .ref 45) rfl rfl ?_
  refine Z.getR (σ := (mS σ a t w r)) B fX12_60_12 dX12_isWordAt_11 (hl.n (k := 45) (by decide)) (hl.k (k := 45) (by decide)) (by decide) (j := 60) (hl.r (k := 45) (f := 19) (by decide) (by decide)) ?_
  refine Z.iload_n B dX12_isWordAt_14 (x := nI 4) rfl ?_
  refine Z.iald (σ := (mS σ a t w r)) B dX12_isWordAt_15 (n := 26) (hl.n (k := 60) (by decide)) (hl.k (k := 60) (by decide)) (hl.l (k := 60) (by decide)) (by decide) (j := 4) rfl (by decide) (v := nI 114) (wds_at ht (j := 4) (by decide)) ?_
  refine Z.if_neN B dX12_isWordAt_16 (tgt := 23) rfl (by omega) (fun h16 => ?_) (fun h16 => by exfalso; first | omega | contradiction | simp_all)
  refine Z.iconst B dX12_isWordAt_23 (v := nI 0) rfl ?_
  refine Z.iaddv B dX12_isWordAt_24 (v := nI 0) (by decide) ?_
  refine Z.istore_n B dX12_isWordAt_25 (by decide) (L' := [(0, .ref 45), (1, .int (nI 3)), (2, .int (nI 4)), (3, .int (nI 0))]) rfl ?_
  refine Z.iinc B dX12_isWordAt_26 (by decide) (x := nI 4) rfl (v := nI 5) (nI_inc 4) (L' := [(0, .ref 45), (1, .int (nI 3)), (2, .int (nI 5)), (3, .int (nI 0))]) rfl ?_
  refine Z.goto B dX12_isWordAt_29 (tgt := 4) rfl ?_
  refine Z.iload_n B dX12_isWordAt_4 (x := nI 0) rfl ?_
  refine Z.iload_n B dX12_isWordAt_5 (x := nI 3) rfl ?_
  refine Z.icmp_geN B dX12_isWordAt_6 (tgt := 32) rfl (by omega) (by omega) (fun h6 => by exfalso; first | omega | contradiction | simp_all) (fun h6 => ?_)
  refine Z.iload_n B dX12_isWordAt_9 (x := nI 0) rfl ?_
  refine Z.aload_n B dX12_isWordAt_10 (v := .ref 45) rfl rfl ?_
  refine Z.getR (σ := (mS σ a t w r)) B fX12_60_12 dX12_isWordAt_11 (hl.n (k := 45) (by decide)) (hl.k (k := 45) (by decide)) (by decide) (j := 60) (hl.r (k := 45) (f := 19) (by decide) (by decide)) ?_
  refine Z.iload_n B dX12_isWordAt_14 (x := nI 5) rfl ?_
  refine Z.iald (σ := (mS σ a t w r)) B dX12_isWordAt_15 (n := 26) (hl.n (k := 60) (by decide)) (hl.k (k := 60) (by decide)) (hl.l (k := 60) (by decide)) (by decide) (j := 5) rfl (by decide) (v := nI 32) (wds_at ht (j := 5) (by decide)) ?_
  refine Z.if_neN B dX12_isWordAt_16 (tgt := 23) rfl (by omega) (fun h16 => ?_) (fun h16 => by exfalso; first | omega | contradiction | simp_all)
  refine Z.iconst B dX12_isWordAt_23 (v := nI 0) rfl ?_
  refine Z.iaddv B dX12_isWordAt_24 (v := nI 0) (by decide) ?_
  refine Z.istore_n B dX12_isWordAt_25 (by decide) (L' := [(0, .ref 45), (1, .int (nI 3)), (2, .int (nI 5)), (3, .int (nI 0))]) rfl ?_
  refine Z.iinc B dX12_isWordAt_26 (by decide) (x := nI 5) rfl (v := nI 6) (nI_inc 5) (L' := [(0, .ref 45), (1, .int (nI 3)), (2, .int (nI 6)), (3, .int (nI 0))]) rfl ?_
  refine Z.goto B dX12_isWordAt_29 (tgt := 4) rfl ?_
  refine Z.iload_n B dX12_isWordAt_4 (x := nI 0) rfl ?_
  refine Z.iload_n B dX12_isWordAt_5 (x := nI 3) rfl ?_
  refine Z.icmp_geN B dX12_isWordAt_6 (tgt := 32) rfl (by omega) (by omega) (fun h6 => by exfalso; first | omega | contradiction | simp_all) (fun h6 => ?_)
  refine Z.iload_n B dX12_isWordAt_9 (x := nI 0) rfl ?_
  refine Z.aload_n B dX12_isWordAt_10 (v := .ref 45) rfl rfl ?_
  refine Z.getR (σ := (mS σ a t w r)) B fX12_60_12 dX12_isWordAt_11 (hl.n (k := 45) (by decide)) (hl.k (k := 45) (by decide)) (by decide) (j := 60) (hl.r (k := 45) (f := 19) (by decide) (by decide)) ?_
  refine Z.iload_n B dX12_isWordAt_14 (x := nI 6) rfl ?_
  refine Z.iald (σ := (mS σ a t w r)) B dX12_isWordAt_15 (n := 26) (hl.n (k := 60) (by decide)) (hl.k (k := 60) (by decide)) (hl.l (k := 60) (by decide)) (by decide) (j := 6) rfl (by decide) (v := nI 0) (wds_at ht (j := 6) (by decide)) ?_
  refine Z.if_neN B dX12_isWordAt_16 (tgt := 23) rfl (by omega) (fun h16 => by exfalso; first | omega | contradiction | simp_all) (fun h16 => ?_)
  refine Z.iconst B dX12_isWordAt_19 (v := nI 1) rfl ?_
  refine Z.goto B dX12_isWordAt_20 (tgt := 24) rfl ?_
  refine Z.iaddv B dX12_isWordAt_24 (v := nI 1) (by decide) ?_
  refine Z.istore_n B dX12_isWordAt_25 (by decide) (L' := [(0, .ref 45), (1, .int (nI 3)), (2, .int (nI 6)), (3, .int (nI 1))]) rfl ?_
  refine Z.iinc B dX12_isWordAt_26 (by decide) (x := nI 6) rfl (v := nI 7) (nI_inc 6) (L' := [(0, .ref 45), (1, .int (nI 3)), (2, .int (nI 7)), (3, .int (nI 1))]) rfl ?_
  refine Z.goto B dX12_isWordAt_29 (tgt := 4) rfl ?_
  refine Z.iload_n B dX12_isWordAt_4 (x := nI 1) rfl ?_
  refine Z.iload_n B dX12_isWordAt_5 (x := nI 3) rfl ?_
  refine Z.icmp_geN B dX12_isWordAt_6 (tgt := 32) rfl (by omega) (by omega) (fun h6 => by exfalso; first | omega | contradiction | simp_all) (fun h6 => ?_)
  refine Z.iload_n B dX12_isWordAt_9 (x := nI 1) rfl ?_
  refine Z.aload_n B dX12_isWordAt_10 (v := .ref 45) rfl rfl ?_
  refine Z.getR (σ := (mS σ a t w r)) B fX12_60_12 dX12_isWordAt_11 (hl.n (k := 45) (by decide)) (hl.k (k := 45) (by decide)) (by decide) (j := 60) (hl.r (k := 45) (f := 19) (by decide) (by decide)) ?_
  refine Z.iload_n B dX12_isWordAt_14 (x := nI 7) rfl ?_
  refine Z.iald (σ := (mS σ a t w r)) B dX12_isWordAt_15 (n := 26) (hl.n (k := 60) (by decide)) (hl.k (k := 60) (by decide)) (hl.l (k := 60) (by decide)) (by decide) (j := 7) rfl (by decide) (v := nI 97) (wds_at ht (j := 7) (by decide)) ?_
  refine Z.if_neN B dX12_isWordAt_16 (tgt := 23) rfl (by omega) (fun h16 => ?_) (fun h16 => by exfalso; first | omega | contradiction | simp_all)
  refine Z.iconst B dX12_isWordAt_23 (v := nI 0) rfl ?_
  refine Z.iaddv B dX12_isWordAt_24 (v := nI 1) (by decide) ?_
  refine Z.istore_n B dX12_isWordAt_25 (by decide) (L' := [(0, .ref 45), (1, .int (nI 3)), (2, .int (nI 7)), (3, .int (nI 1))]) rfl ?_
  refine Z.iinc B dX12_isWordAt_26 (by decide) (x := nI 7) rfl (v := nI 8) (nI_inc 7) (L' := [(0, .ref 45), (1, .int (nI 3)), (2, .int (nI 8)), (3, .int (nI 1))]) rfl ?_
  refine Z.goto B dX12_isWordAt_29 (tgt := 4) rfl ?_
  refine Z.iload_n B dX12_isWordAt_4 (x := nI 1) rfl ?_
  refine Z.iload_n B dX12_isWordAt_5 (x := nI 3) rfl ?_
  refine Z.icmp_geN B dX12_isWordAt_6 (tgt := 32) rfl (by omega) (by omega) (fun h6 => by exfalso; first | omega | contradiction | simp_all) (fun h6 => ?_)
  refine Z.iload_n B dX12_isWordAt_9 (x := nI 1) rfl ?_
  refine Z.aload_n B dX12_isWordAt_10 (v := .ref 45) rfl rfl ?_
  refine Z.getR (σ := (mS σ a t w r)) B fX12_60_12 dX12_isWordAt_11 (hl.n (k := 45) (by decide)) (hl.k (k := 45) (by decide)) (by decide) (j := 60) (hl.r (k := 45) (f := 19) (by decide) (by decide)) ?_
  refine Z.iload_n B dX12_isWordAt_14 (x := nI 8) rfl ?_
  refine Z.iald (σ := (mS σ a t w r)) B dX12_isWordAt_15 (n := 26) (hl.n (k := 60) (by decide)) (hl.k (k := 60) (by decide)) (hl.l (k := 60) (by decide)) (by decide) (j := 8) rfl (by decide) (v := nI 115) (wds_at ht (j := 8) (by decide)) ?_
  refine Z.if_neN B dX12_isWordAt_16 (tgt := 23) rfl (by omega) (fun h16 => ?_) (fun h16 => by exfalso; first | omega | contradiction | simp_all)
  refine Z.iconst B dX12_isWordAt_23 (v := nI 0) rfl ?_
  refine Z.iaddv B dX12_isWordAt_24 (v := nI 1) (by decide) ?_
  refine Z.istore_n B dX12_isWordAt_25 (by decide) (L' := [(0, .ref 45), (1, .int (nI 3)), (2, .int (nI 8)), (3, .int (nI 1))]) rfl ?_
  refine Z.iinc B dX12_isWordAt_26 (by decide) (x := nI 8) rfl (v := nI 9) (nI_inc 8) (L' := [(0, .ref 45), (1, .int (nI 3)), (2, .int (nI 9)), (3, .int (nI 1))]) rfl ?_
  refine Z.goto B dX12_isWordAt_29 (tgt := 4) rfl ?_
  refine Z.iload_n B dX12_isWordAt_4 (x := nI 1) rfl ?_
  refine Z.iload_n B dX12_isWordAt_5 (x := nI 3) rfl ?_
  refine Z.icmp_geN B dX12_isWordAt_6 (tgt := 32) rfl (by omega) (by omega) (fun h6 => by exfalso; first | omega | contradiction | simp_all) (fun h6 => ?_)
  refine Z.iload_n B dX12_isWordAt_9 (x := nI 1) rfl ?_
  refine Z.aload_n B dX12_isWordAt_10 (v := .ref 45) rfl rfl ?_
  refine Z.getR (σ := (mS σ a t w r)) B fX12_60_12 dX12_isWordAt_11 (hl.n (k := 45) (by decide)) (hl.k (k := 45) (by decide)) (by decide) (j := 60) (hl.r (k := 45) (f := 19) (by decide) (by decide)) ?_
  refine Z.iload_n B dX12_isWordAt_14 (x := nI 9) rfl ?_
  refine Z.iald (σ := (mS σ a t w r)) B dX12_isWordAt_15 (n := 26) (hl.n (k := 60) (by decide)) (hl.k (k := 60) (by decide)) (hl.l (k := 60) (by decide)) (by decide) (j := 9) rfl (by decide) (v := nI 107) (wds_at ht (j := 9) (by decide)) ?_
  refine Z.if_neN B dX12_isWordAt_16 (tgt := 23) rfl (by omega) (fun h16 => ?_) (fun h16 => by exfalso; first | omega | contradiction | simp_all)
  refine Z.iconst B dX12_isWordAt_23 (v := nI 0) rfl ?_
  refine Z.iaddv B dX12_isWordAt_24 (v := nI 1) (by decide) ?_
  refine Z.istore_n B dX12_isWordAt_25 (by decide) (L' := [(0, .ref 45), (1, .int (nI 3)), (2, .int (nI 9)), (3, .int (nI 1))]) rfl ?_
  refine Z.iinc B dX12_isWordAt_26 (by decide) (x := nI 9) rfl (v := nI 10) (nI_inc 9) (L' := [(0, .ref 45), (1, .int (nI 3)), (2, .int (nI 10)), (3, .int (nI 1))]) rfl ?_
  refine Z.goto B dX12_isWordAt_29 (tgt := 4) rfl ?_
  refine Z.iload_n B dX12_isWordAt_4 (x := nI 1) rfl ?_
  refine Z.iload_n B dX12_isWordAt_5 (x := nI 3) rfl ?_
  refine Z.icmp_geN B dX12_isWordAt_6 (tgt := 32) rfl (by omega) (by omega) (fun h6 => by exfalso; first | omega | contradiction | simp_all) (fun h6 => ?_)
  refine Z.iload_n B dX12_isWordAt_9 (x := nI 1) rfl ?_
  refine Z.aload_n B dX12_isWordAt_10 (v := .ref 45) rfl rfl ?_
  refine Z.getR (σ := (mS σ a t w r)) B fX12_60_12 dX12_isWordAt_11 (hl.n (k := 45) (by decide)) (hl.k (k := 45) (by decide)) (by decide) (j := 60) (hl.r (k := 45) (f := 19) (by decide) (by decide)) ?_
  refine Z.iload_n B dX12_isWordAt_14 (x := nI 10) rfl ?_
  refine Z.iald (σ := (mS σ a t w r)) B dX12_isWordAt_15 (n := 26) (hl.n (k := 60) (by decide)) (hl.k (k := 60) (by decide)) (hl.l (k := 60) (by decide)) (by decide) (j := 10) rfl (by decide) (v := nI 101) (wds_at ht (j := 10) (by decide)) ?_
  refine Z.if_neN B dX12_isWordAt_16 (tgt := 23) rfl (by omega) (fun h16 => ?_) (fun h16 => by exfalso; first | omega | contradiction | simp_all)
  refine Z.iconst B dX12_isWordAt_23 (v := nI 0) rfl ?_
  refine Z.iaddv B dX12_isWordAt_24 (v := nI 1) (by decide) ?_
  refine Z.istore_n B dX12_isWordAt_25 (by decide) (L' := [(0, .ref 45), (1, .int (nI 3)), (2, .int (nI 10)), (3, .int (nI 1))]) rfl ?_
  refine Z.iinc B dX12_isWordAt_26 (by decide) (x := nI 10) rfl (v := nI 11) (nI_inc 10) (L' := [(0, .ref 45), (1, .int (nI 3)), (2, .int (nI 11)), (3, .int (nI 1))]) rfl ?_
  refine Z.goto B dX12_isWordAt_29 (tgt := 4) rfl ?_
  refine Z.iload_n B dX12_isWordAt_4 (x := nI 1) rfl ?_
  refine Z.iload_n B dX12_isWordAt_5 (x := nI 3) rfl ?_
  refine Z.icmp_geN B dX12_isWordAt_6 (tgt := 32) rfl (by omega) (by omega) (fun h6 => by exfalso; first | omega | contradiction | simp_all) (fun h6 => ?_)
  refine Z.iload_n B dX12_isWordAt_9 (x := nI 1) rfl ?_
  refine Z.aload_n B dX12_isWordAt_10 (v := .ref 45) rfl rfl ?_
  refine Z.getR (σ := (mS σ a t w r)) B fX12_60_12 dX12_isWordAt_11 (hl.n (k := 45) (by decide)) (hl.k (k := 45) (by decide)) (by decide) (j := 60) (hl.r (k := 45) (f := 19) (by decide) (by decide)) ?_
  refine Z.iload_n B dX12_isWordAt_14 (x := nI 11) rfl ?_
  refine Z.iald (σ := (mS σ a t w r)) B dX12_isWordAt_15 (n := 26) (hl.n (k := 60) (by decide)) (hl.k (k := 60) (by decide)) (hl.l (k := 60) (by decide)) (by decide) (j := 11) rfl (by decide) (v := nI 114) (wds_at ht (j := 11) (by decide)) ?_
  refine Z.if_neN B dX12_isWordAt_16 (tgt := 23) rfl (by omega) (fun h16 => ?_) (fun h16 => by exfalso; first | omega | contradiction | simp_all)
  refine Z.iconst B dX12_isWordAt_23 (v := nI 0) rfl ?_
  refine Z.iaddv B dX12_isWordAt_24 (v := nI 1) (by decide) ?_
  refine Z.istore_n B dX12_isWordAt_25 (by decide) (L' := [(0, .ref 45), (1, .int (nI 3)), (2, .int (nI 11)), (3, .int (nI 1))]) rfl ?_
  refine Z.iinc B dX12_isWordAt_26 (by decide) (x := nI 11) rfl (v := nI 12) (nI_inc 11) (L' := [(0, .ref 45), (1, .int (nI 3)), (2, .int (nI 12)), (3, .int (nI 1))]) rfl ?_
  refine Z.goto B dX12_isWordAt_29 (tgt := 4) rfl ?_
  refine Z.iload_n B dX12_isWordAt_4 (x := nI 1) rfl ?_
  refine Z.iload_n B dX12_isWordAt_5 (x := nI 3) rfl ?_
  refine Z.icmp_geN B dX12_isWordAt_6 (tgt := 32) rfl (by omega) (by omega) (fun h6 => by exfalso; first | omega | contradiction | simp_all) (fun h6 => ?_)
  refine Z.iload_n B dX12_isWordAt_9 (x := nI 1) rfl ?_
  refine Z.aload_n B dX12_isWordAt_10 (v := .ref 45) rfl rfl ?_
  refine Z.getR (σ := (mS σ a t w r)) B fX12_60_12 dX12_isWordAt_11 (hl.n (k := 45) (by decide)) (hl.k (k := 45) (by decide)) (by decide) (j := 60) (hl.r (k := 45) (f := 19) (by decide) (by decide)) ?_
  refine Z.iload_n B dX12_isWordAt_14 (x := nI 12) rfl ?_
  refine Z.iald (σ := (mS σ a t w r)) B dX12_isWordAt_15 (n := 26) (hl.n (k := 60) (by decide)) (hl.k (k := 60) (by decide)) (hl.l (k := 60) (by decide)) (by decide) (j := 12) rfl (by decide) (v := nI 32) (wds_at ht (j := 12) (by decide)) ?_
  refine Z.if_neN B dX12_isWordAt_16 (tgt := 23) rfl (by omega) (fun h16 => ?_) (fun h16 => by exfalso; first | omega | contradiction | simp_all)
  refine Z.iconst B dX12_isWordAt_23 (v := nI 0) rfl ?_
  refine Z.iaddv B dX12_isWordAt_24 (v := nI 1) (by decide) ?_
  refine Z.istore_n B dX12_isWordAt_25 (by decide) (L' := [(0, .ref 45), (1, .int (nI 3)), (2, .int (nI 12)), (3, .int (nI 1))]) rfl ?_
  refine Z.iinc B dX12_isWordAt_26 (by decide) (x := nI 12) rfl (v := nI 13) (nI_inc 12) (L' := [(0, .ref 45), (1, .int (nI 3)), (2, .int (nI 13)), (3, .int (nI 1))]) rfl ?_
  refine Z.goto B dX12_isWordAt_29 (tgt := 4) rfl ?_
  refine Z.iload_n B dX12_isWordAt_4 (x := nI 1) rfl ?_
  refine Z.iload_n B dX12_isWordAt_5 (x := nI 3) rfl ?_
  refine Z.icmp_geN B dX12_isWordAt_6 (tgt := 32) rfl (by omega) (by omega) (fun h6 => by exfalso; first | omega | contradiction | simp_all) (fun h6 => ?_)
  refine Z.iload_n B dX12_isWordAt_9 (x := nI 1) rfl ?_
  refine Z.aload_n B dX12_isWordAt_10 (v := .ref 45) rfl rfl ?_
  refine Z.getR (σ := (mS σ a t w r)) B fX12_60_12 dX12_isWordAt_11 (hl.n (k := 45) (by decide)) (hl.k (k := 45) (by decide)) (by decide) (j := 60) (hl.r (k := 45) (f := 19) (by decide) (by decide)) ?_
  refine Z.iload_n B dX12_isWordAt_14 (x := nI 13) rfl ?_
  refine Z.iald (σ := (mS σ a t w r)) B dX12_isWordAt_15 (n := 26) (hl.n (k := 60) (by decide)) (hl.k (k := 60) (by decide)) (hl.l (k := 60) (by decide)) (by decide) (j := 13) rfl (by decide) (v := nI 0) (wds_at ht (j := 13) (by decide)) ?_
  refine Z.if_neN B dX12_isWordAt_16 (tgt := 23) rfl (by omega) (fun h16 => by exfalso; first | omega | contradiction | simp_all) (fun h16 => ?_)
  refine Z.iconst B dX12_isWordAt_19 (v := nI 1) rfl ?_
  refine Z.goto B dX12_isWordAt_20 (tgt := 24) rfl ?_
  refine Z.iaddv B dX12_isWordAt_24 (v := nI 2) (by decide) ?_
  refine Z.istore_n B dX12_isWordAt_25 (by decide) (L' := [(0, .ref 45), (1, .int (nI 3)), (2, .int (nI 13)), (3, .int (nI 2))]) rfl ?_
  refine Z.iinc B dX12_isWordAt_26 (by decide) (x := nI 13) rfl (v := nI 14) (nI_inc 13) (L' := [(0, .ref 45), (1, .int (nI 3)), (2, .int (nI 14)), (3, .int (nI 2))]) rfl ?_
  refine Z.goto B dX12_isWordAt_29 (tgt := 4) rfl ?_
  refine Z.iload_n B dX12_isWordAt_4 (x := nI 2) rfl ?_
  refine Z.iload_n B dX12_isWordAt_5 (x := nI 3) rfl ?_
  refine Z.icmp_geN B dX12_isWordAt_6 (tgt := 32) rfl (by omega) (by omega) (fun h6 => by exfalso; first | omega | contradiction | simp_all) (fun h6 => ?_)
  refine Z.iload_n B dX12_isWordAt_9 (x := nI 2) rfl ?_
  refine Z.aload_n B dX12_isWordAt_10 (v := .ref 45) rfl rfl ?_
  refine Z.getR (σ := (mS σ a t w r)) B fX12_60_12 dX12_isWordAt_11 (hl.n (k := 45) (by decide)) (hl.k (k := 45) (by decide)) (by decide) (j := 60) (hl.r (k := 45) (f := 19) (by decide) (by decide)) ?_
  refine Z.iload_n B dX12_isWordAt_14 (x := nI 14) rfl ?_
  refine Z.iald (σ := (mS σ a t w r)) B dX12_isWordAt_15 (n := 26) (hl.n (k := 60) (by decide)) (hl.k (k := 60) (by decide)) (hl.l (k := 60) (by decide)) (by decide) (j := 14) rfl (by decide) (v := nI 119) (wds_at ht (j := 14) (by decide)) ?_
  refine Z.if_neN B dX12_isWordAt_16 (tgt := 23) rfl (by omega) (fun h16 => ?_) (fun h16 => by exfalso; first | omega | contradiction | simp_all)
  refine Z.iconst B dX12_isWordAt_23 (v := nI 0) rfl ?_
  refine Z.iaddv B dX12_isWordAt_24 (v := nI 2) (by decide) ?_
  refine Z.istore_n B dX12_isWordAt_25 (by decide) (L' := [(0, .ref 45), (1, .int (nI 3)), (2, .int (nI 14)), (3, .int (nI 2))]) rfl ?_
  refine Z.iinc B dX12_isWordAt_26 (by decide) (x := nI 14) rfl (v := nI 15) (nI_inc 14) (L' := [(0, .ref 45), (1, .int (nI 3)), (2, .int (nI 15)), (3, .int (nI 2))]) rfl ?_
  refine Z.goto B dX12_isWordAt_29 (tgt := 4) rfl ?_
  refine Z.iload_n B dX12_isWordAt_4 (x := nI 2) rfl ?_
  refine Z.iload_n B dX12_isWordAt_5 (x := nI 3) rfl ?_
  refine Z.icmp_geN B dX12_isWordAt_6 (tgt := 32) rfl (by omega) (by omega) (fun h6 => by exfalso; first | omega | contradiction | simp_all) (fun h6 => ?_)
  refine Z.iload_n B dX12_isWordAt_9 (x := nI 2) rfl ?_
  refine Z.aload_n B dX12_isWordAt_10 (v := .ref 45) rfl rfl ?_
  refine Z.getR (σ := (mS σ a t w r)) B fX12_60_12 dX12_isWordAt_11 (hl.n (k := 45) (by decide)) (hl.k (k := 45) (by decide)) (by decide) (j := 60) (hl.r (k := 45) (f := 19) (by decide) (by decide)) ?_
  refine Z.iload_n B dX12_isWordAt_14 (x := nI 15) rfl ?_
  refine Z.iald (σ := (mS σ a t w r)) B dX12_isWordAt_15 (n := 26) (hl.n (k := 60) (by decide)) (hl.k (k := 60) (by decide)) (hl.l (k := 60) (by decide)) (by decide) (j := 15) rfl (by decide) (v := nI 97) (wds_at ht (j := 15) (by decide)) ?_
  refine Z.if_neN B dX12_isWordAt_16 (tgt := 23) rfl (by omega) (fun h16 => ?_) (fun h16 => by exfalso; first | omega | contradiction | simp_all)
  refine Z.iconst B dX12_isWordAt_23 (v := nI 0) rfl ?_
  refine Z.iaddv B dX12_isWordAt_24 (v := nI 2) (by decide) ?_
  refine Z.istore_n B dX12_isWordAt_25 (by decide) (L' := [(0, .ref 45), (1, .int (nI 3)), (2, .int (nI 15)), (3, .int (nI 2))]) rfl ?_
  refine Z.iinc B dX12_isWordAt_26 (by decide) (x := nI 15) rfl (v := nI 16) (nI_inc 15) (L' := [(0, .ref 45), (1, .int (nI 3)), (2, .int (nI 16)), (3, .int (nI 2))]) rfl ?_
  refine Z.goto B dX12_isWordAt_29 (tgt := 4) rfl ?_
  refine Z.iload_n B dX12_isWordAt_4 (x := nI 2) rfl ?_
  refine Z.iload_n B dX12_isWordAt_5 (x := nI 3) rfl ?_
  refine Z.icmp_geN B dX12_isWordAt_6 (tgt := 32) rfl (by omega) (by omega) (fun h6 => by exfalso; first | omega | contradiction | simp_all) (fun h6 => ?_)
  refine Z.iload_n B dX12_isWordAt_9 (x := nI 2) rfl ?_
  refine Z.aload_n B dX12_isWordAt_10 (v := .ref 45) rfl rfl ?_
  refine Z.getR (σ := (mS σ a t w r)) B fX12_60_12 dX12_isWordAt_11 (hl.n (k := 45) (by decide)) (hl.k (k := 45) (by decide)) (by decide) (j := 60) (hl.r (k := 45) (f := 19) (by decide) (by decide)) ?_
  refine Z.iload_n B dX12_isWordAt_14 (x := nI 16) rfl ?_
  refine Z.iald (σ := (mS σ a t w r)) B dX12_isWordAt_15 (n := 26) (hl.n (k := 60) (by decide)) (hl.k (k := 60) (by decide)) (hl.l (k := 60) (by decide)) (by decide) (j := 16) rfl (by decide) (v := nI 121) (wds_at ht (j := 16) (by decide)) ?_
  refine Z.if_neN B dX12_isWordAt_16 (tgt := 23) rfl (by omega) (fun h16 => ?_) (fun h16 => by exfalso; first | omega | contradiction | simp_all)
  refine Z.iconst B dX12_isWordAt_23 (v := nI 0) rfl ?_
  refine Z.iaddv B dX12_isWordAt_24 (v := nI 2) (by decide) ?_
  refine Z.istore_n B dX12_isWordAt_25 (by decide) (L' := [(0, .ref 45), (1, .int (nI 3)), (2, .int (nI 16)), (3, .int (nI 2))]) rfl ?_
  refine Z.iinc B dX12_isWordAt_26 (by decide) (x := nI 16) rfl (v := nI 17) (nI_inc 16) (L' := [(0, .ref 45), (1, .int (nI 3)), (2, .int (nI 17)), (3, .int (nI 2))]) rfl ?_
  refine Z.goto B dX12_isWordAt_29 (tgt := 4) rfl ?_
  refine Z.iload_n B dX12_isWordAt_4 (x := nI 2) rfl ?_
  refine Z.iload_n B dX12_isWordAt_5 (x := nI 3) rfl ?_
  refine Z.icmp_geN B dX12_isWordAt_6 (tgt := 32) rfl (by omega) (by omega) (fun h6 => by exfalso; first | omega | contradiction | simp_all) (fun h6 => ?_)
  refine Z.iload_n B dX12_isWordAt_9 (x := nI 2) rfl ?_
  refine Z.aload_n B dX12_isWordAt_10 (v := .ref 45) rfl rfl ?_
  refine Z.getR (σ := (mS σ a t w r)) B fX12_60_12 dX12_isWordAt_11 (hl.n (k := 45) (by decide)) (hl.k (k := 45) (by decide)) (by decide) (j := 60) (hl.r (k := 45) (f := 19) (by decide) (by decide)) ?_
  refine Z.iload_n B dX12_isWordAt_14 (x := nI 17) rfl ?_
  refine Z.iald (σ := (mS σ a t w r)) B dX12_isWordAt_15 (n := 26) (hl.n (k := 60) (by decide)) (hl.k (k := 60) (by decide)) (hl.l (k := 60) (by decide)) (by decide) (j := 17) rfl (by decide) (v := nI 32) (wds_at ht (j := 17) (by decide)) ?_
  refine Z.if_neN B dX12_isWordAt_16 (tgt := 23) rfl (by omega) (fun h16 => ?_) (fun h16 => by exfalso; first | omega | contradiction | simp_all)
  refine Z.iconst B dX12_isWordAt_23 (v := nI 0) rfl ?_
  refine Z.iaddv B dX12_isWordAt_24 (v := nI 2) (by decide) ?_
  refine Z.istore_n B dX12_isWordAt_25 (by decide) (L' := [(0, .ref 45), (1, .int (nI 3)), (2, .int (nI 17)), (3, .int (nI 2))]) rfl ?_
  refine Z.iinc B dX12_isWordAt_26 (by decide) (x := nI 17) rfl (v := nI 18) (nI_inc 17) (L' := [(0, .ref 45), (1, .int (nI 3)), (2, .int (nI 18)), (3, .int (nI 2))]) rfl ?_
  refine Z.goto B dX12_isWordAt_29 (tgt := 4) rfl ?_
  refine Z.iload_n B dX12_isWordAt_4 (x := nI 2) rfl ?_
  refine Z.iload_n B dX12_isWordAt_5 (x := nI 3) rfl ?_
  refine Z.icmp_geN B dX12_isWordAt_6 (tgt := 32) rfl (by omega) (by omega) (fun h6 => by exfalso; first | omega | contradiction | simp_all) (fun h6 => ?_)
  refine Z.iload_n B dX12_isWordAt_9 (x := nI 2) rfl ?_
  refine Z.aload_n B dX12_isWordAt_10 (v := .ref 45) rfl rfl ?_
  refine Z.getR (σ := (mS σ a t w r)) B fX12_60_12 dX12_isWordAt_11 (hl.n (k := 45) (by decide)) (hl.k (k := 45) (by decide)) (by decide) (j := 60) (hl.r (k := 45) (f := 19) (by decide) (by decide)) ?_
  refine Z.iload_n B dX12_isWordAt_14 (x := nI 18) rfl ?_
  refine Z.iald (σ := (mS σ a t w r)) B dX12_isWordAt_15 (n := 26) (hl.n (k := 60) (by decide)) (hl.k (k := 60) (by decide)) (hl.l (k := 60) (by decide)) (by decide) (j := 18) rfl (by decide) (v := nI 0) (wds_at ht (j := 18) (by decide)) ?_
  refine Z.if_neN B dX12_isWordAt_16 (tgt := 23) rfl (by omega) (fun h16 => by exfalso; first | omega | contradiction | simp_all) (fun h16 => ?_)
  refine Z.iconst B dX12_isWordAt_19 (v := nI 1) rfl ?_
  refine Z.goto B dX12_isWordAt_20 (tgt := 24) rfl ?_
  refine Z.iaddv B dX12_isWordAt_24 (v := nI 3) (by decide) ?_
  refine Z.istore_n B dX12_isWordAt_25 (by decide) (L' := [(0, .ref 45), (1, .int (nI 3)), (2, .int (nI 18)), (3, .int (nI 3))]) rfl ?_
  refine Z.iinc B dX12_isWordAt_26 (by decide) (x := nI 18) rfl (v := nI 19) (nI_inc 18) (L' := [(0, .ref 45), (1, .int (nI 3)), (2, .int (nI 19)), (3, .int (nI 3))]) rfl ?_
  refine Z.goto B dX12_isWordAt_29 (tgt := 4) rfl ?_
  refine Z.iload_n B dX12_isWordAt_4 (x := nI 3) rfl ?_
  refine Z.iload_n B dX12_isWordAt_5 (x := nI 3) rfl ?_
  refine Z.icmp_geN B dX12_isWordAt_6 (tgt := 32) rfl (by omega) (by omega) (fun h6 => ?_) (fun h6 => by exfalso; first | omega | contradiction | simp_all)
  refine Z.aload_n B dX12_isWordAt_32 (v := .ref 45) rfl rfl ?_
  refine Z.getI (σ := (mS σ a t w r)) B fX12_141_12 dX12_isWordAt_33 (hl.n (k := 45) (by decide)) (hl.k (k := 45) (by decide)) (by decide) (v := nI a) mS_a ?_
  refine Z.istore_n B dX12_isWordAt_36 (by decide) (L' := [(0, .ref 45), (1, .int (nI 3)), (2, .int (nI 19)), (3, .int (nI a))]) rfl ?_
  have hloop37 : ∀ k : Nat, k ≤ al T a 3 → Z κ 0 0 (mS σ a t w r) 37 [(0, .ref 45), (1, .int (nI 3)), (2, .int (nI (19 + k))), (3, .int (nI (a + k)))] [] := by
    refine z_loop (fun k => 5 - k) (fun k ih hk => ?_)
    have hA1 : al T a 3 ≤ 5 := (al_s (T := T) (a := a) (w := 3)).1
    have hz : wds (19 + k) ≤ 32 ↔ k = 5 := wds_S 3 (by decide) k (by show k ≤ 5; omega)
    have hzl : wds (19 + k) < 2 ^ 31 := wds_lt _ (by omega)
    refine Z.aload_n B dX12_isWordAt_37 (v := .ref 45) rfl rfl ?_
    refine Z.getR (σ := (mS σ a t w r)) B fX12_60_12 dX12_isWordAt_38 (hl.n (k := 45) (by decide)) (hl.k (k := 45) (by decide)) (by decide) (j := 60) (hl.r (k := 45) (f := 19) (by decide) (by decide)) ?_
    refine Z.iload_n B dX12_isWordAt_41 (x := nI (19 + k)) rfl ?_
    refine Z.iald (σ := (mS σ a t w r)) B dX12_isWordAt_42 (n := 26) (hl.n (k := 60) (by decide)) (hl.k (k := 60) (by decide)) (hl.l (k := 60) (by decide)) (by decide) (j := 19 + k) rfl (by omega) (v := nI (wds (19 + k))) (wds_at ht (by omega)) ?_
    refine Z.bipush B dX12_isWordAt_43 (v := nI 32) rfl ?_
    refine Z.icmp_leN B dX12_isWordAt_45 (tgt := 86) rfl (by omega) (by omega) (fun h45 => ?_) (fun h45 => ?_)
    · skip
      have hke : k = 5 := hz.mp h45
      refine Z.aload_n B dX12_isWordAt_86 (v := .ref 45) rfl rfl ?_
      refine Z.getR (σ := (mS σ a t w r)) B fX12_60_12 dX12_isWordAt_87 (hl.n (k := 45) (by decide)) (hl.k (k := 45) (by decide)) (by decide) (j := 60) (hl.r (k := 45) (f := 19) (by decide) (by decide)) ?_
      refine Z.iload_n B dX12_isWordAt_90 (x := nI (19 + k)) rfl ?_
      refine Z.iald (σ := (mS σ a t w r)) B dX12_isWordAt_91 (n := 26) (hl.n (k := 60) (by decide)) (hl.k (k := 60) (by decide)) (hl.l (k := 60) (by decide)) (by decide) (j := 19 + k) rfl (by omega) (v := nI (wds (19 + k))) (wds_at ht (by omega)) ?_
      refine Z.bipush B dX12_isWordAt_92 (v := nI 32) rfl ?_
      refine Z.icmp_gtN B dX12_isWordAt_94 (tgt := 101) rfl (by omega) (by omega) (fun h94 => (by omega)) (fun h94 => ?_)
      refine Z.iconst B dX12_isWordAt_97 (v := nI 1) rfl ?_
      refine Z.goto B dX12_isWordAt_98 (tgt := 102) rfl ?_
      refine Z.iret B Rt dX12_isWordAt_102 (ty := .boolean) rfl rfl (by decide) (by decide) ?_
      exact ⟨rfl, rfl⟩
    · skip
      have hlk : k < al T a 3 := (by have : ¬ k = 5 := (fun e => h45 (hz.mpr e)); omega)
      have hin := al_z ht (by decide) hlk
      refine Z.iload_n B dX12_isWordAt_48 (x := nI (a + k)) rfl ?_
      refine Z.aload_n B dX12_isWordAt_49 (v := .ref 45) rfl rfl ?_
      refine Z.getI (σ := (mS σ a t w r)) B fX12_144_12 dX12_isWordAt_50 (hl.n (k := 45) (by decide)) (hl.k (k := 45) (by decide)) (by decide) (v := nI m) ((mS_f (by decide) (by decide) (by decide)).trans hen) ?_
      refine Z.icmp_geN B dX12_isWordAt_53 (tgt := 86) rfl (by omega) (by omega) (fun h53 => (by omega)) (fun h53 => ?_)
      refine Z.aload_n B dX12_isWordAt_56 (v := .ref 45) rfl rfl ?_
      refine Z.getR (σ := (mS σ a t w r)) B fX12_53_12 dX12_isWordAt_57 (hl.n (k := 45) (by decide)) (hl.k (k := 45) (by decide)) (by decide) (j := 58) (hl.r (k := 45) (f := 17) (by decide) (by decide)) ?_
      refine Z.aload_n B dX12_isWordAt_60 (v := .ref 45) rfl rfl ?_
      refine Z.getI (σ := (mS σ a t w r)) B fX12_147_12 dX12_isWordAt_61 (hl.n (k := 45) (by decide)) (hl.k (k := 45) (by decide)) (by decide) (v := nI (s * 160)) ((mS_f (by decide) (by decide) (by decide)).trans hbs) ?_
      refine Z.iload_n B dX12_isWordAt_64 (x := nI (a + k)) rfl ?_
      refine Z.iaddN B dX12_isWordAt_65 (a := s * 160) (b := a + k) ?_
      refine Z.lald (σ := (mS σ a t w r)) B dX12_isWordAt_66 (n := 1280) (hl.n (k := 58) (by decide)) (hl.k (k := 58) (by decide)) (hl.l (k := 58) (by decide)) (by decide) (j := (s * 160) + (a + k)) rfl (by omega) (v := (zY (mS σ a t w r) 58 ((s * 160) + (a + k)))) rfl ?_
      refine Z.l2i B dX12_isWordAt_67 ?_
      refine Z.eqS (st' := [.int (T (a + k))]) (congrArg (fun z => Value.int z :: _) (ht.t (i := a + k) (by omega))) ?_
      refine Z.aload_n B dX12_isWordAt_68 (v := .ref 45) rfl rfl ?_
      refine Z.getR (σ := (mS σ a t w r)) B fX12_60_12 dX12_isWordAt_69 (hl.n (k := 45) (by decide)) (hl.k (k := 45) (by decide)) (by decide) (j := 60) (hl.r (k := 45) (f := 19) (by decide) (by decide)) ?_
      refine Z.iload_n B dX12_isWordAt_72 (x := nI (19 + k)) rfl ?_
      refine Z.iald (σ := (mS σ a t w r)) B dX12_isWordAt_73 (n := 26) (hl.n (k := 60) (by decide)) (hl.k (k := 60) (by decide)) (hl.l (k := 60) (by decide)) (by decide) (j := 19 + k) rfl (by omega) (v := nI (wds (19 + k))) (wds_at ht (by omega)) ?_
      refine Z.icmp_ne B dX12_isWordAt_74 (tgt := 86) rfl (fun h74 => (absurd (by rw [show wds (19 + k) = ltr 3 k from wds_L 3 (by decide) k (by show k < 5; omega)]; exact (al_s (T := T) (a := a) (w := 3)).2.1 k hlk) h74)) (fun h74 => ?_)
      refine Z.iincN B dX12_isWordAt_77 (by decide) (a := a + k) rfl (L' := [(0, .ref 45), (1, .int (nI 3)), (2, .int (nI (19 + k))), (3, .int (nI (a + k + 1)))]) rfl ?_
      refine Z.iincN B dX12_isWordAt_80 (by decide) (a := 19 + k) rfl (L' := [(0, .ref 45), (1, .int (nI 3)), (2, .int (nI (19 + k + 1))), (3, .int (nI (a + k + 1)))]) rfl ?_
      refine Z.goto B dX12_isWordAt_83 (tgt := 37) rfl ?_
      exact ih (k + 1) (by omega) (by omega)
  exact hloop37 0 (Nat.zero_le _)

theorem t_X12_isW_3_0 {σ : zSt} {t w : Int32} {r : Nat → Int32} (hl : Lay σ) {s m : Nat} {T : Nat → Int32} (ht : zTm σ s m T) {a : Nat} (ha : a < 2 ^ 30) (h : ¬ al T a 3 = 5) : Dt mX12_isWordAt [.ref 45, .int (nI 3)] (mS σ a t w r) (some (.int (nI 0))) (mS σ a t w r) := by
  obtain ⟨⟨hs8, hm160⟩, ⟨hbs, hen⟩, hT, hwd⟩ := id ht
  refine Dt.of (by decide) (Nat.le_of_ble_eq_true rfl) fun κ B Rt => ?_
  show Z κ 0 0 (mS σ a t w r) 0 [(0, .ref 45), (1, .int (nI 3))] []
  refine Z.iconst B dX12_isWordAt_0 (v := nI 0) rfl ?_
  refine Z.istore_n B dX12_isWordAt_1 (by decide) (L' := [(0, .ref 45), (1, .int (nI 3)), (2, .int (nI 0))]) rfl ?_
  refine Z.iconst B dX12_isWordAt_2 (v := nI 0) rfl ?_
  refine Z.istore_n B dX12_isWordAt_3 (by decide) (L' := [(0, .ref 45), (1, .int (nI 3)), (2, .int (nI 0)), (3, .int (nI 0))]) rfl ?_
  refine Z.iload_n B dX12_isWordAt_4 (x := nI 0) rfl ?_
  refine Z.iload_n B dX12_isWordAt_5 (x := nI 3) rfl ?_
  refine Z.icmp_geN B dX12_isWordAt_6 (tgt := 32) rfl (by omega) (by omega) (fun h6 => by exfalso; first | omega | contradiction | simp_all) (fun h6 => ?_)
  refine Z.iload_n B dX12_isWordAt_9 (x := nI 0) rfl ?_
  refine Z.aload_n B dX12_isWordAt_10 (v := .ref 45) rfl rfl ?_
  refine Z.getR (σ := (mS σ a t w r)) B fX12_60_12 dX12_isWordAt_11 (hl.n (k := 45) (by decide)) (hl.k (k := 45) (by decide)) (by decide) (j := 60) (hl.r (k := 45) (f := 19) (by decide) (by decide)) ?_
  refine Z.iload_n B dX12_isWordAt_14 (x := nI 0) rfl ?_
  refine Z.iald (σ := (mS σ a t w r)) B dX12_isWordAt_15 (n := 26) (hl.n (k := 60) (by decide)) (hl.k (k := 60) (by decide)) (hl.l (k := 60) (by decide)) (by decide) (j := 0) rfl (by decide) (v := nI 99) (wds_at ht (j := 0) (by decide)) ?_
  refine Z.if_neN B dX12_isWordAt_16 (tgt := 23) rfl (by omega) (fun h16 => ?_) (fun h16 => by exfalso; first | omega | contradiction | simp_all)
  refine Z.iconst B dX12_isWordAt_23 (v := nI 0) rfl ?_
  refine Z.iaddv B dX12_isWordAt_24 (v := nI 0) (by decide) ?_
  refine Z.istore_n B dX12_isWordAt_25 (by decide) (L' := [(0, .ref 45), (1, .int (nI 3)), (2, .int (nI 0)), (3, .int (nI 0))]) rfl ?_
  refine Z.iinc B dX12_isWordAt_26 (by decide) (x := nI 0) rfl (v := nI 1) (nI_inc 0) (L' := [(0, .ref 45), (1, .int (nI 3)), (2, .int (nI 1)), (3, .int (nI 0))]) rfl ?_
  refine Z.goto B dX12_isWordAt_29 (tgt := 4) rfl ?_
  refine Z.iload_n B dX12_isWordAt_4 (x := nI 0) rfl ?_
  refine Z.iload_n B dX12_isWordAt_5 (x := nI 3) rfl ?_
  refine Z.icmp_geN B dX12_isWordAt_6 (tgt := 32) rfl (by omega) (by omega) (fun h6 => by exfalso; first | omega | contradiction | simp_all) (fun h6 => ?_)
  refine Z.iload_n B dX12_isWordAt_9 (x := nI 0) rfl ?_
  refine Z.aload_n B dX12_isWordAt_10 (v := .ref 45) rfl rfl ?_
  refine Z.getR (σ := (mS σ a t w r)) B fX12_60_12 dX12_isWordAt_11 (hl.n (k := 45) (by decide)) (hl.k (k := 45) (by decide)) (by decide) (j := 60) (hl.r (k := 45) (f := 19) (by decide) (by decide)) ?_
  refine Z.iload_n B dX12_isWordAt_14 (x := nI 1) rfl ?_
  refine Z.iald (σ := (mS σ a t w r)) B dX12_isWordAt_15 (n := 26) (hl.n (k := 60) (by decide)) (hl.k (k := 60) (by decide)) (hl.l (k := 60) (by decide)) (by decide) (j := 1) rfl (by decide) (v := nI 111) (wds_at ht (j := 1) (by decide)) ?_
  refine Z.if_neN B dX12_isWordAt_16 (tgt := 23) rfl (by omega) (fun h16 => ?_) (fun h16 => by exfalso; first | omega | contradiction | simp_all)
  refine Z.iconst B dX12_isWordAt_23 (v := nI 0) rfl ?_
  refine Z.iaddv B dX12_isWordAt_24 (v := nI 0) (by decide) ?_
  refine Z.istore_n B dX12_isWordAt_25 (by decide) (L' := [(0, .ref 45), (1, .int (nI 3)), (2, .int (nI 1)), (3, .int (nI 0))]) rfl ?_
  refine Z.iinc B dX12_isWordAt_26 (by decide) (x := nI 1) rfl (v := nI 2) (nI_inc 1) (L' := [(0, .ref 45), (1, .int (nI 3)), (2, .int (nI 2)), (3, .int (nI 0))]) rfl ?_
  refine Z.goto B dX12_isWordAt_29 (tgt := 4) rfl ?_
  refine Z.iload_n B dX12_isWordAt_4 (x := nI 0) rfl ?_
  refine Z.iload_n B dX12_isWordAt_5 (x := nI 3) rfl ?_
  refine Z.icmp_geN B dX12_isWordAt_6 (tgt := 32) rfl (by omega) (by omega) (fun h6 => by exfalso; first | omega | contradiction | simp_all) (fun h6 => ?_)
  refine Z.iload_n B dX12_isWordAt_9 (x := nI 0) rfl ?_
  refine Z.aload_n B dX12_isWordAt_10 (v := .ref 45) rfl rfl ?_
  refine Z.getR (σ := (mS σ a t w r)) B fX12_60_12 dX12_isWordAt_11 (hl.n (k := 45) (by decide)) (hl.k (k := 45) (by decide)) (by decide) (j := 60) (hl.r (k := 45) (f := 19) (by decide) (by decide)) ?_
  refine Z.iload_n B dX12_isWordAt_14 (x := nI 2) rfl ?_
  refine Z.iald (σ := (mS σ a t w r)) B dX12_isWordAt_15 (n := 26) (hl.n (k := 60) (by decide)) (hl.k (k := 60) (by decide)) (hl.l (k := 60) (by decide)) (by decide) (j := 2) rfl (by decide) (v := nI 109) (wds_at ht (j := 2) (by decide)) ?_
  refine Z.if_neN B dX12_isWordAt_16 (tgt := 23) rfl (by omega) (fun h16 => ?_) (fun h16 => by exfalso; first | omega | contradiction | simp_all)
  refine Z.iconst B dX12_isWordAt_23 (v := nI 0) rfl ?_
  refine Z.iaddv B dX12_isWordAt_24 (v := nI 0) (by decide) ?_
  refine Z.istore_n B dX12_isWordAt_25 (by decide) (L' := [(0, .ref 45), (1, .int (nI 3)), (2, .int (nI 2)), (3, .int (nI 0))]) rfl ?_
  refine Z.iinc B dX12_isWordAt_26 (by decide) (x := nI 2) rfl (v := nI 3) (nI_inc 2) (L' := [(0, .ref 45), (1, .int (nI 3)), (2, .int (nI 3)), (3, .int (nI 0))]) rfl ?_
  refine Z.goto B dX12_isWordAt_29 (tgt := 4) rfl ?_
  refine Z.iload_n B dX12_isWordAt_4 (x := nI 0) rfl ?_
  refine Z.iload_n B dX12_isWordAt_5 (x := nI 3) rfl ?_
  refine Z.icmp_geN B dX12_isWordAt_6 (tgt := 32) rfl (by omega) (by omega) (fun h6 => by exfalso; first | omega | contradiction | simp_all) (fun h6 => ?_)
  refine Z.iload_n B dX12_isWordAt_9 (x := nI 0) rfl ?_
  refine Z.aload_n B dX12_isWordAt_10 (v := .ref 45) rfl rfl ?_
  refine Z.getR (σ := (mS σ a t w r)) B fX12_60_12 dX12_isWordAt_11 (hl.n (k := 45) (by decide)) (hl.k (k := 45) (by decide)) (by decide) (j := 60) (hl.r (k := 45) (f := 19) (by decide) (by decide)) ?_
  refine Z.iload_n B dX12_isWordAt_14 (x := nI 3) rfl ?_
  refine Z.iald (σ := (mS σ a t w r)) B dX12_isWordAt_15 (n := 26) (hl.n (k := 60) (by decide)) (hl.k (k := 60) (by decide)) (hl.l (k := 60) (by decide)) (by decide) (j := 3) rfl (by decide) (v := nI 101) (wds_at ht (j := 3) (by decide)) ?_
  refine Z.if_neN B dX12_isWordAt_16 (tgt := 23) rfl (by omega) (fun h16 => ?_) (fun h16 => by exfalso; first | omega | contradiction | simp_all)
  refine Z.iconst B dX12_isWordAt_23 (v := nI 0) rfl ?_
  refine Z.iaddv B dX12_isWordAt_24 (v := nI 0) (by decide) ?_
  refine Z.istore_n B dX12_isWordAt_25 (by decide) (L' := [(0, .ref 45), (1, .int (nI 3)), (2, .int (nI 3)), (3, .int (nI 0))]) rfl ?_
  refine Z.iinc B dX12_isWordAt_26 (by decide) (x := nI 3) rfl (v := nI 4) (nI_inc 3) (L' := [(0, .ref 45), (1, .int (nI 3)), (2, .int (nI 4)), (3, .int (nI 0))]) rfl ?_
  refine Z.goto B dX12_isWordAt_29 (tgt := 4) rfl ?_
  refine Z.iload_n B dX12_isWordAt_4 (x := nI 0) rfl ?_
  refine Z.iload_n B dX12_isWordAt_5 (x := nI 3) rfl ?_
  refine Z.icmp_geN B dX12_isWordAt_6 (tgt := 32) rfl (by omega) (by omega) (fun h6 => by exfalso; first | omega | contradiction | simp_all) (fun h6 => ?_)
  refine Z.iload_n B dX12_isWordAt_9 (x := nI 0) rfl ?_
  refine Z.aload_n B dX12_isWordAt_10 (v := .ref 45) rfl rfl ?_
  refine Z.getR (σ := (mS σ a t w r)) B fX12_60_12 dX12_isWordAt_11 (hl.n (k := 45) (by decide)) (hl.k (k := 45) (by decide)) (by decide) (j := 60) (hl.r (k := 45) (f := 19) (by decide) (by decide)) ?_
  refine Z.iload_n B dX12_isWordAt_14 (x := nI 4) rfl ?_
  refine Z.iald (σ := (mS σ a t w r)) B dX12_isWordAt_15 (n := 26) (hl.n (k := 60) (by decide)) (hl.k (k := 60) (by decide)) (hl.l (k := 60) (by decide)) (by decide) (j := 4) rfl (by decide) (v := nI 114) (wds_at ht (j := 4) (by decide)) ?_
  refine Z.if_neN B dX12_isWordAt_16 (tgt := 23) rfl (by omega) (fun h16 => ?_) (fun h16 => by exfalso; first | omega | contradiction | simp_all)
  refine Z.iconst B dX12_isWordAt_23 (v := nI 0) rfl ?_
  refine Z.iaddv B dX12_isWordAt_24 (v := nI 0) (by decide) ?_
  refine Z.istore_n B dX12_isWordAt_25 (by decide) (L' := [(0, .ref 45), (1, .int (nI 3)), (2, .int (nI 4)), (3, .int (nI 0))]) rfl ?_
  refine Z.iinc B dX12_isWordAt_26 (by decide) (x := nI 4) rfl (v := nI 5) (nI_inc 4) (L' := [(0, .ref 45), (1, .int (nI 3)), (2, .int (nI 5)), (3, .int (nI 0))]) rfl ?_
  refine Z.goto B dX12_isWordAt_29 (tgt := 4) rfl ?_
  refine Z.iload_n B dX12_isWordAt_4 (x := nI 0) rfl ?_
  refine Z.iload_n B dX12_isWordAt_5 (x := nI 3) rfl ?_
  refine Z.icmp_geN B dX12_isWordAt_6 (tgt := 32) rfl (by omega) (by omega) (fun h6 => by exfalso; first | omega | contradiction | simp_all) (fun h6 => ?_)
  refine Z.iload_n B dX12_isWordAt_9 (x := nI 0) rfl ?_
  refine Z.aload_n B dX12_isWordAt_10 (v := .ref 45) rfl rfl ?_
  refine Z.getR (σ := (mS σ a t w r)) B fX12_60_12 dX12_isWordAt_11 (hl.n (k := 45) (by decide)) (hl.k (k := 45) (by decide)) (by decide) (j := 60) (hl.r (k := 45) (f := 19) (by decide) (by decide)) ?_
  refine Z.iload_n B dX12_isWordAt_14 (x := nI 5) rfl ?_
  refine Z.iald (σ := (mS σ a t w r)) B dX12_isWordAt_15 (n := 26) (hl.n (k := 60) (by decide)) (hl.k (k := 60) (by decide)) (hl.l (k := 60) (by decide)) (by decide) (j := 5) rfl (by decide) (v := nI 32) (wds_at ht (j := 5) (by decide)) ?_
  refine Z.if_neN B dX12_isWordAt_16 (tgt := 23) rfl (by omega) (fun h16 => ?_) (fun h16 => by exfalso; first | omega | contradiction | simp_all)
  refine Z.iconst B dX12_isWordAt_23 (v := nI 0) rfl ?_
  refine Z.iaddv B dX12_isWordAt_24 (v := nI 0) (by decide) ?_
  refine Z.istore_n B dX12_isWordAt_25 (by decide) (L' := [(0, .ref 45), (1, .int (nI 3)), (2, .int (nI 5)), (3, .int (nI 0))]) rfl ?_
  refine Z.iinc B dX12_isWordAt_26 (by decide) (x := nI 5) rfl (v := nI 6) (nI_inc 5) (L' := [(0, .ref 45), (1, .int (nI 3)), (2, .int (nI 6)), (3, .int (nI 0))]) rfl ?_
  refine Z.goto B dX12_isWordAt_29 (tgt := 4) rfl ?_
  refine Z.iload_n B dX12_isWordAt_4 (x := nI 0) rfl ?_
  refine Z.iload_n B dX12_isWordAt_5 (x := nI 3) rfl ?_
  refine Z.icmp_geN B dX12_isWordAt_6 (tgt := 32) rfl (by omega) (by omega) (fun h6 => by exfalso; first | omega | contradiction | simp_all) (fun h6 => ?_)
  refine Z.iload_n B dX12_isWordAt_9 (x := nI 0) rfl ?_
  refine Z.aload_n B dX12_isWordAt_10 (v := .ref 45) rfl rfl ?_
  refine Z.getR (σ := (mS σ a t w r)) B fX12_60_12 dX12_isWordAt_11 (hl.n (k := 45) (by decide)) (hl.k (k := 45) (by decide)) (by decide) (j := 60) (hl.r (k := 45) (f := 19) (by decide) (by decide)) ?_
  refine Z.iload_n B dX12_isWordAt_14 (x := nI 6) rfl ?_
  refine Z.iald (σ := (mS σ a t w r)) B dX12_isWordAt_15 (n := 26) (hl.n (k := 60) (by decide)) (hl.k (k := 60) (by decide)) (hl.l (k := 60) (by decide)) (by decide) (j := 6) rfl (by decide) (v := nI 0) (wds_at ht (j := 6) (by decide)) ?_
  refine Z.if_neN B dX12_isWordAt_16 (tgt := 23) rfl (by omega) (fun h16 => by exfalso; first | omega | contradiction | simp_all) (fun h16 => ?_)
  refine Z.iconst B dX12_isWordAt_19 (v := nI 1) rfl ?_
  refine Z.goto B dX12_isWordAt_20 (tgt := 24) rfl ?_
  refine Z.iaddv B dX12_isWordAt_24 (v := nI 1) (by decide) ?_
  refine Z.istore_n B dX12_isWordAt_25 (by decide) (L' := [(0, .ref 45), (1, .int (nI 3)), (2, .int (nI 6)), (3, .int (nI 1))]) rfl ?_
  refine Z.iinc B dX12_isWordAt_26 (by decide) (x := nI 6) rfl (v := nI 7) (nI_inc 6) (L' := [(0, .ref 45), (1, .int (nI 3)), (2, .int (nI 7)), (3, .int (nI 1))]) rfl ?_
  refine Z.goto B dX12_isWordAt_29 (tgt := 4) rfl ?_
  refine Z.iload_n B dX12_isWordAt_4 (x := nI 1) rfl ?_
  refine Z.iload_n B dX12_isWordAt_5 (x := nI 3) rfl ?_
  refine Z.icmp_geN B dX12_isWordAt_6 (tgt := 32) rfl (by omega) (by omega) (fun h6 => by exfalso; first | omega | contradiction | simp_all) (fun h6 => ?_)
  refine Z.iload_n B dX12_isWordAt_9 (x := nI 1) rfl ?_
  refine Z.aload_n B dX12_isWordAt_10 (v := .ref 45) rfl rfl ?_
  refine Z.getR (σ := (mS σ a t w r)) B fX12_60_12 dX12_isWordAt_11 (hl.n (k := 45) (by decide)) (hl.k (k := 45) (by decide)) (by decide) (j := 60) (hl.r (k := 45) (f := 19) (by decide) (by decide)) ?_
  refine Z.iload_n B dX12_isWordAt_14 (x := nI 7) rfl ?_
  refine Z.iald (σ := (mS σ a t w r)) B dX12_isWordAt_15 (n := 26) (hl.n (k := 60) (by decide)) (hl.k (k := 60) (by decide)) (hl.l (k := 60) (by decide)) (by decide) (j := 7) rfl (by decide) (v := nI 97) (wds_at ht (j := 7) (by decide)) ?_
  refine Z.if_neN B dX12_isWordAt_16 (tgt := 23) rfl (by omega) (fun h16 => ?_) (fun h16 => by exfalso; first | omega | contradiction | simp_all)
  refine Z.iconst B dX12_isWordAt_23 (v := nI 0) rfl ?_
  refine Z.iaddv B dX12_isWordAt_24 (v := nI 1) (by decide) ?_
  refine Z.istore_n B dX12_isWordAt_25 (by decide) (L' := [(0, .ref 45), (1, .int (nI 3)), (2, .int (nI 7)), (3, .int (nI 1))]) rfl ?_
  refine Z.iinc B dX12_isWordAt_26 (by decide) (x := nI 7) rfl (v := nI 8) (nI_inc 7) (L' := [(0, .ref 45), (1, .int (nI 3)), (2, .int (nI 8)), (3, .int (nI 1))]) rfl ?_
  refine Z.goto B dX12_isWordAt_29 (tgt := 4) rfl ?_
  refine Z.iload_n B dX12_isWordAt_4 (x := nI 1) rfl ?_
  refine Z.iload_n B dX12_isWordAt_5 (x := nI 3) rfl ?_
  refine Z.icmp_geN B dX12_isWordAt_6 (tgt := 32) rfl (by omega) (by omega) (fun h6 => by exfalso; first | omega | contradiction | simp_all) (fun h6 => ?_)
  refine Z.iload_n B dX12_isWordAt_9 (x := nI 1) rfl ?_
  refine Z.aload_n B dX12_isWordAt_10 (v := .ref 45) rfl rfl ?_
  refine Z.getR (σ := (mS σ a t w r)) B fX12_60_12 dX12_isWordAt_11 (hl.n (k := 45) (by decide)) (hl.k (k := 45) (by decide)) (by decide) (j := 60) (hl.r (k := 45) (f := 19) (by decide) (by decide)) ?_
  refine Z.iload_n B dX12_isWordAt_14 (x := nI 8) rfl ?_
  refine Z.iald (σ := (mS σ a t w r)) B dX12_isWordAt_15 (n := 26) (hl.n (k := 60) (by decide)) (hl.k (k := 60) (by decide)) (hl.l (k := 60) (by decide)) (by decide) (j := 8) rfl (by decide) (v := nI 115) (wds_at ht (j := 8) (by decide)) ?_
  refine Z.if_neN B dX12_isWordAt_16 (tgt := 23) rfl (by omega) (fun h16 => ?_) (fun h16 => by exfalso; first | omega | contradiction | simp_all)
  refine Z.iconst B dX12_isWordAt_23 (v := nI 0) rfl ?_
  refine Z.iaddv B dX12_isWordAt_24 (v := nI 1) (by decide) ?_
  refine Z.istore_n B dX12_isWordAt_25 (by decide) (L' := [(0, .ref 45), (1, .int (nI 3)), (2, .int (nI 8)), (3, .int (nI 1))]) rfl ?_
  refine Z.iinc B dX12_isWordAt_26 (by decide) (x := nI 8) rfl (v := nI 9) (nI_inc 8) (L' := [(0, .ref 45), (1, .int (nI 3)), (2, .int (nI 9)), (3, .int (nI 1))]) rfl ?_
  refine Z.goto B dX12_isWordAt_29 (tgt := 4) rfl ?_
  refine Z.iload_n B dX12_isWordAt_4 (x := nI 1) rfl ?_
  refine Z.iload_n B dX12_isWordAt_5 (x := nI 3) rfl ?_
  refine Z.icmp_geN B dX12_isWordAt_6 (tgt := 32) rfl (by omega) (by omega) (fun h6 => by exfalso; first | omega | contradiction | simp_all) (fun h6 => ?_)
  refine Z.iload_n B dX12_isWordAt_9 (x := nI 1) rfl ?_
  refine Z.aload_n B dX12_isWordAt_10 (v := .ref 45) rfl rfl ?_
  refine Z.getR (σ := (mS σ a t w r)) B fX12_60_12 dX12_isWordAt_11 (hl.n (k := 45) (by decide)) (hl.k (k := 45) (by decide)) (by decide) (j := 60) (hl.r (k := 45) (f := 19) (by decide) (by decide)) ?_
  refine Z.iload_n B dX12_isWordAt_14 (x := nI 9) rfl ?_
  refine Z.iald (σ := (mS σ a t w r)) B dX12_isWordAt_15 (n := 26) (hl.n (k := 60) (by decide)) (hl.k (k := 60) (by decide)) (hl.l (k := 60) (by decide)) (by decide) (j := 9) rfl (by decide) (v := nI 107) (wds_at ht (j := 9) (by decide)) ?_
  refine Z.if_neN B dX12_isWordAt_16 (tgt := 23) rfl (by omega) (fun h16 => ?_) (fun h16 => by exfalso; first | omega | contradiction | simp_all)
  refine Z.iconst B dX12_isWordAt_23 (v := nI 0) rfl ?_
  refine Z.iaddv B dX12_isWordAt_24 (v := nI 1) (by decide) ?_
  refine Z.istore_n B dX12_isWordAt_25 (by decide) (L' := [(0, .ref 45), (1, .int (nI 3)), (2, .int (nI 9)), (3, .int (nI 1))]) rfl ?_
  refine Z.iinc B dX12_isWordAt_26 (by decide) (x := nI 9) rfl (v := nI 10) (nI_inc 9) (L' := [(0, .ref 45), (1, .int (nI 3)), (2, .int (nI 10)), (3, .int (nI 1))]) rfl ?_
  refine Z.goto B dX12_isWordAt_29 (tgt := 4) rfl ?_
  refine Z.iload_n B dX12_isWordAt_4 (x := nI 1) rfl ?_
  refine Z.iload_n B dX12_isWordAt_5 (x := nI 3) rfl ?_
  refine Z.icmp_geN B dX12_isWordAt_6 (tgt := 32) rfl (by omega) (by omega) (fun h6 => by exfalso; first | omega | contradiction | simp_all) (fun h6 => ?_)
  refine Z.iload_n B dX12_isWordAt_9 (x := nI 1) rfl ?_
  refine Z.aload_n B dX12_isWordAt_10 (v := .ref 45) rfl rfl ?_
  refine Z.getR (σ := (mS σ a t w r)) B fX12_60_12 dX12_isWordAt_11 (hl.n (k := 45) (by decide)) (hl.k (k := 45) (by decide)) (by decide) (j := 60) (hl.r (k := 45) (f := 19) (by decide) (by decide)) ?_
  refine Z.iload_n B dX12_isWordAt_14 (x := nI 10) rfl ?_
  refine Z.iald (σ := (mS σ a t w r)) B dX12_isWordAt_15 (n := 26) (hl.n (k := 60) (by decide)) (hl.k (k := 60) (by decide)) (hl.l (k := 60) (by decide)) (by decide) (j := 10) rfl (by decide) (v := nI 101) (wds_at ht (j := 10) (by decide)) ?_
  refine Z.if_neN B dX12_isWordAt_16 (tgt := 23) rfl (by omega) (fun h16 => ?_) (fun h16 => by exfalso; first | omega | contradiction | simp_all)
  refine Z.iconst B dX12_isWordAt_23 (v := nI 0) rfl ?_
  refine Z.iaddv B dX12_isWordAt_24 (v := nI 1) (by decide) ?_
  refine Z.istore_n B dX12_isWordAt_25 (by decide) (L' := [(0, .ref 45), (1, .int (nI 3)), (2, .int (nI 10)), (3, .int (nI 1))]) rfl ?_
  refine Z.iinc B dX12_isWordAt_26 (by decide) (x := nI 10) rfl (v := nI 11) (nI_inc 10) (L' := [(0, .ref 45), (1, .int (nI 3)), (2, .int (nI 11)), (3, .int (nI 1))]) rfl ?_
  refine Z.goto B dX12_isWordAt_29 (tgt := 4) rfl ?_
  refine Z.iload_n B dX12_isWordAt_4 (x := nI 1) rfl ?_
  refine Z.iload_n B dX12_isWordAt_5 (x := nI 3) rfl ?_
  refine Z.icmp_geN B dX12_isWordAt_6 (tgt := 32) rfl (by omega) (by omega) (fun h6 => by exfalso; first | omega | contradiction | simp_all) (fun h6 => ?_)
  refine Z.iload_n B dX12_isWordAt_9 (x := nI 1) rfl ?_
  refine Z.aload_n B dX12_isWordAt_10 (v := .ref 45) rfl rfl ?_
  refine Z.getR (σ := (mS σ a t w r)) B fX12_60_12 dX12_isWordAt_11 (hl.n (k := 45) (by decide)) (hl.k (k := 45) (by decide)) (by decide) (j := 60) (hl.r (k := 45) (f := 19) (by decide) (by decide)) ?_
  refine Z.iload_n B dX12_isWordAt_14 (x := nI 11) rfl ?_
  refine Z.iald (σ := (mS σ a t w r)) B dX12_isWordAt_15 (n := 26) (hl.n (k := 60) (by decide)) (hl.k (k := 60) (by decide)) (hl.l (k := 60) (by decide)) (by decide) (j := 11) rfl (by decide) (v := nI 114) (wds_at ht (j := 11) (by decide)) ?_
  refine Z.if_neN B dX12_isWordAt_16 (tgt := 23) rfl (by omega) (fun h16 => ?_) (fun h16 => by exfalso; first | omega | contradiction | simp_all)
  refine Z.iconst B dX12_isWordAt_23 (v := nI 0) rfl ?_
  refine Z.iaddv B dX12_isWordAt_24 (v := nI 1) (by decide) ?_
  refine Z.istore_n B dX12_isWordAt_25 (by decide) (L' := [(0, .ref 45), (1, .int (nI 3)), (2, .int (nI 11)), (3, .int (nI 1))]) rfl ?_
  refine Z.iinc B dX12_isWordAt_26 (by decide) (x := nI 11) rfl (v := nI 12) (nI_inc 11) (L' := [(0, .ref 45), (1, .int (nI 3)), (2, .int (nI 12)), (3, .int (nI 1))]) rfl ?_
  refine Z.goto B dX12_isWordAt_29 (tgt := 4) rfl ?_
  refine Z.iload_n B dX12_isWordAt_4 (x := nI 1) rfl ?_
  refine Z.iload_n B dX12_isWordAt_5 (x := nI 3) rfl ?_
  refine Z.icmp_geN B dX12_isWordAt_6 (tgt := 32) rfl (by omega) (by omega) (fun h6 => by exfalso; first | omega | contradiction | simp_all) (fun h6 => ?_)
  refine Z.iload_n B dX12_isWordAt_9 (x := nI 1) rfl ?_
  refine Z.aload_n B dX12_isWordAt_10 (v := .ref 45) rfl rfl ?_
  refine Z.getR (σ := (mS σ a t w r)) B fX12_60_12 dX12_isWordAt_11 (hl.n (k := 45) (by decide)) (hl.k (k := 45) (by decide)) (by decide) (j := 60) (hl.r (k := 45) (f := 19) (by decide) (by decide)) ?_
  refine Z.iload_n B dX12_isWordAt_14 (x := nI 12) rfl ?_
  refine Z.iald (σ := (mS σ a t w r)) B dX12_isWordAt_15 (n := 26) (hl.n (k := 60) (by decide)) (hl.k (k := 60) (by decide)) (hl.l (k := 60) (by decide)) (by decide) (j := 12) rfl (by decide) (v := nI 32) (wds_at ht (j := 12) (by decide)) ?_
  refine Z.if_neN B dX12_isWordAt_16 (tgt := 23) rfl (by omega) (fun h16 => ?_) (fun h16 => by exfalso; first | omega | contradiction | simp_all)
  refine Z.iconst B dX12_isWordAt_23 (v := nI 0) rfl ?_
  refine Z.iaddv B dX12_isWordAt_24 (v := nI 1) (by decide) ?_
  refine Z.istore_n B dX12_isWordAt_25 (by decide) (L' := [(0, .ref 45), (1, .int (nI 3)), (2, .int (nI 12)), (3, .int (nI 1))]) rfl ?_
  refine Z.iinc B dX12_isWordAt_26 (by decide) (x := nI 12) rfl (v := nI 13) (nI_inc 12) (L' := [(0, .ref 45), (1, .int (nI 3)), (2, .int (nI 13)), (3, .int (nI 1))]) rfl ?_
  refine Z.goto B dX12_isWordAt_29 (tgt := 4) rfl ?_
  refine Z.iload_n B dX12_isWordAt_4 (x := nI 1) rfl ?_
  refine Z.iload_n B dX12_isWordAt_5 (x := nI 3) rfl ?_
  refine Z.icmp_geN B dX12_isWordAt_6 (tgt := 32) rfl (by omega) (by omega) (fun h6 => by exfalso; first | omega | contradiction | simp_all) (fun h6 => ?_)
  refine Z.iload_n B dX12_isWordAt_9 (x := nI 1) rfl ?_
  refine Z.aload_n B dX12_isWordAt_10 (v := .ref 45) rfl rfl ?_
  refine Z.getR (σ := (mS σ a t w r)) B fX12_60_12 dX12_isWordAt_11 (hl.n (k := 45) (by decide)) (hl.k (k := 45) (by decide)) (by decide) (j := 60) (hl.r (k := 45) (f := 19) (by decide) (by decide)) ?_
  refine Z.iload_n B dX12_isWordAt_14 (x := nI 13) rfl ?_
  refine Z.iald (σ := (mS σ a t w r)) B dX12_isWordAt_15 (n := 26) (hl.n (k := 60) (by decide)) (hl.k (k := 60) (by decide)) (hl.l (k := 60) (by decide)) (by decide) (j := 13) rfl (by decide) (v := nI 0) (wds_at ht (j := 13) (by decide)) ?_
  refine Z.if_neN B dX12_isWordAt_16 (tgt := 23) rfl (by omega) (fun h16 => by exfalso; first | omega | contradiction | simp_all) (fun h16 => ?_)
  refine Z.iconst B dX12_isWordAt_19 (v := nI 1) rfl ?_
  refine Z.goto B dX12_isWordAt_20 (tgt := 24) rfl ?_
  refine Z.iaddv B dX12_isWordAt_24 (v := nI 2) (by decide) ?_
  refine Z.istore_n B dX12_isWordAt_25 (by decide) (L' := [(0, .ref 45), (1, .int (nI 3)), (2, .int (nI 13)), (3, .int (nI 2))]) rfl ?_
  refine Z.iinc B dX12_isWordAt_26 (by decide) (x := nI 13) rfl (v := nI 14) (nI_inc 13) (L' := [(0, .ref 45), (1, .int (nI 3)), (2, .int (nI 14)), (3, .int (nI 2))]) rfl ?_
  refine Z.goto B dX12_isWordAt_29 (tgt := 4) rfl ?_
  refine Z.iload_n B dX12_isWordAt_4 (x := nI 2) rfl ?_
  refine Z.iload_n B dX12_isWordAt_5 (x := nI 3) rfl ?_
  refine Z.icmp_geN B dX12_isWordAt_6 (tgt := 32) rfl (by omega) (by omega) (fun h6 => by exfalso; first | omega | contradiction | simp_all) (fun h6 => ?_)
  refine Z.iload_n B dX12_isWordAt_9 (x := nI 2) rfl ?_
  refine Z.aload_n B dX12_isWordAt_10 (v := .ref 45) rfl rfl ?_
  refine Z.getR (σ := (mS σ a t w r)) B fX12_60_12 dX12_isWordAt_11 (hl.n (k := 45) (by decide)) (hl.k (k := 45) (by decide)) (by decide) (j := 60) (hl.r (k := 45) (f := 19) (by decide) (by decide)) ?_
  refine Z.iload_n B dX12_isWordAt_14 (x := nI 14) rfl ?_
  refine Z.iald (σ := (mS σ a t w r)) B dX12_isWordAt_15 (n := 26) (hl.n (k := 60) (by decide)) (hl.k (k := 60) (by decide)) (hl.l (k := 60) (by decide)) (by decide) (j := 14) rfl (by decide) (v := nI 119) (wds_at ht (j := 14) (by decide)) ?_
  refine Z.if_neN B dX12_isWordAt_16 (tgt := 23) rfl (by omega) (fun h16 => ?_) (fun h16 => by exfalso; first | omega | contradiction | simp_all)
  refine Z.iconst B dX12_isWordAt_23 (v := nI 0) rfl ?_
  refine Z.iaddv B dX12_isWordAt_24 (v := nI 2) (by decide) ?_
  refine Z.istore_n B dX12_isWordAt_25 (by decide) (L' := [(0, .ref 45), (1, .int (nI 3)), (2, .int (nI 14)), (3, .int (nI 2))]) rfl ?_
  refine Z.iinc B dX12_isWordAt_26 (by decide) (x := nI 14) rfl (v := nI 15) (nI_inc 14) (L' := [(0, .ref 45), (1, .int (nI 3)), (2, .int (nI 15)), (3, .int (nI 2))]) rfl ?_
  refine Z.goto B dX12_isWordAt_29 (tgt := 4) rfl ?_
  refine Z.iload_n B dX12_isWordAt_4 (x := nI 2) rfl ?_
  refine Z.iload_n B dX12_isWordAt_5 (x := nI 3) rfl ?_
  refine Z.icmp_geN B dX12_isWordAt_6 (tgt := 32) rfl (by omega) (by omega) (fun h6 => by exfalso; first | omega | contradiction | simp_all) (fun h6 => ?_)
  refine Z.iload_n B dX12_isWordAt_9 (x := nI 2) rfl ?_
  refine Z.aload_n B dX12_isWordAt_10 (v := .ref 45) rfl rfl ?_
  refine Z.getR (σ := (mS σ a t w r)) B fX12_60_12 dX12_isWordAt_11 (hl.n (k := 45) (by decide)) (hl.k (k := 45) (by decide)) (by decide) (j := 60) (hl.r (k := 45) (f := 19) (by decide) (by decide)) ?_
  refine Z.iload_n B dX12_isWordAt_14 (x := nI 15) rfl ?_
  refine Z.iald (σ := (mS σ a t w r)) B dX12_isWordAt_15 (n := 26) (hl.n (k := 60) (by decide)) (hl.k (k := 60) (by decide)) (hl.l (k := 60) (by decide)) (by decide) (j := 15) rfl (by decide) (v := nI 97) (wds_at ht (j := 15) (by decide)) ?_
  refine Z.if_neN B dX12_isWordAt_16 (tgt := 23) rfl (by omega) (fun h16 => ?_) (fun h16 => by exfalso; first | omega | contradiction | simp_all)
  refine Z.iconst B dX12_isWordAt_23 (v := nI 0) rfl ?_
  refine Z.iaddv B dX12_isWordAt_24 (v := nI 2) (by decide) ?_
  refine Z.istore_n B dX12_isWordAt_25 (by decide) (L' := [(0, .ref 45), (1, .int (nI 3)), (2, .int (nI 15)), (3, .int (nI 2))]) rfl ?_
  refine Z.iinc B dX12_isWordAt_26 (by decide) (x := nI 15) rfl (v := nI 16) (nI_inc 15) (L' := [(0, .ref 45), (1, .int (nI 3)), (2, .int (nI 16)), (3, .int (nI 2))]) rfl ?_
  refine Z.goto B dX12_isWordAt_29 (tgt := 4) rfl ?_
  refine Z.iload_n B dX12_isWordAt_4 (x := nI 2) rfl ?_
  refine Z.iload_n B dX12_isWordAt_5 (x := nI 3) rfl ?_
  refine Z.icmp_geN B dX12_isWordAt_6 (tgt := 32) rfl (by omega) (by omega) (fun h6 => by exfalso; first | omega | contradiction | simp_all) (fun h6 => ?_)
  refine Z.iload_n B dX12_isWordAt_9 (x := nI 2) rfl ?_
  refine Z.aload_n B dX12_isWordAt_10 (v := .ref 45) rfl rfl ?_
  refine Z.getR (σ := (mS σ a t w r)) B fX12_60_12 dX12_isWordAt_11 (hl.n (k := 45) (by decide)) (hl.k (k := 45) (by decide)) (by decide) (j := 60) (hl.r (k := 45) (f := 19) (by decide) (by decide)) ?_
  refine Z.iload_n B dX12_isWordAt_14 (x := nI 16) rfl ?_
  refine Z.iald (σ := (mS σ a t w r)) B dX12_isWordAt_15 (n := 26) (hl.n (k := 60) (by decide)) (hl.k (k := 60) (by decide)) (hl.l (k := 60) (by decide)) (by decide) (j := 16) rfl (by decide) (v := nI 121) (wds_at ht (j := 16) (by decide)) ?_
  refine Z.if_neN B dX12_isWordAt_16 (tgt := 23) rfl (by omega) (fun h16 => ?_) (fun h16 => by exfalso; first | omega | contradiction | simp_all)
  refine Z.iconst B dX12_isWordAt_23 (v := nI 0) rfl ?_
  refine Z.iaddv B dX12_isWordAt_24 (v := nI 2) (by decide) ?_
  refine Z.istore_n B dX12_isWordAt_25 (by decide) (L' := [(0, .ref 45), (1, .int (nI 3)), (2, .int (nI 16)), (3, .int (nI 2))]) rfl ?_
  refine Z.iinc B dX12_isWordAt_26 (by decide) (x := nI 16) rfl (v := nI 17) (nI_inc 16) (L' := [(0, .ref 45), (1, .int (nI 3)), (2, .int (nI 17)), (3, .int (nI 2))]) rfl ?_
  refine Z.goto B dX12_isWordAt_29 (tgt := 4) rfl ?_
  refine Z.iload_n B dX12_isWordAt_4 (x := nI 2) rfl ?_
  refine Z.iload_n B dX12_isWordAt_5 (x := nI 3) rfl ?_
  refine Z.icmp_geN B dX12_isWordAt_6 (tgt := 32) rfl (by omega) (by omega) (fun h6 => by exfalso; first | omega | contradiction | simp_all) (fun h6 => ?_)
  refine Z.iload_n B dX12_isWordAt_9 (x := nI 2) rfl ?_
  refine Z.aload_n B dX12_isWordAt_10 (v := .ref 45) rfl rfl ?_
  refine Z.getR (σ := (mS σ a t w r)) B fX12_60_12 dX12_isWordAt_11 (hl.n (k := 45) (by decide)) (hl.k (k := 45) (by decide)) (by decide) (j := 60) (hl.r (k := 45) (f := 19) (by decide) (by decide)) ?_
  refine Z.iload_n B dX12_isWordAt_14 (x := nI 17) rfl ?_
  refine Z.iald (σ := (mS σ a t w r)) B dX12_isWordAt_15 (n := 26) (hl.n (k := 60) (by decide)) (hl.k (k := 60) (by decide)) (hl.l (k := 60) (by decide)) (by decide) (j := 17) rfl (by decide) (v := nI 32) (wds_at ht (j := 17) (by decide)) ?_
  refine Z.if_neN B dX12_isWordAt_16 (tgt := 23) rfl (by omega) (fun h16 => ?_) (fun h16 => by exfalso; first | omega | contradiction | simp_all)
  refine Z.iconst B dX12_isWordAt_23 (v := nI 0) rfl ?_
  refine Z.iaddv B dX12_isWordAt_24 (v := nI 2) (by decide) ?_
  refine Z.istore_n B dX12_isWordAt_25 (by decide) (L' := [(0, .ref 45), (1, .int (nI 3)), (2, .int (nI 17)), (3, .int (nI 2))]) rfl ?_
  refine Z.iinc B dX12_isWordAt_26 (by decide) (x := nI 17) rfl (v := nI 18) (nI_inc 17) (L' := [(0, .ref 45), (1, .int (nI 3)), (2, .int (nI 18)), (3, .int (nI 2))]) rfl ?_
  refine Z.goto B dX12_isWordAt_29 (tgt := 4) rfl ?_
  refine Z.iload_n B dX12_isWordAt_4 (x := nI 2) rfl ?_
  refine Z.iload_n B dX12_isWordAt_5 (x := nI 3) rfl ?_
  refine Z.icmp_geN B dX12_isWordAt_6 (tgt := 32) rfl (by omega) (by omega) (fun h6 => by exfalso; first | omega | contradiction | simp_all) (fun h6 => ?_)
  refine Z.iload_n B dX12_isWordAt_9 (x := nI 2) rfl ?_
  refine Z.aload_n B dX12_isWordAt_10 (v := .ref 45) rfl rfl ?_
  refine Z.getR (σ := (mS σ a t w r)) B fX12_60_12 dX12_isWordAt_11 (hl.n (k := 45) (by decide)) (hl.k (k := 45) (by decide)) (by decide) (j := 60) (hl.r (k := 45) (f := 19) (by decide) (by decide)) ?_
  refine Z.iload_n B dX12_isWordAt_14 (x := nI 18) rfl ?_
  refine Z.iald (σ := (mS σ a t w r)) B dX12_isWordAt_15 (n := 26) (hl.n (k := 60) (by decide)) (hl.k (k := 60) (by decide)) (hl.l (k := 60) (by decide)) (by decide) (j := 18) rfl (by decide) (v := nI 0) (wds_at ht (j := 18) (by decide)) ?_
  refine Z.if_neN B dX12_isWordAt_16 (tgt := 23) rfl (by omega) (fun h16 => by exfalso; first | omega | contradiction | simp_all) (fun h16 => ?_)
  refine Z.iconst B dX12_isWordAt_19 (v := nI 1) rfl ?_
  refine Z.goto B dX12_isWordAt_20 (tgt := 24) rfl ?_
  refine Z.iaddv B dX12_isWordAt_24 (v := nI 3) (by decide) ?_
  refine Z.istore_n B dX12_isWordAt_25 (by decide) (L' := [(0, .ref 45), (1, .int (nI 3)), (2, .int (nI 18)), (3, .int (nI 3))]) rfl ?_
  refine Z.iinc B dX12_isWordAt_26 (by decide) (x := nI 18) rfl (v := nI 19) (nI_inc 18) (L' := [(0, .ref 45), (1, .int (nI 3)), (2, .int (nI 19)), (3, .int (nI 3))]) rfl ?_
  refine Z.goto B dX12_isWordAt_29 (tgt := 4) rfl ?_
  refine Z.iload_n B dX12_isWordAt_4 (x := nI 3) rfl ?_
  refine Z.iload_n B dX12_isWordAt_5 (x := nI 3) rfl ?_
  refine Z.icmp_geN B dX12_isWordAt_6 (tgt := 32) rfl (by omega) (by omega) (fun h6 => ?_) (fun h6 => by exfalso; first | omega | contradiction | simp_all)
  refine Z.aload_n B dX12_isWordAt_32 (v := .ref 45) rfl rfl ?_
  refine Z.getI (σ := (mS σ a t w r)) B fX12_141_12 dX12_isWordAt_33 (hl.n (k := 45) (by decide)) (hl.k (k := 45) (by decide)) (by decide) (v := nI a) mS_a ?_
  refine Z.istore_n B dX12_isWordAt_36 (by decide) (L' := [(0, .ref 45), (1, .int (nI 3)), (2, .int (nI 19)), (3, .int (nI a))]) rfl ?_
  have hloop37 : ∀ k : Nat, k ≤ al T a 3 → Z κ 0 0 (mS σ a t w r) 37 [(0, .ref 45), (1, .int (nI 3)), (2, .int (nI (19 + k))), (3, .int (nI (a + k)))] [] := by
    refine z_loop (fun k => 5 - k) (fun k ih hk => ?_)
    have hA1 : al T a 3 ≤ 5 := (al_s (T := T) (a := a) (w := 3)).1
    have hz : wds (19 + k) ≤ 32 ↔ k = 5 := wds_S 3 (by decide) k (by show k ≤ 5; omega)
    have hzl : wds (19 + k) < 2 ^ 31 := wds_lt _ (by omega)
    refine Z.aload_n B dX12_isWordAt_37 (v := .ref 45) rfl rfl ?_
    refine Z.getR (σ := (mS σ a t w r)) B fX12_60_12 dX12_isWordAt_38 (hl.n (k := 45) (by decide)) (hl.k (k := 45) (by decide)) (by decide) (j := 60) (hl.r (k := 45) (f := 19) (by decide) (by decide)) ?_
    refine Z.iload_n B dX12_isWordAt_41 (x := nI (19 + k)) rfl ?_
    refine Z.iald (σ := (mS σ a t w r)) B dX12_isWordAt_42 (n := 26) (hl.n (k := 60) (by decide)) (hl.k (k := 60) (by decide)) (hl.l (k := 60) (by decide)) (by decide) (j := 19 + k) rfl (by omega) (v := nI (wds (19 + k))) (wds_at ht (by omega)) ?_
    refine Z.bipush B dX12_isWordAt_43 (v := nI 32) rfl ?_
    refine Z.icmp_leN B dX12_isWordAt_45 (tgt := 86) rfl (by omega) (by omega) (fun h45 => (by have := hz.mp h45; omega)) (fun h45 => ?_)
    refine Z.iload_n B dX12_isWordAt_48 (x := nI (a + k)) rfl ?_
    refine Z.aload_n B dX12_isWordAt_49 (v := .ref 45) rfl rfl ?_
    refine Z.getI (σ := (mS σ a t w r)) B fX12_144_12 dX12_isWordAt_50 (hl.n (k := 45) (by decide)) (hl.k (k := 45) (by decide)) (by decide) (v := nI m) ((mS_f (by decide) (by decide) (by decide)).trans hen) ?_
    refine Z.icmp_geN B dX12_isWordAt_53 (tgt := 86) rfl (by omega) (by omega) (fun h53 => ?_) (fun h53 => ?_)
    · skip
      refine Z.aload_n B dX12_isWordAt_86 (v := .ref 45) rfl rfl ?_
      refine Z.getR (σ := (mS σ a t w r)) B fX12_60_12 dX12_isWordAt_87 (hl.n (k := 45) (by decide)) (hl.k (k := 45) (by decide)) (by decide) (j := 60) (hl.r (k := 45) (f := 19) (by decide) (by decide)) ?_
      refine Z.iload_n B dX12_isWordAt_90 (x := nI (19 + k)) rfl ?_
      refine Z.iald (σ := (mS σ a t w r)) B dX12_isWordAt_91 (n := 26) (hl.n (k := 60) (by decide)) (hl.k (k := 60) (by decide)) (hl.l (k := 60) (by decide)) (by decide) (j := 19 + k) rfl (by omega) (v := nI (wds (19 + k))) (wds_at ht (by omega)) ?_
      refine Z.bipush B dX12_isWordAt_92 (v := nI 32) rfl ?_
      refine Z.icmp_gtN B dX12_isWordAt_94 (tgt := 101) rfl (by omega) (by omega) (fun h94 => ?_) (fun h94 => (by omega))
      refine Z.iconst B dX12_isWordAt_101 (v := nI 0) rfl ?_
      refine Z.iret B Rt dX12_isWordAt_102 (ty := .boolean) rfl rfl (by decide) (by decide) ?_
      exact ⟨rfl, rfl⟩
    · skip
      refine Z.aload_n B dX12_isWordAt_56 (v := .ref 45) rfl rfl ?_
      refine Z.getR (σ := (mS σ a t w r)) B fX12_53_12 dX12_isWordAt_57 (hl.n (k := 45) (by decide)) (hl.k (k := 45) (by decide)) (by decide) (j := 58) (hl.r (k := 45) (f := 17) (by decide) (by decide)) ?_
      refine Z.aload_n B dX12_isWordAt_60 (v := .ref 45) rfl rfl ?_
      refine Z.getI (σ := (mS σ a t w r)) B fX12_147_12 dX12_isWordAt_61 (hl.n (k := 45) (by decide)) (hl.k (k := 45) (by decide)) (by decide) (v := nI (s * 160)) ((mS_f (by decide) (by decide) (by decide)).trans hbs) ?_
      refine Z.iload_n B dX12_isWordAt_64 (x := nI (a + k)) rfl ?_
      refine Z.iaddN B dX12_isWordAt_65 (a := s * 160) (b := a + k) ?_
      refine Z.lald (σ := (mS σ a t w r)) B dX12_isWordAt_66 (n := 1280) (hl.n (k := 58) (by decide)) (hl.k (k := 58) (by decide)) (hl.l (k := 58) (by decide)) (by decide) (j := (s * 160) + (a + k)) rfl (by omega) (v := (zY (mS σ a t w r) 58 ((s * 160) + (a + k)))) rfl ?_
      refine Z.l2i B dX12_isWordAt_67 ?_
      refine Z.eqS (st' := [.int (T (a + k))]) (congrArg (fun z => Value.int z :: _) (ht.t (i := a + k) (by omega))) ?_
      refine Z.aload_n B dX12_isWordAt_68 (v := .ref 45) rfl rfl ?_
      refine Z.getR (σ := (mS σ a t w r)) B fX12_60_12 dX12_isWordAt_69 (hl.n (k := 45) (by decide)) (hl.k (k := 45) (by decide)) (by decide) (j := 60) (hl.r (k := 45) (f := 19) (by decide) (by decide)) ?_
      refine Z.iload_n B dX12_isWordAt_72 (x := nI (19 + k)) rfl ?_
      refine Z.iald (σ := (mS σ a t w r)) B dX12_isWordAt_73 (n := 26) (hl.n (k := 60) (by decide)) (hl.k (k := 60) (by decide)) (hl.l (k := 60) (by decide)) (by decide) (j := 19 + k) rfl (by omega) (v := nI (wds (19 + k))) (wds_at ht (by omega)) ?_
      refine Z.icmp_ne B dX12_isWordAt_74 (tgt := 86) rfl (fun h74 => ?_) (fun h74 => ?_)
      · skip
        refine Z.aload_n B dX12_isWordAt_86 (v := .ref 45) rfl rfl ?_
        refine Z.getR (σ := (mS σ a t w r)) B fX12_60_12 dX12_isWordAt_87 (hl.n (k := 45) (by decide)) (hl.k (k := 45) (by decide)) (by decide) (j := 60) (hl.r (k := 45) (f := 19) (by decide) (by decide)) ?_
        refine Z.iload_n B dX12_isWordAt_90 (x := nI (19 + k)) rfl ?_
        refine Z.iald (σ := (mS σ a t w r)) B dX12_isWordAt_91 (n := 26) (hl.n (k := 60) (by decide)) (hl.k (k := 60) (by decide)) (hl.l (k := 60) (by decide)) (by decide) (j := 19 + k) rfl (by omega) (v := nI (wds (19 + k))) (wds_at ht (by omega)) ?_
        refine Z.bipush B dX12_isWordAt_92 (v := nI 32) rfl ?_
        refine Z.icmp_gtN B dX12_isWordAt_94 (tgt := 101) rfl (by omega) (by omega) (fun h94 => ?_) (fun h94 => (by omega))
        refine Z.iconst B dX12_isWordAt_101 (v := nI 0) rfl ?_
        refine Z.iret B Rt dX12_isWordAt_102 (ty := .boolean) rfl rfl (by decide) (by decide) ?_
        exact ⟨rfl, rfl⟩
      · skip
        refine Z.iincN B dX12_isWordAt_77 (by decide) (a := a + k) rfl (L' := [(0, .ref 45), (1, .int (nI 3)), (2, .int (nI (19 + k))), (3, .int (nI (a + k + 1)))]) rfl ?_
        refine Z.iincN B dX12_isWordAt_80 (by decide) (a := 19 + k) rfl (L' := [(0, .ref 45), (1, .int (nI 3)), (2, .int (nI (19 + k + 1))), (3, .int (nI (a + k + 1)))]) rfl ?_
        refine Z.goto B dX12_isWordAt_83 (tgt := 37) rfl ?_
        have hk2 : k < al T a 3 := (by rcases Nat.lt_or_ge k (al T a 3) with h1 | h1; exact h1; exfalso; have e : k = al T a 3 := (by omega); have hA := (al_s (T := T) (a := a) (w := 3)).2.2 (by rw [← e]; show k < 5; omega); rw [← e] at hA; exact hA (by rw [← wds_L 3 (by decide) k (by show k < 5; omega)]; exact h74))
        exact ih (k + 1) (by omega) (by omega)
  exact hloop37 0 (Nat.zero_le _)

theorem wd_in_0 {κ : zCtx} (B : zB mX12_word κ) {σ : zSt} {t w : Int32} {r : Nat → Int32} (hl : Lay σ) {s m : Nat} {T : Nat → Int32} (ht : zTm σ s m T) {a : Nat} (ha : a < 2 ^ 30) {g : Nat} (kk : Z κ 0 0 (mS σ a t w r) 74 [(0, .ref 45), (1, .int (nI 0)), (2, .int (nI g)), (3, .int (nI 0)), (4, .int (nI (a + amW T a 0))), (5, .int (nI (0 + amW T a 0)))] []) : Z κ 0 0 (mS σ a t w r) 23 [(0, .ref 45), (1, .int (nI 0)), (2, .int (nI g)), (3, .int (nI 0)), (4, .int (nI a)), (5, .int (nI 0))] [] := by
  obtain ⟨⟨hs8, hm160⟩, ⟨hbs, hen⟩, hT, hwd⟩ := id ht
  have hloop23 : ∀ k : Nat, k ≤ amW T a 0 → Z κ 0 0 (mS σ a t w r) 23 [(0, .ref 45), (1, .int (nI 0)), (2, .int (nI g)), (3, .int (nI 0)), (4, .int (nI (a + k))), (5, .int (nI (0 + k)))] [] := by
    refine z_loop (fun k => 6 - k) (fun k ih hk => ?_)
    have hA1 : amW T a 0 ≤ 6 := (am_s (T := T) (a := a) (w := 0)).1
    have hz : wds (0 + k) = 0 ↔ k = 6 := wds_Z 0 (by decide) k (by show k ≤ 6; omega)
    have hzl : wds (0 + k) < 2 ^ 31 := wds_lt _ (by omega)
    refine Z.aload_n B dX12_word_23 (v := .ref 45) rfl rfl ?_
    refine Z.getR (σ := (mS σ a t w r)) B fX12_60_12 dX12_word_24 (hl.n (k := 45) (by decide)) (hl.k (k := 45) (by decide)) (by decide) (j := 60) (hl.r (k := 45) (f := 19) (by decide) (by decide)) ?_
    refine Z.iload B dX12_word_27 (x := nI (0 + k)) rfl ?_
    refine Z.iald (σ := (mS σ a t w r)) B dX12_word_29 (n := 26) (hl.n (k := 60) (by decide)) (hl.k (k := 60) (by decide)) (hl.l (k := 60) (by decide)) (by decide) (j := 0 + k) rfl (by omega) (v := nI (wds (0 + k))) (wds_at ht (by omega)) ?_
    refine Z.if_eqN B dX12_word_30 (tgt := 74) rfl (by omega) (fun h30 => ?_) (fun h30 => ?_)
    · skip
      have hke : k = amW T a 0 := (by have := hz.mp h30; omega)
      rw [← hke] at kk
      exact kk
    · skip
      refine Z.iload B dX12_word_33 (x := nI (a + k)) rfl ?_
      refine Z.aload_n B dX12_word_35 (v := .ref 45) rfl rfl ?_
      refine Z.getI (σ := (mS σ a t w r)) B fX12_144_12 dX12_word_36 (hl.n (k := 45) (by decide)) (hl.k (k := 45) (by decide)) (by decide) (v := nI m) ((mS_f (by decide) (by decide) (by decide)).trans hen) ?_
      refine Z.icmp_geN B dX12_word_39 (tgt := 74) rfl (by omega) (by omega) (fun h39 => ?_) (fun h39 => ?_)
      · skip
        have hke : k = amW T a 0 := (by rcases Nat.lt_or_ge k (amW T a 0) with h1 | h1; (exfalso; have h2 := (am_s (T := T) (a := a) (w := 0)).2.1 k h1; rw [ht.z (by omega)] at h2; have h3 := (nI_eq (by decide) (show wds (0 + k) < 2 ^ 31 from hzl)).mp h2; omega); omega)
        rw [← hke] at kk
        exact kk
      · skip
        refine Z.aload_n B dX12_word_42 (v := .ref 45) rfl rfl ?_
        refine Z.getR (σ := (mS σ a t w r)) B fX12_53_12 dX12_word_43 (hl.n (k := 45) (by decide)) (hl.k (k := 45) (by decide)) (by decide) (j := 58) (hl.r (k := 45) (f := 17) (by decide) (by decide)) ?_
        refine Z.aload_n B dX12_word_46 (v := .ref 45) rfl rfl ?_
        refine Z.getI (σ := (mS σ a t w r)) B fX12_147_12 dX12_word_47 (hl.n (k := 45) (by decide)) (hl.k (k := 45) (by decide)) (by decide) (v := nI (s * 160)) ((mS_f (by decide) (by decide) (by decide)).trans hbs) ?_
        refine Z.iload B dX12_word_50 (x := nI (a + k)) rfl ?_
        refine Z.iaddN B dX12_word_52 (a := s * 160) (b := a + k) ?_
        refine Z.lald (σ := (mS σ a t w r)) B dX12_word_53 (n := 1280) (hl.n (k := 58) (by decide)) (hl.k (k := 58) (by decide)) (hl.l (k := 58) (by decide)) (by decide) (j := (s * 160) + (a + k)) rfl (by omega) (v := (zY (mS σ a t w r) 58 ((s * 160) + (a + k)))) rfl ?_
        refine Z.l2i B dX12_word_54 ?_
        refine Z.eqS (st' := [.int (T (a + k))]) (congrArg (fun z => Value.int z :: _) (ht.t (i := a + k) (by omega))) ?_
        refine Z.aload_n B dX12_word_55 (v := .ref 45) rfl rfl ?_
        refine Z.getR (σ := (mS σ a t w r)) B fX12_60_12 dX12_word_56 (hl.n (k := 45) (by decide)) (hl.k (k := 45) (by decide)) (by decide) (j := 60) (hl.r (k := 45) (f := 19) (by decide) (by decide)) ?_
        refine Z.iload B dX12_word_59 (x := nI (0 + k)) rfl ?_
        refine Z.iald (σ := (mS σ a t w r)) B dX12_word_61 (n := 26) (hl.n (k := 60) (by decide)) (hl.k (k := 60) (by decide)) (hl.l (k := 60) (by decide)) (by decide) (j := 0 + k) rfl (by omega) (v := nI (wds (0 + k))) (wds_at ht (by omega)) ?_
        refine Z.icmp_ne B dX12_word_62 (tgt := 74) rfl (fun h62 => ?_) (fun h62 => ?_)
        · skip
          have hke : k = amW T a 0 := (by rcases Nat.lt_or_ge k (amW T a 0) with h1 | h1; exact absurd ((am_s (T := T) (a := a) (w := 0)).2.1 k h1) h62; omega)
          rw [← hke] at kk
          exact kk
        · skip
          refine Z.iincN B dX12_word_65 (by decide) (a := a + k) rfl (L' := [(0, .ref 45), (1, .int (nI 0)), (2, .int (nI g)), (3, .int (nI 0)), (4, .int (nI (a + k + 1))), (5, .int (nI (0 + k)))]) rfl ?_
          refine Z.iincN B dX12_word_68 (by decide) (a := 0 + k) rfl (L' := [(0, .ref 45), (1, .int (nI 0)), (2, .int (nI g)), (3, .int (nI 0)), (4, .int (nI (a + k + 1))), (5, .int (nI (0 + k + 1)))]) rfl ?_
          refine Z.goto B dX12_word_71 (tgt := 23) rfl ?_
          have hk2 : k < amW T a 0 := (by rcases Nat.lt_or_ge k (amW T a 0) with h1 | h1; exact h1; exfalso; have e : k = amW T a 0 := (by omega); have hA := (am_s (T := T) (a := a) (w := 0)).2.2 (by rw [← e]; show k < 6; omega); rw [← e] at hA; exact hA h62)
          exact ih (k + 1) (by omega) (by omega)
  exact hloop23 0 (Nat.zero_le _)

theorem wd_in_1 {κ : zCtx} (B : zB mX12_word κ) {σ : zSt} {t w : Int32} {r : Nat → Int32} (hl : Lay σ) {s m : Nat} {T : Nat → Int32} (ht : zTm σ s m T) {a : Nat} (ha : a < 2 ^ 30) {g : Nat} (kk : Z κ 0 0 (mS σ a t w r) 74 [(0, .ref 45), (1, .int (nI 7)), (2, .int (nI g)), (3, .int (nI 1)), (4, .int (nI (a + amW T a 1))), (5, .int (nI (7 + amW T a 1)))] []) : Z κ 0 0 (mS σ a t w r) 23 [(0, .ref 45), (1, .int (nI 7)), (2, .int (nI g)), (3, .int (nI 1)), (4, .int (nI a)), (5, .int (nI 7))] [] := by
  obtain ⟨⟨hs8, hm160⟩, ⟨hbs, hen⟩, hT, hwd⟩ := id ht
  have hloop23 : ∀ k : Nat, k ≤ amW T a 1 → Z κ 0 0 (mS σ a t w r) 23 [(0, .ref 45), (1, .int (nI 7)), (2, .int (nI g)), (3, .int (nI 1)), (4, .int (nI (a + k))), (5, .int (nI (7 + k)))] [] := by
    refine z_loop (fun k => 6 - k) (fun k ih hk => ?_)
    have hA1 : amW T a 1 ≤ 6 := (am_s (T := T) (a := a) (w := 1)).1
    have hz : wds (7 + k) = 0 ↔ k = 6 := wds_Z 1 (by decide) k (by show k ≤ 6; omega)
    have hzl : wds (7 + k) < 2 ^ 31 := wds_lt _ (by omega)
    refine Z.aload_n B dX12_word_23 (v := .ref 45) rfl rfl ?_
    refine Z.getR (σ := (mS σ a t w r)) B fX12_60_12 dX12_word_24 (hl.n (k := 45) (by decide)) (hl.k (k := 45) (by decide)) (by decide) (j := 60) (hl.r (k := 45) (f := 19) (by decide) (by decide)) ?_
    refine Z.iload B dX12_word_27 (x := nI (7 + k)) rfl ?_
    refine Z.iald (σ := (mS σ a t w r)) B dX12_word_29 (n := 26) (hl.n (k := 60) (by decide)) (hl.k (k := 60) (by decide)) (hl.l (k := 60) (by decide)) (by decide) (j := 7 + k) rfl (by omega) (v := nI (wds (7 + k))) (wds_at ht (by omega)) ?_
    refine Z.if_eqN B dX12_word_30 (tgt := 74) rfl (by omega) (fun h30 => ?_) (fun h30 => ?_)
    · skip
      have hke : k = amW T a 1 := (by have := hz.mp h30; omega)
      rw [← hke] at kk
      exact kk
    · skip
      refine Z.iload B dX12_word_33 (x := nI (a + k)) rfl ?_
      refine Z.aload_n B dX12_word_35 (v := .ref 45) rfl rfl ?_
      refine Z.getI (σ := (mS σ a t w r)) B fX12_144_12 dX12_word_36 (hl.n (k := 45) (by decide)) (hl.k (k := 45) (by decide)) (by decide) (v := nI m) ((mS_f (by decide) (by decide) (by decide)).trans hen) ?_
      refine Z.icmp_geN B dX12_word_39 (tgt := 74) rfl (by omega) (by omega) (fun h39 => ?_) (fun h39 => ?_)
      · skip
        have hke : k = amW T a 1 := (by rcases Nat.lt_or_ge k (amW T a 1) with h1 | h1; (exfalso; have h2 := (am_s (T := T) (a := a) (w := 1)).2.1 k h1; rw [ht.z (by omega)] at h2; have h3 := (nI_eq (by decide) (show wds (7 + k) < 2 ^ 31 from hzl)).mp h2; omega); omega)
        rw [← hke] at kk
        exact kk
      · skip
        refine Z.aload_n B dX12_word_42 (v := .ref 45) rfl rfl ?_
        refine Z.getR (σ := (mS σ a t w r)) B fX12_53_12 dX12_word_43 (hl.n (k := 45) (by decide)) (hl.k (k := 45) (by decide)) (by decide) (j := 58) (hl.r (k := 45) (f := 17) (by decide) (by decide)) ?_
        refine Z.aload_n B dX12_word_46 (v := .ref 45) rfl rfl ?_
        refine Z.getI (σ := (mS σ a t w r)) B fX12_147_12 dX12_word_47 (hl.n (k := 45) (by decide)) (hl.k (k := 45) (by decide)) (by decide) (v := nI (s * 160)) ((mS_f (by decide) (by decide) (by decide)).trans hbs) ?_
        refine Z.iload B dX12_word_50 (x := nI (a + k)) rfl ?_
        refine Z.iaddN B dX12_word_52 (a := s * 160) (b := a + k) ?_
        refine Z.lald (σ := (mS σ a t w r)) B dX12_word_53 (n := 1280) (hl.n (k := 58) (by decide)) (hl.k (k := 58) (by decide)) (hl.l (k := 58) (by decide)) (by decide) (j := (s * 160) + (a + k)) rfl (by omega) (v := (zY (mS σ a t w r) 58 ((s * 160) + (a + k)))) rfl ?_
        refine Z.l2i B dX12_word_54 ?_
        refine Z.eqS (st' := [.int (T (a + k))]) (congrArg (fun z => Value.int z :: _) (ht.t (i := a + k) (by omega))) ?_
        refine Z.aload_n B dX12_word_55 (v := .ref 45) rfl rfl ?_
        refine Z.getR (σ := (mS σ a t w r)) B fX12_60_12 dX12_word_56 (hl.n (k := 45) (by decide)) (hl.k (k := 45) (by decide)) (by decide) (j := 60) (hl.r (k := 45) (f := 19) (by decide) (by decide)) ?_
        refine Z.iload B dX12_word_59 (x := nI (7 + k)) rfl ?_
        refine Z.iald (σ := (mS σ a t w r)) B dX12_word_61 (n := 26) (hl.n (k := 60) (by decide)) (hl.k (k := 60) (by decide)) (hl.l (k := 60) (by decide)) (by decide) (j := 7 + k) rfl (by omega) (v := nI (wds (7 + k))) (wds_at ht (by omega)) ?_
        refine Z.icmp_ne B dX12_word_62 (tgt := 74) rfl (fun h62 => ?_) (fun h62 => ?_)
        · skip
          have hke : k = amW T a 1 := (by rcases Nat.lt_or_ge k (amW T a 1) with h1 | h1; exact absurd ((am_s (T := T) (a := a) (w := 1)).2.1 k h1) h62; omega)
          rw [← hke] at kk
          exact kk
        · skip
          refine Z.iincN B dX12_word_65 (by decide) (a := a + k) rfl (L' := [(0, .ref 45), (1, .int (nI 7)), (2, .int (nI g)), (3, .int (nI 1)), (4, .int (nI (a + k + 1))), (5, .int (nI (7 + k)))]) rfl ?_
          refine Z.iincN B dX12_word_68 (by decide) (a := 7 + k) rfl (L' := [(0, .ref 45), (1, .int (nI 7)), (2, .int (nI g)), (3, .int (nI 1)), (4, .int (nI (a + k + 1))), (5, .int (nI (7 + k + 1)))]) rfl ?_
          refine Z.goto B dX12_word_71 (tgt := 23) rfl ?_
          have hk2 : k < amW T a 1 := (by rcases Nat.lt_or_ge k (amW T a 1) with h1 | h1; exact h1; exfalso; have e : k = amW T a 1 := (by omega); have hA := (am_s (T := T) (a := a) (w := 1)).2.2 (by rw [← e]; show k < 6; omega); rw [← e] at hA; exact hA h62)
          exact ih (k + 1) (by omega) (by omega)
  exact hloop23 0 (Nat.zero_le _)

theorem wd_in_2 {κ : zCtx} (B : zB mX12_word κ) {σ : zSt} {t w : Int32} {r : Nat → Int32} (hl : Lay σ) {s m : Nat} {T : Nat → Int32} (ht : zTm σ s m T) {a : Nat} (ha : a < 2 ^ 30) {g : Nat} (kk : Z κ 0 0 (mS σ a t w r) 74 [(0, .ref 45), (1, .int (nI 14)), (2, .int (nI g)), (3, .int (nI 2)), (4, .int (nI (a + amW T a 2))), (5, .int (nI (14 + amW T a 2)))] []) : Z κ 0 0 (mS σ a t w r) 23 [(0, .ref 45), (1, .int (nI 14)), (2, .int (nI g)), (3, .int (nI 2)), (4, .int (nI a)), (5, .int (nI 14))] [] := by
  obtain ⟨⟨hs8, hm160⟩, ⟨hbs, hen⟩, hT, hwd⟩ := id ht
  have hloop23 : ∀ k : Nat, k ≤ amW T a 2 → Z κ 0 0 (mS σ a t w r) 23 [(0, .ref 45), (1, .int (nI 14)), (2, .int (nI g)), (3, .int (nI 2)), (4, .int (nI (a + k))), (5, .int (nI (14 + k)))] [] := by
    refine z_loop (fun k => 4 - k) (fun k ih hk => ?_)
    have hA1 : amW T a 2 ≤ 4 := (am_s (T := T) (a := a) (w := 2)).1
    have hz : wds (14 + k) = 0 ↔ k = 4 := wds_Z 2 (by decide) k (by show k ≤ 4; omega)
    have hzl : wds (14 + k) < 2 ^ 31 := wds_lt _ (by omega)
    refine Z.aload_n B dX12_word_23 (v := .ref 45) rfl rfl ?_
    refine Z.getR (σ := (mS σ a t w r)) B fX12_60_12 dX12_word_24 (hl.n (k := 45) (by decide)) (hl.k (k := 45) (by decide)) (by decide) (j := 60) (hl.r (k := 45) (f := 19) (by decide) (by decide)) ?_
    refine Z.iload B dX12_word_27 (x := nI (14 + k)) rfl ?_
    refine Z.iald (σ := (mS σ a t w r)) B dX12_word_29 (n := 26) (hl.n (k := 60) (by decide)) (hl.k (k := 60) (by decide)) (hl.l (k := 60) (by decide)) (by decide) (j := 14 + k) rfl (by omega) (v := nI (wds (14 + k))) (wds_at ht (by omega)) ?_
    refine Z.if_eqN B dX12_word_30 (tgt := 74) rfl (by omega) (fun h30 => ?_) (fun h30 => ?_)
    · skip
      have hke : k = amW T a 2 := (by have := hz.mp h30; omega)
      rw [← hke] at kk
      exact kk
    · skip
      refine Z.iload B dX12_word_33 (x := nI (a + k)) rfl ?_
      refine Z.aload_n B dX12_word_35 (v := .ref 45) rfl rfl ?_
      refine Z.getI (σ := (mS σ a t w r)) B fX12_144_12 dX12_word_36 (hl.n (k := 45) (by decide)) (hl.k (k := 45) (by decide)) (by decide) (v := nI m) ((mS_f (by decide) (by decide) (by decide)).trans hen) ?_
      refine Z.icmp_geN B dX12_word_39 (tgt := 74) rfl (by omega) (by omega) (fun h39 => ?_) (fun h39 => ?_)
      · skip
        have hke : k = amW T a 2 := (by rcases Nat.lt_or_ge k (amW T a 2) with h1 | h1; (exfalso; have h2 := (am_s (T := T) (a := a) (w := 2)).2.1 k h1; rw [ht.z (by omega)] at h2; have h3 := (nI_eq (by decide) (show wds (14 + k) < 2 ^ 31 from hzl)).mp h2; omega); omega)
        rw [← hke] at kk
        exact kk
      · skip
        refine Z.aload_n B dX12_word_42 (v := .ref 45) rfl rfl ?_
        refine Z.getR (σ := (mS σ a t w r)) B fX12_53_12 dX12_word_43 (hl.n (k := 45) (by decide)) (hl.k (k := 45) (by decide)) (by decide) (j := 58) (hl.r (k := 45) (f := 17) (by decide) (by decide)) ?_
        refine Z.aload_n B dX12_word_46 (v := .ref 45) rfl rfl ?_
        refine Z.getI (σ := (mS σ a t w r)) B fX12_147_12 dX12_word_47 (hl.n (k := 45) (by decide)) (hl.k (k := 45) (by decide)) (by decide) (v := nI (s * 160)) ((mS_f (by decide) (by decide) (by decide)).trans hbs) ?_
        refine Z.iload B dX12_word_50 (x := nI (a + k)) rfl ?_
        refine Z.iaddN B dX12_word_52 (a := s * 160) (b := a + k) ?_
        refine Z.lald (σ := (mS σ a t w r)) B dX12_word_53 (n := 1280) (hl.n (k := 58) (by decide)) (hl.k (k := 58) (by decide)) (hl.l (k := 58) (by decide)) (by decide) (j := (s * 160) + (a + k)) rfl (by omega) (v := (zY (mS σ a t w r) 58 ((s * 160) + (a + k)))) rfl ?_
        refine Z.l2i B dX12_word_54 ?_
        refine Z.eqS (st' := [.int (T (a + k))]) (congrArg (fun z => Value.int z :: _) (ht.t (i := a + k) (by omega))) ?_
        refine Z.aload_n B dX12_word_55 (v := .ref 45) rfl rfl ?_
        refine Z.getR (σ := (mS σ a t w r)) B fX12_60_12 dX12_word_56 (hl.n (k := 45) (by decide)) (hl.k (k := 45) (by decide)) (by decide) (j := 60) (hl.r (k := 45) (f := 19) (by decide) (by decide)) ?_
        refine Z.iload B dX12_word_59 (x := nI (14 + k)) rfl ?_
        refine Z.iald (σ := (mS σ a t w r)) B dX12_word_61 (n := 26) (hl.n (k := 60) (by decide)) (hl.k (k := 60) (by decide)) (hl.l (k := 60) (by decide)) (by decide) (j := 14 + k) rfl (by omega) (v := nI (wds (14 + k))) (wds_at ht (by omega)) ?_
        refine Z.icmp_ne B dX12_word_62 (tgt := 74) rfl (fun h62 => ?_) (fun h62 => ?_)
        · skip
          have hke : k = amW T a 2 := (by rcases Nat.lt_or_ge k (amW T a 2) with h1 | h1; exact absurd ((am_s (T := T) (a := a) (w := 2)).2.1 k h1) h62; omega)
          rw [← hke] at kk
          exact kk
        · skip
          refine Z.iincN B dX12_word_65 (by decide) (a := a + k) rfl (L' := [(0, .ref 45), (1, .int (nI 14)), (2, .int (nI g)), (3, .int (nI 2)), (4, .int (nI (a + k + 1))), (5, .int (nI (14 + k)))]) rfl ?_
          refine Z.iincN B dX12_word_68 (by decide) (a := 14 + k) rfl (L' := [(0, .ref 45), (1, .int (nI 14)), (2, .int (nI g)), (3, .int (nI 2)), (4, .int (nI (a + k + 1))), (5, .int (nI (14 + k + 1)))]) rfl ?_
          refine Z.goto B dX12_word_71 (tgt := 23) rfl ?_
          have hk2 : k < amW T a 2 := (by rcases Nat.lt_or_ge k (amW T a 2) with h1 | h1; exact h1; exfalso; have e : k = amW T a 2 := (by omega); have hA := (am_s (T := T) (a := a) (w := 2)).2.2 (by rw [← e]; show k < 4; omega); rw [← e] at hA; exact hA h62)
          exact ih (k + 1) (by omega) (by omega)
  exact hloop23 0 (Nat.zero_le _)

theorem wd_in_3 {κ : zCtx} (B : zB mX12_word κ) {σ : zSt} {t w : Int32} {r : Nat → Int32} (hl : Lay σ) {s m : Nat} {T : Nat → Int32} (ht : zTm σ s m T) {a : Nat} (ha : a < 2 ^ 30) {g : Nat} (kk : Z κ 0 0 (mS σ a t w r) 74 [(0, .ref 45), (1, .int (nI 19)), (2, .int (nI g)), (3, .int (nI 3)), (4, .int (nI (a + amW T a 3))), (5, .int (nI (19 + amW T a 3)))] []) : Z κ 0 0 (mS σ a t w r) 23 [(0, .ref 45), (1, .int (nI 19)), (2, .int (nI g)), (3, .int (nI 3)), (4, .int (nI a)), (5, .int (nI 19))] [] := by
  obtain ⟨⟨hs8, hm160⟩, ⟨hbs, hen⟩, hT, hwd⟩ := id ht
  have hloop23 : ∀ k : Nat, k ≤ amW T a 3 → Z κ 0 0 (mS σ a t w r) 23 [(0, .ref 45), (1, .int (nI 19)), (2, .int (nI g)), (3, .int (nI 3)), (4, .int (nI (a + k))), (5, .int (nI (19 + k)))] [] := by
    refine z_loop (fun k => 6 - k) (fun k ih hk => ?_)
    have hA1 : amW T a 3 ≤ 6 := (am_s (T := T) (a := a) (w := 3)).1
    have hz : wds (19 + k) = 0 ↔ k = 6 := wds_Z 3 (by decide) k (by show k ≤ 6; omega)
    have hzl : wds (19 + k) < 2 ^ 31 := wds_lt _ (by omega)
    refine Z.aload_n B dX12_word_23 (v := .ref 45) rfl rfl ?_
    refine Z.getR (σ := (mS σ a t w r)) B fX12_60_12 dX12_word_24 (hl.n (k := 45) (by decide)) (hl.k (k := 45) (by decide)) (by decide) (j := 60) (hl.r (k := 45) (f := 19) (by decide) (by decide)) ?_
    refine Z.iload B dX12_word_27 (x := nI (19 + k)) rfl ?_
    refine Z.iald (σ := (mS σ a t w r)) B dX12_word_29 (n := 26) (hl.n (k := 60) (by decide)) (hl.k (k := 60) (by decide)) (hl.l (k := 60) (by decide)) (by decide) (j := 19 + k) rfl (by omega) (v := nI (wds (19 + k))) (wds_at ht (by omega)) ?_
    refine Z.if_eqN B dX12_word_30 (tgt := 74) rfl (by omega) (fun h30 => ?_) (fun h30 => ?_)
    · skip
      have hke : k = amW T a 3 := (by have := hz.mp h30; omega)
      rw [← hke] at kk
      exact kk
    · skip
      refine Z.iload B dX12_word_33 (x := nI (a + k)) rfl ?_
      refine Z.aload_n B dX12_word_35 (v := .ref 45) rfl rfl ?_
      refine Z.getI (σ := (mS σ a t w r)) B fX12_144_12 dX12_word_36 (hl.n (k := 45) (by decide)) (hl.k (k := 45) (by decide)) (by decide) (v := nI m) ((mS_f (by decide) (by decide) (by decide)).trans hen) ?_
      refine Z.icmp_geN B dX12_word_39 (tgt := 74) rfl (by omega) (by omega) (fun h39 => ?_) (fun h39 => ?_)
      · skip
        have hke : k = amW T a 3 := (by rcases Nat.lt_or_ge k (amW T a 3) with h1 | h1; (exfalso; have h2 := (am_s (T := T) (a := a) (w := 3)).2.1 k h1; rw [ht.z (by omega)] at h2; have h3 := (nI_eq (by decide) (show wds (19 + k) < 2 ^ 31 from hzl)).mp h2; omega); omega)
        rw [← hke] at kk
        exact kk
      · skip
        refine Z.aload_n B dX12_word_42 (v := .ref 45) rfl rfl ?_
        refine Z.getR (σ := (mS σ a t w r)) B fX12_53_12 dX12_word_43 (hl.n (k := 45) (by decide)) (hl.k (k := 45) (by decide)) (by decide) (j := 58) (hl.r (k := 45) (f := 17) (by decide) (by decide)) ?_
        refine Z.aload_n B dX12_word_46 (v := .ref 45) rfl rfl ?_
        refine Z.getI (σ := (mS σ a t w r)) B fX12_147_12 dX12_word_47 (hl.n (k := 45) (by decide)) (hl.k (k := 45) (by decide)) (by decide) (v := nI (s * 160)) ((mS_f (by decide) (by decide) (by decide)).trans hbs) ?_
        refine Z.iload B dX12_word_50 (x := nI (a + k)) rfl ?_
        refine Z.iaddN B dX12_word_52 (a := s * 160) (b := a + k) ?_
        refine Z.lald (σ := (mS σ a t w r)) B dX12_word_53 (n := 1280) (hl.n (k := 58) (by decide)) (hl.k (k := 58) (by decide)) (hl.l (k := 58) (by decide)) (by decide) (j := (s * 160) + (a + k)) rfl (by omega) (v := (zY (mS σ a t w r) 58 ((s * 160) + (a + k)))) rfl ?_
        refine Z.l2i B dX12_word_54 ?_
        refine Z.eqS (st' := [.int (T (a + k))]) (congrArg (fun z => Value.int z :: _) (ht.t (i := a + k) (by omega))) ?_
        refine Z.aload_n B dX12_word_55 (v := .ref 45) rfl rfl ?_
        refine Z.getR (σ := (mS σ a t w r)) B fX12_60_12 dX12_word_56 (hl.n (k := 45) (by decide)) (hl.k (k := 45) (by decide)) (by decide) (j := 60) (hl.r (k := 45) (f := 19) (by decide) (by decide)) ?_
        refine Z.iload B dX12_word_59 (x := nI (19 + k)) rfl ?_
        refine Z.iald (σ := (mS σ a t w r)) B dX12_word_61 (n := 26) (hl.n (k := 60) (by decide)) (hl.k (k := 60) (by decide)) (hl.l (k := 60) (by decide)) (by decide) (j := 19 + k) rfl (by omega) (v := nI (wds (19 + k))) (wds_at ht (by omega)) ?_
        refine Z.icmp_ne B dX12_word_62 (tgt := 74) rfl (fun h62 => ?_) (fun h62 => ?_)
        · skip
          have hke : k = amW T a 3 := (by rcases Nat.lt_or_ge k (amW T a 3) with h1 | h1; exact absurd ((am_s (T := T) (a := a) (w := 3)).2.1 k h1) h62; omega)
          rw [← hke] at kk
          exact kk
        · skip
          refine Z.iincN B dX12_word_65 (by decide) (a := a + k) rfl (L' := [(0, .ref 45), (1, .int (nI 19)), (2, .int (nI g)), (3, .int (nI 3)), (4, .int (nI (a + k + 1))), (5, .int (nI (19 + k)))]) rfl ?_
          refine Z.iincN B dX12_word_68 (by decide) (a := 19 + k) rfl (L' := [(0, .ref 45), (1, .int (nI 19)), (2, .int (nI g)), (3, .int (nI 3)), (4, .int (nI (a + k + 1))), (5, .int (nI (19 + k + 1)))]) rfl ?_
          refine Z.goto B dX12_word_71 (tgt := 23) rfl ?_
          have hk2 : k < amW T a 3 := (by rcases Nat.lt_or_ge k (amW T a 3) with h1 | h1; exact h1; exfalso; have e : k = amW T a 3 := (by omega); have hA := (am_s (T := T) (a := a) (w := 3)).2.2 (by rw [← e]; show k < 6; omega); rw [← e] at hA; exact hA h62)
          exact ih (k + 1) (by omega) (by omega)
  exact hloop23 0 (Nat.zero_le _)

theorem wd_mx {κ : zCtx} (B : zB mX12_word κ) {σ : zSt} {p v g q e : Nat} (hg : g < 2 ^ 31) (hq : q < 2 ^ 31) (kk : Z κ 0 0 σ 105 [(0, .ref 45), (1, .int (nI p)), (2, .int (nI (max g q))), (3, .int (nI v)), (4, .int (nI q)), (5, .int (nI e))] []) : Z κ 0 0 σ 92 [(0, .ref 45), (1, .int (nI p)), (2, .int (nI g)), (3, .int (nI v)), (4, .int (nI q)), (5, .int (nI e))] [] := by
  refine Z.iload B dX12_word_92 (x := nI q) rfl ?_
  refine Z.iload_n B dX12_word_94 (x := nI g) rfl ?_
  refine Z.icmp_leN B dX12_word_95 (tgt := 103) rfl (by omega) (by omega) (fun h95 => ?_) (fun h95 => ?_)
  · skip
    rw [show max g q = g by omega] at kk
    refine Z.iload_n B dX12_word_103 (x := nI g) rfl ?_
    refine Z.istore_n B dX12_word_104 (by decide) (L' := [(0, .ref 45), (1, .int (nI p)), (2, .int (nI g)), (3, .int (nI v)), (4, .int (nI q)), (5, .int (nI e))]) rfl ?_
    exact kk
  · skip
    rw [show max g q = q by omega] at kk
    refine Z.iload B dX12_word_98 (x := nI q) rfl ?_
    refine Z.goto B dX12_word_100 (tgt := 104) rfl ?_
    refine Z.istore_n B dX12_word_104 (by decide) (L' := [(0, .ref 45), (1, .int (nI p)), (2, .int (nI q)), (3, .int (nI v)), (4, .int (nI q)), (5, .int (nI e))]) rfl ?_
    exact kk

theorem t_X12_word_0 {σ : zSt} {t w : Int32} {r : Nat → Int32} (hl : Lay σ) {s m : Nat} {T : Nat → Int32} (ht : zTm σ s m T) {a : Nat} (ha : a < 2 ^ 30) (h0 : amW T a 0 = 6) : Dt mX12_word [.ref 45] (mS σ a t w r) (some (.int (nI 0))) (mS σ (a + amW T a 0) t w r) := by
  obtain ⟨⟨hs8, hm160⟩, ⟨hbs, hen⟩, hT, hwd⟩ := id ht
  have hm0 : amW T a 0 ≤ 6 := am_s.1
  have hm1 : amW T a 1 ≤ 6 := am_s.1
  have hm2 : amW T a 2 ≤ 4 := am_s.1
  have hm3 : amW T a 3 ≤ 6 := am_s.1
  refine Dt.of (by decide) (Nat.le_of_ble_eq_true rfl) fun κ B Rt => ?_
  show Z κ 0 0 (mS σ a t w r) 0 [(0, .ref 45)] []
  refine Z.iconst B dX12_word_0 (v := nI 0) rfl ?_
  refine Z.istore_n B dX12_word_1 (by decide) (L' := [(0, .ref 45), (1, .int (nI 0))]) rfl ?_
  refine Z.aload_n B dX12_word_2 (v := .ref 45) rfl rfl ?_
  refine Z.getI (σ := (mS σ a t w r)) B fX12_141_12 dX12_word_3 (hl.n (k := 45) (by decide)) (hl.k (k := 45) (by decide)) (by decide) (v := nI a) mS_a ?_
  refine Z.istore_n B dX12_word_6 (by decide) (L' := [(0, .ref 45), (1, .int (nI 0)), (2, .int (nI a))]) rfl ?_
  refine Z.iconst B dX12_word_7 (v := nI 0) rfl ?_
  refine Z.istore_n B dX12_word_8 (by decide) (L' := [(0, .ref 45), (1, .int (nI 0)), (2, .int (nI a)), (3, .int (nI 0))]) rfl ?_
  refine Z.iload_n B dX12_word_9 (x := nI 0) rfl ?_
  refine Z.iconst B dX12_word_10 (v := nI 4) rfl ?_
  refine Z.icmp_geN B dX12_word_11 (tgt := 129) rfl (by omega) (by omega) (fun h11 => by exfalso; first | omega | contradiction | simp_all) (fun h11 => ?_)
  refine Z.aload_n B dX12_word_14 (v := .ref 45) rfl rfl ?_
  refine Z.getI (σ := (mS σ a t w r)) B fX12_141_12 dX12_word_15 (hl.n (k := 45) (by decide)) (hl.k (k := 45) (by decide)) (by decide) (v := nI a) mS_a ?_
  refine Z.istore B dX12_word_18 (by decide) (L' := [(0, .ref 45), (1, .int (nI 0)), (2, .int (nI a)), (3, .int (nI 0)), (4, .int (nI a))]) rfl ?_
  refine Z.iload_n B dX12_word_20 (x := nI 0) rfl ?_
  refine Z.istore B dX12_word_21 (by decide) (L' := [(0, .ref 45), (1, .int (nI 0)), (2, .int (nI a)), (3, .int (nI 0)), (4, .int (nI a)), (5, .int (nI 0))]) rfl ?_
  refine wd_in_0 B hl ht ha (g := a) ?_
  refine Z.aload_n B dX12_word_74 (v := .ref 45) rfl rfl ?_
  refine Z.getR (σ := (mS σ a t w r)) B fX12_60_12 dX12_word_75 (hl.n (k := 45) (by decide)) (hl.k (k := 45) (by decide)) (by decide) (j := 60) (hl.r (k := 45) (f := 19) (by decide) (by decide)) ?_
  refine Z.iload B dX12_word_78 (x := nI (0 + amW T a 0)) rfl ?_
  refine Z.iald (σ := (mS σ a t w r)) B dX12_word_80 (n := 26) (hl.n (k := 60) (by decide)) (hl.k (k := 60) (by decide)) (hl.l (k := 60) (by decide)) (by decide) (j := 0 + amW T a 0) rfl (by omega) (v := nI (wds (0 + amW T a 0))) (wds_at ht (by omega)) ?_
  have hz0 : wds (0 + amW T a 0) = 0 ↔ amW T a 0 = 6 := wds_Z 0 (by decide) _ (by show amW T a 0 ≤ 6; omega)
  have hzl0 : wds (0 + amW T a 0) < 2 ^ 31 := wds_lt _ (by omega)
  refine Z.if_neN B dX12_word_81 (tgt := 92) rfl (by omega) (fun h81 => (by omega)) (fun h81 => ?_)
  refine Z.aload_n B dX12_word_84 (v := .ref 45) rfl rfl ?_
  refine Z.iload B dX12_word_85 (x := nI (a + amW T a 0)) rfl ?_
  refine Z.putI (σ := (mS σ a t w r)) B fX12_141_12 (ty := .int) ⟨_, _, _, rfl, rfl, by decide +kernel⟩ dX12_word_87 (hl.n (k := 45) (by decide)) (hl.k (k := 45) (by decide)) (by decide) rfl rfl (τ := (zuX (mS σ a t w r) 45 (upd (zX (mS σ a t w r) 45) 22 (nI (a + amW T a 0))))) rfl ?_
  refine Z.eqσ (τ := (mS σ (a + amW T a 0) t w r)) mS_ua ?_
  refine Z.iload_n B dX12_word_90 (x := nI 0) rfl ?_
  refine Z.iret B Rt dX12_word_91 (ty := .int) rfl rfl (by decide) (by decide) ?_
  exact ⟨rfl, rfl⟩

theorem t_X12_word_1 {σ : zSt} {t w : Int32} {r : Nat → Int32} (hl : Lay σ) {s m : Nat} {T : Nat → Int32} (ht : zTm σ s m T) {a : Nat} (ha : a < 2 ^ 30) (h0 : ¬ amW T a 0 = 6) (h1 : amW T a 1 = 6) : Dt mX12_word [.ref 45] (mS σ a t w r) (some (.int (nI 1))) (mS σ (a + amW T a 1) t w r) := by
  obtain ⟨⟨hs8, hm160⟩, ⟨hbs, hen⟩, hT, hwd⟩ := id ht
  have hm0 : amW T a 0 ≤ 6 := am_s.1
  have hm1 : amW T a 1 ≤ 6 := am_s.1
  have hm2 : amW T a 2 ≤ 4 := am_s.1
  have hm3 : amW T a 3 ≤ 6 := am_s.1
  refine Dt.of (by decide) (Nat.le_of_ble_eq_true rfl) fun κ B Rt => ?_
  show Z κ 0 0 (mS σ a t w r) 0 [(0, .ref 45)] []
  refine Z.iconst B dX12_word_0 (v := nI 0) rfl ?_
  refine Z.istore_n B dX12_word_1 (by decide) (L' := [(0, .ref 45), (1, .int (nI 0))]) rfl ?_
  refine Z.aload_n B dX12_word_2 (v := .ref 45) rfl rfl ?_
  refine Z.getI (σ := (mS σ a t w r)) B fX12_141_12 dX12_word_3 (hl.n (k := 45) (by decide)) (hl.k (k := 45) (by decide)) (by decide) (v := nI a) mS_a ?_
  refine Z.istore_n B dX12_word_6 (by decide) (L' := [(0, .ref 45), (1, .int (nI 0)), (2, .int (nI a))]) rfl ?_
  refine Z.iconst B dX12_word_7 (v := nI 0) rfl ?_
  refine Z.istore_n B dX12_word_8 (by decide) (L' := [(0, .ref 45), (1, .int (nI 0)), (2, .int (nI a)), (3, .int (nI 0))]) rfl ?_
  refine Z.iload_n B dX12_word_9 (x := nI 0) rfl ?_
  refine Z.iconst B dX12_word_10 (v := nI 4) rfl ?_
  refine Z.icmp_geN B dX12_word_11 (tgt := 129) rfl (by omega) (by omega) (fun h11 => by exfalso; first | omega | contradiction | simp_all) (fun h11 => ?_)
  refine Z.aload_n B dX12_word_14 (v := .ref 45) rfl rfl ?_
  refine Z.getI (σ := (mS σ a t w r)) B fX12_141_12 dX12_word_15 (hl.n (k := 45) (by decide)) (hl.k (k := 45) (by decide)) (by decide) (v := nI a) mS_a ?_
  refine Z.istore B dX12_word_18 (by decide) (L' := [(0, .ref 45), (1, .int (nI 0)), (2, .int (nI a)), (3, .int (nI 0)), (4, .int (nI a))]) rfl ?_
  refine Z.iload_n B dX12_word_20 (x := nI 0) rfl ?_
  refine Z.istore B dX12_word_21 (by decide) (L' := [(0, .ref 45), (1, .int (nI 0)), (2, .int (nI a)), (3, .int (nI 0)), (4, .int (nI a)), (5, .int (nI 0))]) rfl ?_
  refine wd_in_0 B hl ht ha (g := a) ?_
  refine Z.aload_n B dX12_word_74 (v := .ref 45) rfl rfl ?_
  refine Z.getR (σ := (mS σ a t w r)) B fX12_60_12 dX12_word_75 (hl.n (k := 45) (by decide)) (hl.k (k := 45) (by decide)) (by decide) (j := 60) (hl.r (k := 45) (f := 19) (by decide) (by decide)) ?_
  refine Z.iload B dX12_word_78 (x := nI (0 + amW T a 0)) rfl ?_
  refine Z.iald (σ := (mS σ a t w r)) B dX12_word_80 (n := 26) (hl.n (k := 60) (by decide)) (hl.k (k := 60) (by decide)) (hl.l (k := 60) (by decide)) (by decide) (j := 0 + amW T a 0) rfl (by omega) (v := nI (wds (0 + amW T a 0))) (wds_at ht (by omega)) ?_
  have hz0 : wds (0 + amW T a 0) = 0 ↔ amW T a 0 = 6 := wds_Z 0 (by decide) _ (by show amW T a 0 ≤ 6; omega)
  have hzl0 : wds (0 + amW T a 0) < 2 ^ 31 := wds_lt _ (by omega)
  refine Z.if_neN B dX12_word_81 (tgt := 92) rfl (by omega) (fun h81 => ?_) (fun h81 => (by omega))
  refine wd_mx B (g := a) (q := a + amW T a 0) (by omega) (by omega) ?_
  refine Z.aload_n B dX12_word_105 (v := .ref 45) rfl rfl ?_
  refine Z.getR (σ := (mS σ a t w r)) B fX12_60_12 dX12_word_106 (hl.n (k := 45) (by decide)) (hl.k (k := 45) (by decide)) (by decide) (j := 60) (hl.r (k := 45) (f := 19) (by decide) (by decide)) ?_
  refine Z.iload_n B dX12_word_109 (x := nI 0) rfl ?_
  refine Z.iald (σ := (mS σ a t w r)) B dX12_word_110 (n := 26) (hl.n (k := 60) (by decide)) (hl.k (k := 60) (by decide)) (hl.l (k := 60) (by decide)) (by decide) (j := 0) rfl (by decide) (v := nI 99) (wds_at ht (j := 0) (by decide)) ?_
  refine Z.if_eqN B dX12_word_111 (tgt := 120) rfl (by omega) (fun h111 => by exfalso; first | omega | contradiction | simp_all) (fun h111 => ?_)
  refine Z.iinc B dX12_word_114 (by decide) (x := nI 0) rfl (v := nI 1) (nI_inc 0) (L' := [(0, .ref 45), (1, .int (nI 1)), (2, .int (nI (max a (a + amW T a 0)))), (3, .int (nI 0)), (4, .int (nI (a + amW T a 0))), (5, .int (nI (0 + amW T a 0)))]) rfl ?_
  refine Z.goto B dX12_word_117 (tgt := 105) rfl ?_
  refine Z.aload_n B dX12_word_105 (v := .ref 45) rfl rfl ?_
  refine Z.getR (σ := (mS σ a t w r)) B fX12_60_12 dX12_word_106 (hl.n (k := 45) (by decide)) (hl.k (k := 45) (by decide)) (by decide) (j := 60) (hl.r (k := 45) (f := 19) (by decide) (by decide)) ?_
  refine Z.iload_n B dX12_word_109 (x := nI 1) rfl ?_
  refine Z.iald (σ := (mS σ a t w r)) B dX12_word_110 (n := 26) (hl.n (k := 60) (by decide)) (hl.k (k := 60) (by decide)) (hl.l (k := 60) (by decide)) (by decide) (j := 1) rfl (by decide) (v := nI 111) (wds_at ht (j := 1) (by decide)) ?_
  refine Z.if_eqN B dX12_word_111 (tgt := 120) rfl (by omega) (fun h111 => by exfalso; first | omega | contradiction | simp_all) (fun h111 => ?_)
  refine Z.iinc B dX12_word_114 (by decide) (x := nI 1) rfl (v := nI 2) (nI_inc 1) (L' := [(0, .ref 45), (1, .int (nI 2)), (2, .int (nI (max a (a + amW T a 0)))), (3, .int (nI 0)), (4, .int (nI (a + amW T a 0))), (5, .int (nI (0 + amW T a 0)))]) rfl ?_
  refine Z.goto B dX12_word_117 (tgt := 105) rfl ?_
  refine Z.aload_n B dX12_word_105 (v := .ref 45) rfl rfl ?_
  refine Z.getR (σ := (mS σ a t w r)) B fX12_60_12 dX12_word_106 (hl.n (k := 45) (by decide)) (hl.k (k := 45) (by decide)) (by decide) (j := 60) (hl.r (k := 45) (f := 19) (by decide) (by decide)) ?_
  refine Z.iload_n B dX12_word_109 (x := nI 2) rfl ?_
  refine Z.iald (σ := (mS σ a t w r)) B dX12_word_110 (n := 26) (hl.n (k := 60) (by decide)) (hl.k (k := 60) (by decide)) (hl.l (k := 60) (by decide)) (by decide) (j := 2) rfl (by decide) (v := nI 109) (wds_at ht (j := 2) (by decide)) ?_
  refine Z.if_eqN B dX12_word_111 (tgt := 120) rfl (by omega) (fun h111 => by exfalso; first | omega | contradiction | simp_all) (fun h111 => ?_)
  refine Z.iinc B dX12_word_114 (by decide) (x := nI 2) rfl (v := nI 3) (nI_inc 2) (L' := [(0, .ref 45), (1, .int (nI 3)), (2, .int (nI (max a (a + amW T a 0)))), (3, .int (nI 0)), (4, .int (nI (a + amW T a 0))), (5, .int (nI (0 + amW T a 0)))]) rfl ?_
  refine Z.goto B dX12_word_117 (tgt := 105) rfl ?_
  refine Z.aload_n B dX12_word_105 (v := .ref 45) rfl rfl ?_
  refine Z.getR (σ := (mS σ a t w r)) B fX12_60_12 dX12_word_106 (hl.n (k := 45) (by decide)) (hl.k (k := 45) (by decide)) (by decide) (j := 60) (hl.r (k := 45) (f := 19) (by decide) (by decide)) ?_
  refine Z.iload_n B dX12_word_109 (x := nI 3) rfl ?_
  refine Z.iald (σ := (mS σ a t w r)) B dX12_word_110 (n := 26) (hl.n (k := 60) (by decide)) (hl.k (k := 60) (by decide)) (hl.l (k := 60) (by decide)) (by decide) (j := 3) rfl (by decide) (v := nI 101) (wds_at ht (j := 3) (by decide)) ?_
  refine Z.if_eqN B dX12_word_111 (tgt := 120) rfl (by omega) (fun h111 => by exfalso; first | omega | contradiction | simp_all) (fun h111 => ?_)
  refine Z.iinc B dX12_word_114 (by decide) (x := nI 3) rfl (v := nI 4) (nI_inc 3) (L' := [(0, .ref 45), (1, .int (nI 4)), (2, .int (nI (max a (a + amW T a 0)))), (3, .int (nI 0)), (4, .int (nI (a + amW T a 0))), (5, .int (nI (0 + amW T a 0)))]) rfl ?_
  refine Z.goto B dX12_word_117 (tgt := 105) rfl ?_
  refine Z.aload_n B dX12_word_105 (v := .ref 45) rfl rfl ?_
  refine Z.getR (σ := (mS σ a t w r)) B fX12_60_12 dX12_word_106 (hl.n (k := 45) (by decide)) (hl.k (k := 45) (by decide)) (by decide) (j := 60) (hl.r (k := 45) (f := 19) (by decide) (by decide)) ?_
  refine Z.iload_n B dX12_word_109 (x := nI 4) rfl ?_
  refine Z.iald (σ := (mS σ a t w r)) B dX12_word_110 (n := 26) (hl.n (k := 60) (by decide)) (hl.k (k := 60) (by decide)) (hl.l (k := 60) (by decide)) (by decide) (j := 4) rfl (by decide) (v := nI 114) (wds_at ht (j := 4) (by decide)) ?_
  refine Z.if_eqN B dX12_word_111 (tgt := 120) rfl (by omega) (fun h111 => by exfalso; first | omega | contradiction | simp_all) (fun h111 => ?_)
  refine Z.iinc B dX12_word_114 (by decide) (x := nI 4) rfl (v := nI 5) (nI_inc 4) (L' := [(0, .ref 45), (1, .int (nI 5)), (2, .int (nI (max a (a + amW T a 0)))), (3, .int (nI 0)), (4, .int (nI (a + amW T a 0))), (5, .int (nI (0 + amW T a 0)))]) rfl ?_
  refine Z.goto B dX12_word_117 (tgt := 105) rfl ?_
  refine Z.aload_n B dX12_word_105 (v := .ref 45) rfl rfl ?_
  refine Z.getR (σ := (mS σ a t w r)) B fX12_60_12 dX12_word_106 (hl.n (k := 45) (by decide)) (hl.k (k := 45) (by decide)) (by decide) (j := 60) (hl.r (k := 45) (f := 19) (by decide) (by decide)) ?_
  refine Z.iload_n B dX12_word_109 (x := nI 5) rfl ?_
  refine Z.iald (σ := (mS σ a t w r)) B dX12_word_110 (n := 26) (hl.n (k := 60) (by decide)) (hl.k (k := 60) (by decide)) (hl.l (k := 60) (by decide)) (by decide) (j := 5) rfl (by decide) (v := nI 32) (wds_at ht (j := 5) (by decide)) ?_
  refine Z.if_eqN B dX12_word_111 (tgt := 120) rfl (by omega) (fun h111 => by exfalso; first | omega | contradiction | simp_all) (fun h111 => ?_)
  refine Z.iinc B dX12_word_114 (by decide) (x := nI 5) rfl (v := nI 6) (nI_inc 5) (L' := [(0, .ref 45), (1, .int (nI 6)), (2, .int (nI (max a (a + amW T a 0)))), (3, .int (nI 0)), (4, .int (nI (a + amW T a 0))), (5, .int (nI (0 + amW T a 0)))]) rfl ?_
  refine Z.goto B dX12_word_117 (tgt := 105) rfl ?_
  refine Z.aload_n B dX12_word_105 (v := .ref 45) rfl rfl ?_
  refine Z.getR (σ := (mS σ a t w r)) B fX12_60_12 dX12_word_106 (hl.n (k := 45) (by decide)) (hl.k (k := 45) (by decide)) (by decide) (j := 60) (hl.r (k := 45) (f := 19) (by decide) (by decide)) ?_
  refine Z.iload_n B dX12_word_109 (x := nI 6) rfl ?_
  refine Z.iald (σ := (mS σ a t w r)) B dX12_word_110 (n := 26) (hl.n (k := 60) (by decide)) (hl.k (k := 60) (by decide)) (hl.l (k := 60) (by decide)) (by decide) (j := 6) rfl (by decide) (v := nI 0) (wds_at ht (j := 6) (by decide)) ?_
  refine Z.if_eqN B dX12_word_111 (tgt := 120) rfl (by omega) (fun h111 => ?_) (fun h111 => by exfalso; first | omega | contradiction | simp_all)
  refine Z.iinc B dX12_word_120 (by decide) (x := nI 6) rfl (v := nI 7) (nI_inc 6) (L' := [(0, .ref 45), (1, .int (nI 7)), (2, .int (nI (max a (a + amW T a 0)))), (3, .int (nI 0)), (4, .int (nI (a + amW T a 0))), (5, .int (nI (0 + amW T a 0)))]) rfl ?_
  refine Z.iinc B dX12_word_123 (by decide) (x := nI 0) rfl (v := nI 1) (nI_inc 0) (L' := [(0, .ref 45), (1, .int (nI 7)), (2, .int (nI (max a (a + amW T a 0)))), (3, .int (nI 1)), (4, .int (nI (a + amW T a 0))), (5, .int (nI (0 + amW T a 0)))]) rfl ?_
  refine Z.goto B dX12_word_126 (tgt := 9) rfl ?_
  refine Z.iload_n B dX12_word_9 (x := nI 1) rfl ?_
  refine Z.iconst B dX12_word_10 (v := nI 4) rfl ?_
  refine Z.icmp_geN B dX12_word_11 (tgt := 129) rfl (by omega) (by omega) (fun h11 => by exfalso; first | omega | contradiction | simp_all) (fun h11 => ?_)
  refine Z.aload_n B dX12_word_14 (v := .ref 45) rfl rfl ?_
  refine Z.getI (σ := (mS σ a t w r)) B fX12_141_12 dX12_word_15 (hl.n (k := 45) (by decide)) (hl.k (k := 45) (by decide)) (by decide) (v := nI a) mS_a ?_
  refine Z.istore B dX12_word_18 (by decide) (L' := [(0, .ref 45), (1, .int (nI 7)), (2, .int (nI (max a (a + amW T a 0)))), (3, .int (nI 1)), (4, .int (nI a)), (5, .int (nI (0 + amW T a 0)))]) rfl ?_
  refine Z.iload_n B dX12_word_20 (x := nI 7) rfl ?_
  refine Z.istore B dX12_word_21 (by decide) (L' := [(0, .ref 45), (1, .int (nI 7)), (2, .int (nI (max a (a + amW T a 0)))), (3, .int (nI 1)), (4, .int (nI a)), (5, .int (nI 7))]) rfl ?_
  refine wd_in_1 B hl ht ha (g := max a (a + amW T a 0)) ?_
  refine Z.aload_n B dX12_word_74 (v := .ref 45) rfl rfl ?_
  refine Z.getR (σ := (mS σ a t w r)) B fX12_60_12 dX12_word_75 (hl.n (k := 45) (by decide)) (hl.k (k := 45) (by decide)) (by decide) (j := 60) (hl.r (k := 45) (f := 19) (by decide) (by decide)) ?_
  refine Z.iload B dX12_word_78 (x := nI (7 + amW T a 1)) rfl ?_
  refine Z.iald (σ := (mS σ a t w r)) B dX12_word_80 (n := 26) (hl.n (k := 60) (by decide)) (hl.k (k := 60) (by decide)) (hl.l (k := 60) (by decide)) (by decide) (j := 7 + amW T a 1) rfl (by omega) (v := nI (wds (7 + amW T a 1))) (wds_at ht (by omega)) ?_
  have hz1 : wds (7 + amW T a 1) = 0 ↔ amW T a 1 = 6 := wds_Z 1 (by decide) _ (by show amW T a 1 ≤ 6; omega)
  have hzl1 : wds (7 + amW T a 1) < 2 ^ 31 := wds_lt _ (by omega)
  refine Z.if_neN B dX12_word_81 (tgt := 92) rfl (by omega) (fun h81 => (by omega)) (fun h81 => ?_)
  refine Z.aload_n B dX12_word_84 (v := .ref 45) rfl rfl ?_
  refine Z.iload B dX12_word_85 (x := nI (a + amW T a 1)) rfl ?_
  refine Z.putI (σ := (mS σ a t w r)) B fX12_141_12 (ty := .int) ⟨_, _, _, rfl, rfl, by decide +kernel⟩ dX12_word_87 (hl.n (k := 45) (by decide)) (hl.k (k := 45) (by decide)) (by decide) rfl rfl (τ := (zuX (mS σ a t w r) 45 (upd (zX (mS σ a t w r) 45) 22 (nI (a + amW T a 1))))) rfl ?_
  refine Z.eqσ (τ := (mS σ (a + amW T a 1) t w r)) mS_ua ?_
  refine Z.iload_n B dX12_word_90 (x := nI 1) rfl ?_
  refine Z.iret B Rt dX12_word_91 (ty := .int) rfl rfl (by decide) (by decide) ?_
  exact ⟨rfl, rfl⟩

theorem t_X12_word_2 {σ : zSt} {t w : Int32} {r : Nat → Int32} (hl : Lay σ) {s m : Nat} {T : Nat → Int32} (ht : zTm σ s m T) {a : Nat} (ha : a < 2 ^ 30) (h0 : ¬ amW T a 0 = 6) (h1 : ¬ amW T a 1 = 6) (h2 : amW T a 2 = 4) : Dt mX12_word [.ref 45] (mS σ a t w r) (some (.int (nI 2))) (mS σ (a + amW T a 2) t w r) := by
  obtain ⟨⟨hs8, hm160⟩, ⟨hbs, hen⟩, hT, hwd⟩ := id ht
  have hm0 : amW T a 0 ≤ 6 := am_s.1
  have hm1 : amW T a 1 ≤ 6 := am_s.1
  have hm2 : amW T a 2 ≤ 4 := am_s.1
  have hm3 : amW T a 3 ≤ 6 := am_s.1
  refine Dt.of (by decide) (Nat.le_of_ble_eq_true rfl) fun κ B Rt => ?_
  show Z κ 0 0 (mS σ a t w r) 0 [(0, .ref 45)] []
  refine Z.iconst B dX12_word_0 (v := nI 0) rfl ?_
  refine Z.istore_n B dX12_word_1 (by decide) (L' := [(0, .ref 45), (1, .int (nI 0))]) rfl ?_
  refine Z.aload_n B dX12_word_2 (v := .ref 45) rfl rfl ?_
  refine Z.getI (σ := (mS σ a t w r)) B fX12_141_12 dX12_word_3 (hl.n (k := 45) (by decide)) (hl.k (k := 45) (by decide)) (by decide) (v := nI a) mS_a ?_
  refine Z.istore_n B dX12_word_6 (by decide) (L' := [(0, .ref 45), (1, .int (nI 0)), (2, .int (nI a))]) rfl ?_
  refine Z.iconst B dX12_word_7 (v := nI 0) rfl ?_
  refine Z.istore_n B dX12_word_8 (by decide) (L' := [(0, .ref 45), (1, .int (nI 0)), (2, .int (nI a)), (3, .int (nI 0))]) rfl ?_
  refine Z.iload_n B dX12_word_9 (x := nI 0) rfl ?_
  refine Z.iconst B dX12_word_10 (v := nI 4) rfl ?_
  refine Z.icmp_geN B dX12_word_11 (tgt := 129) rfl (by omega) (by omega) (fun h11 => by exfalso; first | omega | contradiction | simp_all) (fun h11 => ?_)
  refine Z.aload_n B dX12_word_14 (v := .ref 45) rfl rfl ?_
  refine Z.getI (σ := (mS σ a t w r)) B fX12_141_12 dX12_word_15 (hl.n (k := 45) (by decide)) (hl.k (k := 45) (by decide)) (by decide) (v := nI a) mS_a ?_
  refine Z.istore B dX12_word_18 (by decide) (L' := [(0, .ref 45), (1, .int (nI 0)), (2, .int (nI a)), (3, .int (nI 0)), (4, .int (nI a))]) rfl ?_
  refine Z.iload_n B dX12_word_20 (x := nI 0) rfl ?_
  refine Z.istore B dX12_word_21 (by decide) (L' := [(0, .ref 45), (1, .int (nI 0)), (2, .int (nI a)), (3, .int (nI 0)), (4, .int (nI a)), (5, .int (nI 0))]) rfl ?_
  refine wd_in_0 B hl ht ha (g := a) ?_
  refine Z.aload_n B dX12_word_74 (v := .ref 45) rfl rfl ?_
  refine Z.getR (σ := (mS σ a t w r)) B fX12_60_12 dX12_word_75 (hl.n (k := 45) (by decide)) (hl.k (k := 45) (by decide)) (by decide) (j := 60) (hl.r (k := 45) (f := 19) (by decide) (by decide)) ?_
  refine Z.iload B dX12_word_78 (x := nI (0 + amW T a 0)) rfl ?_
  refine Z.iald (σ := (mS σ a t w r)) B dX12_word_80 (n := 26) (hl.n (k := 60) (by decide)) (hl.k (k := 60) (by decide)) (hl.l (k := 60) (by decide)) (by decide) (j := 0 + amW T a 0) rfl (by omega) (v := nI (wds (0 + amW T a 0))) (wds_at ht (by omega)) ?_
  have hz0 : wds (0 + amW T a 0) = 0 ↔ amW T a 0 = 6 := wds_Z 0 (by decide) _ (by show amW T a 0 ≤ 6; omega)
  have hzl0 : wds (0 + amW T a 0) < 2 ^ 31 := wds_lt _ (by omega)
  refine Z.if_neN B dX12_word_81 (tgt := 92) rfl (by omega) (fun h81 => ?_) (fun h81 => (by omega))
  refine wd_mx B (g := a) (q := a + amW T a 0) (by omega) (by omega) ?_
  refine Z.aload_n B dX12_word_105 (v := .ref 45) rfl rfl ?_
  refine Z.getR (σ := (mS σ a t w r)) B fX12_60_12 dX12_word_106 (hl.n (k := 45) (by decide)) (hl.k (k := 45) (by decide)) (by decide) (j := 60) (hl.r (k := 45) (f := 19) (by decide) (by decide)) ?_
  refine Z.iload_n B dX12_word_109 (x := nI 0) rfl ?_
  refine Z.iald (σ := (mS σ a t w r)) B dX12_word_110 (n := 26) (hl.n (k := 60) (by decide)) (hl.k (k := 60) (by decide)) (hl.l (k := 60) (by decide)) (by decide) (j := 0) rfl (by decide) (v := nI 99) (wds_at ht (j := 0) (by decide)) ?_
  refine Z.if_eqN B dX12_word_111 (tgt := 120) rfl (by omega) (fun h111 => by exfalso; first | omega | contradiction | simp_all) (fun h111 => ?_)
  refine Z.iinc B dX12_word_114 (by decide) (x := nI 0) rfl (v := nI 1) (nI_inc 0) (L' := [(0, .ref 45), (1, .int (nI 1)), (2, .int (nI (max a (a + amW T a 0)))), (3, .int (nI 0)), (4, .int (nI (a + amW T a 0))), (5, .int (nI (0 + amW T a 0)))]) rfl ?_
  refine Z.goto B dX12_word_117 (tgt := 105) rfl ?_
  refine Z.aload_n B dX12_word_105 (v := .ref 45) rfl rfl ?_
  refine Z.getR (σ := (mS σ a t w r)) B fX12_60_12 dX12_word_106 (hl.n (k := 45) (by decide)) (hl.k (k := 45) (by decide)) (by decide) (j := 60) (hl.r (k := 45) (f := 19) (by decide) (by decide)) ?_
  refine Z.iload_n B dX12_word_109 (x := nI 1) rfl ?_
  refine Z.iald (σ := (mS σ a t w r)) B dX12_word_110 (n := 26) (hl.n (k := 60) (by decide)) (hl.k (k := 60) (by decide)) (hl.l (k := 60) (by decide)) (by decide) (j := 1) rfl (by decide) (v := nI 111) (wds_at ht (j := 1) (by decide)) ?_
  refine Z.if_eqN B dX12_word_111 (tgt := 120) rfl (by omega) (fun h111 => by exfalso; first | omega | contradiction | simp_all) (fun h111 => ?_)
  refine Z.iinc B dX12_word_114 (by decide) (x := nI 1) rfl (v := nI 2) (nI_inc 1) (L' := [(0, .ref 45), (1, .int (nI 2)), (2, .int (nI (max a (a + amW T a 0)))), (3, .int (nI 0)), (4, .int (nI (a + amW T a 0))), (5, .int (nI (0 + amW T a 0)))]) rfl ?_
  refine Z.goto B dX12_word_117 (tgt := 105) rfl ?_
  refine Z.aload_n B dX12_word_105 (v := .ref 45) rfl rfl ?_
  refine Z.getR (σ := (mS σ a t w r)) B fX12_60_12 dX12_word_106 (hl.n (k := 45) (by decide)) (hl.k (k := 45) (by decide)) (by decide) (j := 60) (hl.r (k := 45) (f := 19) (by decide) (by decide)) ?_
  refine Z.iload_n B dX12_word_109 (x := nI 2) rfl ?_
  refine Z.iald (σ := (mS σ a t w r)) B dX12_word_110 (n := 26) (hl.n (k := 60) (by decide)) (hl.k (k := 60) (by decide)) (hl.l (k := 60) (by decide)) (by decide) (j := 2) rfl (by decide) (v := nI 109) (wds_at ht (j := 2) (by decide)) ?_
  refine Z.if_eqN B dX12_word_111 (tgt := 120) rfl (by omega) (fun h111 => by exfalso; first | omega | contradiction | simp_all) (fun h111 => ?_)
  refine Z.iinc B dX12_word_114 (by decide) (x := nI 2) rfl (v := nI 3) (nI_inc 2) (L' := [(0, .ref 45), (1, .int (nI 3)), (2, .int (nI (max a (a + amW T a 0)))), (3, .int (nI 0)), (4, .int (nI (a + amW T a 0))), (5, .int (nI (0 + amW T a 0)))]) rfl ?_
  refine Z.goto B dX12_word_117 (tgt := 105) rfl ?_
  refine Z.aload_n B dX12_word_105 (v := .ref 45) rfl rfl ?_
  refine Z.getR (σ := (mS σ a t w r)) B fX12_60_12 dX12_word_106 (hl.n (k := 45) (by decide)) (hl.k (k := 45) (by decide)) (by decide) (j := 60) (hl.r (k := 45) (f := 19) (by decide) (by decide)) ?_
  refine Z.iload_n B dX12_word_109 (x := nI 3) rfl ?_
  refine Z.iald (σ := (mS σ a t w r)) B dX12_word_110 (n := 26) (hl.n (k := 60) (by decide)) (hl.k (k := 60) (by decide)) (hl.l (k := 60) (by decide)) (by decide) (j := 3) rfl (by decide) (v := nI 101) (wds_at ht (j := 3) (by decide)) ?_
  refine Z.if_eqN B dX12_word_111 (tgt := 120) rfl (by omega) (fun h111 => by exfalso; first | omega | contradiction | simp_all) (fun h111 => ?_)
  refine Z.iinc B dX12_word_114 (by decide) (x := nI 3) rfl (v := nI 4) (nI_inc 3) (L' := [(0, .ref 45), (1, .int (nI 4)), (2, .int (nI (max a (a + amW T a 0)))), (3, .int (nI 0)), (4, .int (nI (a + amW T a 0))), (5, .int (nI (0 + amW T a 0)))]) rfl ?_
  refine Z.goto B dX12_word_117 (tgt := 105) rfl ?_
  refine Z.aload_n B dX12_word_105 (v := .ref 45) rfl rfl ?_
  refine Z.getR (σ := (mS σ a t w r)) B fX12_60_12 dX12_word_106 (hl.n (k := 45) (by decide)) (hl.k (k := 45) (by decide)) (by decide) (j := 60) (hl.r (k := 45) (f := 19) (by decide) (by decide)) ?_
  refine Z.iload_n B dX12_word_109 (x := nI 4) rfl ?_
  refine Z.iald (σ := (mS σ a t w r)) B dX12_word_110 (n := 26) (hl.n (k := 60) (by decide)) (hl.k (k := 60) (by decide)) (hl.l (k := 60) (by decide)) (by decide) (j := 4) rfl (by decide) (v := nI 114) (wds_at ht (j := 4) (by decide)) ?_
  refine Z.if_eqN B dX12_word_111 (tgt := 120) rfl (by omega) (fun h111 => by exfalso; first | omega | contradiction | simp_all) (fun h111 => ?_)
  refine Z.iinc B dX12_word_114 (by decide) (x := nI 4) rfl (v := nI 5) (nI_inc 4) (L' := [(0, .ref 45), (1, .int (nI 5)), (2, .int (nI (max a (a + amW T a 0)))), (3, .int (nI 0)), (4, .int (nI (a + amW T a 0))), (5, .int (nI (0 + amW T a 0)))]) rfl ?_
  refine Z.goto B dX12_word_117 (tgt := 105) rfl ?_
  refine Z.aload_n B dX12_word_105 (v := .ref 45) rfl rfl ?_
  refine Z.getR (σ := (mS σ a t w r)) B fX12_60_12 dX12_word_106 (hl.n (k := 45) (by decide)) (hl.k (k := 45) (by decide)) (by decide) (j := 60) (hl.r (k := 45) (f := 19) (by decide) (by decide)) ?_
  refine Z.iload_n B dX12_word_109 (x := nI 5) rfl ?_
  refine Z.iald (σ := (mS σ a t w r)) B dX12_word_110 (n := 26) (hl.n (k := 60) (by decide)) (hl.k (k := 60) (by decide)) (hl.l (k := 60) (by decide)) (by decide) (j := 5) rfl (by decide) (v := nI 32) (wds_at ht (j := 5) (by decide)) ?_
  refine Z.if_eqN B dX12_word_111 (tgt := 120) rfl (by omega) (fun h111 => by exfalso; first | omega | contradiction | simp_all) (fun h111 => ?_)
  refine Z.iinc B dX12_word_114 (by decide) (x := nI 5) rfl (v := nI 6) (nI_inc 5) (L' := [(0, .ref 45), (1, .int (nI 6)), (2, .int (nI (max a (a + amW T a 0)))), (3, .int (nI 0)), (4, .int (nI (a + amW T a 0))), (5, .int (nI (0 + amW T a 0)))]) rfl ?_
  refine Z.goto B dX12_word_117 (tgt := 105) rfl ?_
  refine Z.aload_n B dX12_word_105 (v := .ref 45) rfl rfl ?_
  refine Z.getR (σ := (mS σ a t w r)) B fX12_60_12 dX12_word_106 (hl.n (k := 45) (by decide)) (hl.k (k := 45) (by decide)) (by decide) (j := 60) (hl.r (k := 45) (f := 19) (by decide) (by decide)) ?_
  refine Z.iload_n B dX12_word_109 (x := nI 6) rfl ?_
  refine Z.iald (σ := (mS σ a t w r)) B dX12_word_110 (n := 26) (hl.n (k := 60) (by decide)) (hl.k (k := 60) (by decide)) (hl.l (k := 60) (by decide)) (by decide) (j := 6) rfl (by decide) (v := nI 0) (wds_at ht (j := 6) (by decide)) ?_
  refine Z.if_eqN B dX12_word_111 (tgt := 120) rfl (by omega) (fun h111 => ?_) (fun h111 => by exfalso; first | omega | contradiction | simp_all)
  refine Z.iinc B dX12_word_120 (by decide) (x := nI 6) rfl (v := nI 7) (nI_inc 6) (L' := [(0, .ref 45), (1, .int (nI 7)), (2, .int (nI (max a (a + amW T a 0)))), (3, .int (nI 0)), (4, .int (nI (a + amW T a 0))), (5, .int (nI (0 + amW T a 0)))]) rfl ?_
  refine Z.iinc B dX12_word_123 (by decide) (x := nI 0) rfl (v := nI 1) (nI_inc 0) (L' := [(0, .ref 45), (1, .int (nI 7)), (2, .int (nI (max a (a + amW T a 0)))), (3, .int (nI 1)), (4, .int (nI (a + amW T a 0))), (5, .int (nI (0 + amW T a 0)))]) rfl ?_
  refine Z.goto B dX12_word_126 (tgt := 9) rfl ?_
  refine Z.iload_n B dX12_word_9 (x := nI 1) rfl ?_
  refine Z.iconst B dX12_word_10 (v := nI 4) rfl ?_
  refine Z.icmp_geN B dX12_word_11 (tgt := 129) rfl (by omega) (by omega) (fun h11 => by exfalso; first | omega | contradiction | simp_all) (fun h11 => ?_)
  refine Z.aload_n B dX12_word_14 (v := .ref 45) rfl rfl ?_
  refine Z.getI (σ := (mS σ a t w r)) B fX12_141_12 dX12_word_15 (hl.n (k := 45) (by decide)) (hl.k (k := 45) (by decide)) (by decide) (v := nI a) mS_a ?_
  refine Z.istore B dX12_word_18 (by decide) (L' := [(0, .ref 45), (1, .int (nI 7)), (2, .int (nI (max a (a + amW T a 0)))), (3, .int (nI 1)), (4, .int (nI a)), (5, .int (nI (0 + amW T a 0)))]) rfl ?_
  refine Z.iload_n B dX12_word_20 (x := nI 7) rfl ?_
  refine Z.istore B dX12_word_21 (by decide) (L' := [(0, .ref 45), (1, .int (nI 7)), (2, .int (nI (max a (a + amW T a 0)))), (3, .int (nI 1)), (4, .int (nI a)), (5, .int (nI 7))]) rfl ?_
  refine wd_in_1 B hl ht ha (g := max a (a + amW T a 0)) ?_
  refine Z.aload_n B dX12_word_74 (v := .ref 45) rfl rfl ?_
  refine Z.getR (σ := (mS σ a t w r)) B fX12_60_12 dX12_word_75 (hl.n (k := 45) (by decide)) (hl.k (k := 45) (by decide)) (by decide) (j := 60) (hl.r (k := 45) (f := 19) (by decide) (by decide)) ?_
  refine Z.iload B dX12_word_78 (x := nI (7 + amW T a 1)) rfl ?_
  refine Z.iald (σ := (mS σ a t w r)) B dX12_word_80 (n := 26) (hl.n (k := 60) (by decide)) (hl.k (k := 60) (by decide)) (hl.l (k := 60) (by decide)) (by decide) (j := 7 + amW T a 1) rfl (by omega) (v := nI (wds (7 + amW T a 1))) (wds_at ht (by omega)) ?_
  have hz1 : wds (7 + amW T a 1) = 0 ↔ amW T a 1 = 6 := wds_Z 1 (by decide) _ (by show amW T a 1 ≤ 6; omega)
  have hzl1 : wds (7 + amW T a 1) < 2 ^ 31 := wds_lt _ (by omega)
  refine Z.if_neN B dX12_word_81 (tgt := 92) rfl (by omega) (fun h81 => ?_) (fun h81 => (by omega))
  refine wd_mx B (g := max a (a + amW T a 0)) (q := a + amW T a 1) (by omega) (by omega) ?_
  refine Z.aload_n B dX12_word_105 (v := .ref 45) rfl rfl ?_
  refine Z.getR (σ := (mS σ a t w r)) B fX12_60_12 dX12_word_106 (hl.n (k := 45) (by decide)) (hl.k (k := 45) (by decide)) (by decide) (j := 60) (hl.r (k := 45) (f := 19) (by decide) (by decide)) ?_
  refine Z.iload_n B dX12_word_109 (x := nI 7) rfl ?_
  refine Z.iald (σ := (mS σ a t w r)) B dX12_word_110 (n := 26) (hl.n (k := 60) (by decide)) (hl.k (k := 60) (by decide)) (hl.l (k := 60) (by decide)) (by decide) (j := 7) rfl (by decide) (v := nI 97) (wds_at ht (j := 7) (by decide)) ?_
  refine Z.if_eqN B dX12_word_111 (tgt := 120) rfl (by omega) (fun h111 => by exfalso; first | omega | contradiction | simp_all) (fun h111 => ?_)
  refine Z.iinc B dX12_word_114 (by decide) (x := nI 7) rfl (v := nI 8) (nI_inc 7) (L' := [(0, .ref 45), (1, .int (nI 8)), (2, .int (nI (max (max a (a + amW T a 0)) (a + amW T a 1)))), (3, .int (nI 1)), (4, .int (nI (a + amW T a 1))), (5, .int (nI (7 + amW T a 1)))]) rfl ?_
  refine Z.goto B dX12_word_117 (tgt := 105) rfl ?_
  refine Z.aload_n B dX12_word_105 (v := .ref 45) rfl rfl ?_
  refine Z.getR (σ := (mS σ a t w r)) B fX12_60_12 dX12_word_106 (hl.n (k := 45) (by decide)) (hl.k (k := 45) (by decide)) (by decide) (j := 60) (hl.r (k := 45) (f := 19) (by decide) (by decide)) ?_
  refine Z.iload_n B dX12_word_109 (x := nI 8) rfl ?_
  refine Z.iald (σ := (mS σ a t w r)) B dX12_word_110 (n := 26) (hl.n (k := 60) (by decide)) (hl.k (k := 60) (by decide)) (hl.l (k := 60) (by decide)) (by decide) (j := 8) rfl (by decide) (v := nI 115) (wds_at ht (j := 8) (by decide)) ?_
  refine Z.if_eqN B dX12_word_111 (tgt := 120) rfl (by omega) (fun h111 => by exfalso; first | omega | contradiction | simp_all) (fun h111 => ?_)
  refine Z.iinc B dX12_word_114 (by decide) (x := nI 8) rfl (v := nI 9) (nI_inc 8) (L' := [(0, .ref 45), (1, .int (nI 9)), (2, .int (nI (max (max a (a + amW T a 0)) (a + amW T a 1)))), (3, .int (nI 1)), (4, .int (nI (a + amW T a 1))), (5, .int (nI (7 + amW T a 1)))]) rfl ?_
  refine Z.goto B dX12_word_117 (tgt := 105) rfl ?_
  refine Z.aload_n B dX12_word_105 (v := .ref 45) rfl rfl ?_
  refine Z.getR (σ := (mS σ a t w r)) B fX12_60_12 dX12_word_106 (hl.n (k := 45) (by decide)) (hl.k (k := 45) (by decide)) (by decide) (j := 60) (hl.r (k := 45) (f := 19) (by decide) (by decide)) ?_
  refine Z.iload_n B dX12_word_109 (x := nI 9) rfl ?_
  refine Z.iald (σ := (mS σ a t w r)) B dX12_word_110 (n := 26) (hl.n (k := 60) (by decide)) (hl.k (k := 60) (by decide)) (hl.l (k := 60) (by decide)) (by decide) (j := 9) rfl (by decide) (v := nI 107) (wds_at ht (j := 9) (by decide)) ?_
  refine Z.if_eqN B dX12_word_111 (tgt := 120) rfl (by omega) (fun h111 => by exfalso; first | omega | contradiction | simp_all) (fun h111 => ?_)
  refine Z.iinc B dX12_word_114 (by decide) (x := nI 9) rfl (v := nI 10) (nI_inc 9) (L' := [(0, .ref 45), (1, .int (nI 10)), (2, .int (nI (max (max a (a + amW T a 0)) (a + amW T a 1)))), (3, .int (nI 1)), (4, .int (nI (a + amW T a 1))), (5, .int (nI (7 + amW T a 1)))]) rfl ?_
  refine Z.goto B dX12_word_117 (tgt := 105) rfl ?_
  refine Z.aload_n B dX12_word_105 (v := .ref 45) rfl rfl ?_
  refine Z.getR (σ := (mS σ a t w r)) B fX12_60_12 dX12_word_106 (hl.n (k := 45) (by decide)) (hl.k (k := 45) (by decide)) (by decide) (j := 60) (hl.r (k := 45) (f := 19) (by decide) (by decide)) ?_
  refine Z.iload_n B dX12_word_109 (x := nI 10) rfl ?_
  refine Z.iald (σ := (mS σ a t w r)) B dX12_word_110 (n := 26) (hl.n (k := 60) (by decide)) (hl.k (k := 60) (by decide)) (hl.l (k := 60) (by decide)) (by decide) (j := 10) rfl (by decide) (v := nI 101) (wds_at ht (j := 10) (by decide)) ?_
  refine Z.if_eqN B dX12_word_111 (tgt := 120) rfl (by omega) (fun h111 => by exfalso; first | omega | contradiction | simp_all) (fun h111 => ?_)
  refine Z.iinc B dX12_word_114 (by decide) (x := nI 10) rfl (v := nI 11) (nI_inc 10) (L' := [(0, .ref 45), (1, .int (nI 11)), (2, .int (nI (max (max a (a + amW T a 0)) (a + amW T a 1)))), (3, .int (nI 1)), (4, .int (nI (a + amW T a 1))), (5, .int (nI (7 + amW T a 1)))]) rfl ?_
  refine Z.goto B dX12_word_117 (tgt := 105) rfl ?_
  refine Z.aload_n B dX12_word_105 (v := .ref 45) rfl rfl ?_
  refine Z.getR (σ := (mS σ a t w r)) B fX12_60_12 dX12_word_106 (hl.n (k := 45) (by decide)) (hl.k (k := 45) (by decide)) (by decide) (j := 60) (hl.r (k := 45) (f := 19) (by decide) (by decide)) ?_
  refine Z.iload_n B dX12_word_109 (x := nI 11) rfl ?_
  refine Z.iald (σ := (mS σ a t w r)) B dX12_word_110 (n := 26) (hl.n (k := 60) (by decide)) (hl.k (k := 60) (by decide)) (hl.l (k := 60) (by decide)) (by decide) (j := 11) rfl (by decide) (v := nI 114) (wds_at ht (j := 11) (by decide)) ?_
  refine Z.if_eqN B dX12_word_111 (tgt := 120) rfl (by omega) (fun h111 => by exfalso; first | omega | contradiction | simp_all) (fun h111 => ?_)
  refine Z.iinc B dX12_word_114 (by decide) (x := nI 11) rfl (v := nI 12) (nI_inc 11) (L' := [(0, .ref 45), (1, .int (nI 12)), (2, .int (nI (max (max a (a + amW T a 0)) (a + amW T a 1)))), (3, .int (nI 1)), (4, .int (nI (a + amW T a 1))), (5, .int (nI (7 + amW T a 1)))]) rfl ?_
  refine Z.goto B dX12_word_117 (tgt := 105) rfl ?_
  refine Z.aload_n B dX12_word_105 (v := .ref 45) rfl rfl ?_
  refine Z.getR (σ := (mS σ a t w r)) B fX12_60_12 dX12_word_106 (hl.n (k := 45) (by decide)) (hl.k (k := 45) (by decide)) (by decide) (j := 60) (hl.r (k := 45) (f := 19) (by decide) (by decide)) ?_
  refine Z.iload_n B dX12_word_109 (x := nI 12) rfl ?_
  refine Z.iald (σ := (mS σ a t w r)) B dX12_word_110 (n := 26) (hl.n (k := 60) (by decide)) (hl.k (k := 60) (by decide)) (hl.l (k := 60) (by decide)) (by decide) (j := 12) rfl (by decide) (v := nI 32) (wds_at ht (j := 12) (by decide)) ?_
  refine Z.if_eqN B dX12_word_111 (tgt := 120) rfl (by omega) (fun h111 => by exfalso; first | omega | contradiction | simp_all) (fun h111 => ?_)
  refine Z.iinc B dX12_word_114 (by decide) (x := nI 12) rfl (v := nI 13) (nI_inc 12) (L' := [(0, .ref 45), (1, .int (nI 13)), (2, .int (nI (max (max a (a + amW T a 0)) (a + amW T a 1)))), (3, .int (nI 1)), (4, .int (nI (a + amW T a 1))), (5, .int (nI (7 + amW T a 1)))]) rfl ?_
  refine Z.goto B dX12_word_117 (tgt := 105) rfl ?_
  refine Z.aload_n B dX12_word_105 (v := .ref 45) rfl rfl ?_
  refine Z.getR (σ := (mS σ a t w r)) B fX12_60_12 dX12_word_106 (hl.n (k := 45) (by decide)) (hl.k (k := 45) (by decide)) (by decide) (j := 60) (hl.r (k := 45) (f := 19) (by decide) (by decide)) ?_
  refine Z.iload_n B dX12_word_109 (x := nI 13) rfl ?_
  refine Z.iald (σ := (mS σ a t w r)) B dX12_word_110 (n := 26) (hl.n (k := 60) (by decide)) (hl.k (k := 60) (by decide)) (hl.l (k := 60) (by decide)) (by decide) (j := 13) rfl (by decide) (v := nI 0) (wds_at ht (j := 13) (by decide)) ?_
  refine Z.if_eqN B dX12_word_111 (tgt := 120) rfl (by omega) (fun h111 => ?_) (fun h111 => by exfalso; first | omega | contradiction | simp_all)
  refine Z.iinc B dX12_word_120 (by decide) (x := nI 13) rfl (v := nI 14) (nI_inc 13) (L' := [(0, .ref 45), (1, .int (nI 14)), (2, .int (nI (max (max a (a + amW T a 0)) (a + amW T a 1)))), (3, .int (nI 1)), (4, .int (nI (a + amW T a 1))), (5, .int (nI (7 + amW T a 1)))]) rfl ?_
  refine Z.iinc B dX12_word_123 (by decide) (x := nI 1) rfl (v := nI 2) (nI_inc 1) (L' := [(0, .ref 45), (1, .int (nI 14)), (2, .int (nI (max (max a (a + amW T a 0)) (a + amW T a 1)))), (3, .int (nI 2)), (4, .int (nI (a + amW T a 1))), (5, .int (nI (7 + amW T a 1)))]) rfl ?_
  refine Z.goto B dX12_word_126 (tgt := 9) rfl ?_
  refine Z.iload_n B dX12_word_9 (x := nI 2) rfl ?_
  refine Z.iconst B dX12_word_10 (v := nI 4) rfl ?_
  refine Z.icmp_geN B dX12_word_11 (tgt := 129) rfl (by omega) (by omega) (fun h11 => by exfalso; first | omega | contradiction | simp_all) (fun h11 => ?_)
  refine Z.aload_n B dX12_word_14 (v := .ref 45) rfl rfl ?_
  refine Z.getI (σ := (mS σ a t w r)) B fX12_141_12 dX12_word_15 (hl.n (k := 45) (by decide)) (hl.k (k := 45) (by decide)) (by decide) (v := nI a) mS_a ?_
  refine Z.istore B dX12_word_18 (by decide) (L' := [(0, .ref 45), (1, .int (nI 14)), (2, .int (nI (max (max a (a + amW T a 0)) (a + amW T a 1)))), (3, .int (nI 2)), (4, .int (nI a)), (5, .int (nI (7 + amW T a 1)))]) rfl ?_
  refine Z.iload_n B dX12_word_20 (x := nI 14) rfl ?_
  refine Z.istore B dX12_word_21 (by decide) (L' := [(0, .ref 45), (1, .int (nI 14)), (2, .int (nI (max (max a (a + amW T a 0)) (a + amW T a 1)))), (3, .int (nI 2)), (4, .int (nI a)), (5, .int (nI 14))]) rfl ?_
  refine wd_in_2 B hl ht ha (g := max (max a (a + amW T a 0)) (a + amW T a 1)) ?_
  refine Z.aload_n B dX12_word_74 (v := .ref 45) rfl rfl ?_
  refine Z.getR (σ := (mS σ a t w r)) B fX12_60_12 dX12_word_75 (hl.n (k := 45) (by decide)) (hl.k (k := 45) (by decide)) (by decide) (j := 60) (hl.r (k := 45) (f := 19) (by decide) (by decide)) ?_
  refine Z.iload B dX12_word_78 (x := nI (14 + amW T a 2)) rfl ?_
  refine Z.iald (σ := (mS σ a t w r)) B dX12_word_80 (n := 26) (hl.n (k := 60) (by decide)) (hl.k (k := 60) (by decide)) (hl.l (k := 60) (by decide)) (by decide) (j := 14 + amW T a 2) rfl (by omega) (v := nI (wds (14 + amW T a 2))) (wds_at ht (by omega)) ?_
  have hz2 : wds (14 + amW T a 2) = 0 ↔ amW T a 2 = 4 := wds_Z 2 (by decide) _ (by show amW T a 2 ≤ 4; omega)
  have hzl2 : wds (14 + amW T a 2) < 2 ^ 31 := wds_lt _ (by omega)
  refine Z.if_neN B dX12_word_81 (tgt := 92) rfl (by omega) (fun h81 => (by omega)) (fun h81 => ?_)
  refine Z.aload_n B dX12_word_84 (v := .ref 45) rfl rfl ?_
  refine Z.iload B dX12_word_85 (x := nI (a + amW T a 2)) rfl ?_
  refine Z.putI (σ := (mS σ a t w r)) B fX12_141_12 (ty := .int) ⟨_, _, _, rfl, rfl, by decide +kernel⟩ dX12_word_87 (hl.n (k := 45) (by decide)) (hl.k (k := 45) (by decide)) (by decide) rfl rfl (τ := (zuX (mS σ a t w r) 45 (upd (zX (mS σ a t w r) 45) 22 (nI (a + amW T a 2))))) rfl ?_
  refine Z.eqσ (τ := (mS σ (a + amW T a 2) t w r)) mS_ua ?_
  refine Z.iload_n B dX12_word_90 (x := nI 2) rfl ?_
  refine Z.iret B Rt dX12_word_91 (ty := .int) rfl rfl (by decide) (by decide) ?_
  exact ⟨rfl, rfl⟩

theorem t_X12_word_3 {σ : zSt} {t w : Int32} {r : Nat → Int32} (hl : Lay σ) {s m : Nat} {T : Nat → Int32} (ht : zTm σ s m T) {a : Nat} (ha : a < 2 ^ 30) (h0 : ¬ amW T a 0 = 6) (h1 : ¬ amW T a 1 = 6) (h2 : ¬ amW T a 2 = 4) (h3 : amW T a 3 = 6) : Dt mX12_word [.ref 45] (mS σ a t w r) (some (.int (nI 3))) (mS σ (a + amW T a 3) t w r) := by
  obtain ⟨⟨hs8, hm160⟩, ⟨hbs, hen⟩, hT, hwd⟩ := id ht
  have hm0 : amW T a 0 ≤ 6 := am_s.1
  have hm1 : amW T a 1 ≤ 6 := am_s.1
  have hm2 : amW T a 2 ≤ 4 := am_s.1
  have hm3 : amW T a 3 ≤ 6 := am_s.1
  refine Dt.of (by decide) (Nat.le_of_ble_eq_true rfl) fun κ B Rt => ?_
  show Z κ 0 0 (mS σ a t w r) 0 [(0, .ref 45)] []
  refine Z.iconst B dX12_word_0 (v := nI 0) rfl ?_
  refine Z.istore_n B dX12_word_1 (by decide) (L' := [(0, .ref 45), (1, .int (nI 0))]) rfl ?_
  refine Z.aload_n B dX12_word_2 (v := .ref 45) rfl rfl ?_
  refine Z.getI (σ := (mS σ a t w r)) B fX12_141_12 dX12_word_3 (hl.n (k := 45) (by decide)) (hl.k (k := 45) (by decide)) (by decide) (v := nI a) mS_a ?_
  refine Z.istore_n B dX12_word_6 (by decide) (L' := [(0, .ref 45), (1, .int (nI 0)), (2, .int (nI a))]) rfl ?_
  refine Z.iconst B dX12_word_7 (v := nI 0) rfl ?_
  refine Z.istore_n B dX12_word_8 (by decide) (L' := [(0, .ref 45), (1, .int (nI 0)), (2, .int (nI a)), (3, .int (nI 0))]) rfl ?_
  refine Z.iload_n B dX12_word_9 (x := nI 0) rfl ?_
  refine Z.iconst B dX12_word_10 (v := nI 4) rfl ?_
  refine Z.icmp_geN B dX12_word_11 (tgt := 129) rfl (by omega) (by omega) (fun h11 => by exfalso; first | omega | contradiction | simp_all) (fun h11 => ?_)
  refine Z.aload_n B dX12_word_14 (v := .ref 45) rfl rfl ?_
  refine Z.getI (σ := (mS σ a t w r)) B fX12_141_12 dX12_word_15 (hl.n (k := 45) (by decide)) (hl.k (k := 45) (by decide)) (by decide) (v := nI a) mS_a ?_
  refine Z.istore B dX12_word_18 (by decide) (L' := [(0, .ref 45), (1, .int (nI 0)), (2, .int (nI a)), (3, .int (nI 0)), (4, .int (nI a))]) rfl ?_
  refine Z.iload_n B dX12_word_20 (x := nI 0) rfl ?_
  refine Z.istore B dX12_word_21 (by decide) (L' := [(0, .ref 45), (1, .int (nI 0)), (2, .int (nI a)), (3, .int (nI 0)), (4, .int (nI a)), (5, .int (nI 0))]) rfl ?_
  refine wd_in_0 B hl ht ha (g := a) ?_
  refine Z.aload_n B dX12_word_74 (v := .ref 45) rfl rfl ?_
  refine Z.getR (σ := (mS σ a t w r)) B fX12_60_12 dX12_word_75 (hl.n (k := 45) (by decide)) (hl.k (k := 45) (by decide)) (by decide) (j := 60) (hl.r (k := 45) (f := 19) (by decide) (by decide)) ?_
  refine Z.iload B dX12_word_78 (x := nI (0 + amW T a 0)) rfl ?_
  refine Z.iald (σ := (mS σ a t w r)) B dX12_word_80 (n := 26) (hl.n (k := 60) (by decide)) (hl.k (k := 60) (by decide)) (hl.l (k := 60) (by decide)) (by decide) (j := 0 + amW T a 0) rfl (by omega) (v := nI (wds (0 + amW T a 0))) (wds_at ht (by omega)) ?_
  have hz0 : wds (0 + amW T a 0) = 0 ↔ amW T a 0 = 6 := wds_Z 0 (by decide) _ (by show amW T a 0 ≤ 6; omega)
  have hzl0 : wds (0 + amW T a 0) < 2 ^ 31 := wds_lt _ (by omega)
  refine Z.if_neN B dX12_word_81 (tgt := 92) rfl (by omega) (fun h81 => ?_) (fun h81 => (by omega))
  refine wd_mx B (g := a) (q := a + amW T a 0) (by omega) (by omega) ?_
  refine Z.aload_n B dX12_word_105 (v := .ref 45) rfl rfl ?_
  refine Z.getR (σ := (mS σ a t w r)) B fX12_60_12 dX12_word_106 (hl.n (k := 45) (by decide)) (hl.k (k := 45) (by decide)) (by decide) (j := 60) (hl.r (k := 45) (f := 19) (by decide) (by decide)) ?_
  refine Z.iload_n B dX12_word_109 (x := nI 0) rfl ?_
  refine Z.iald (σ := (mS σ a t w r)) B dX12_word_110 (n := 26) (hl.n (k := 60) (by decide)) (hl.k (k := 60) (by decide)) (hl.l (k := 60) (by decide)) (by decide) (j := 0) rfl (by decide) (v := nI 99) (wds_at ht (j := 0) (by decide)) ?_
  refine Z.if_eqN B dX12_word_111 (tgt := 120) rfl (by omega) (fun h111 => by exfalso; first | omega | contradiction | simp_all) (fun h111 => ?_)
  refine Z.iinc B dX12_word_114 (by decide) (x := nI 0) rfl (v := nI 1) (nI_inc 0) (L' := [(0, .ref 45), (1, .int (nI 1)), (2, .int (nI (max a (a + amW T a 0)))), (3, .int (nI 0)), (4, .int (nI (a + amW T a 0))), (5, .int (nI (0 + amW T a 0)))]) rfl ?_
  refine Z.goto B dX12_word_117 (tgt := 105) rfl ?_
  refine Z.aload_n B dX12_word_105 (v := .ref 45) rfl rfl ?_
  refine Z.getR (σ := (mS σ a t w r)) B fX12_60_12 dX12_word_106 (hl.n (k := 45) (by decide)) (hl.k (k := 45) (by decide)) (by decide) (j := 60) (hl.r (k := 45) (f := 19) (by decide) (by decide)) ?_
  refine Z.iload_n B dX12_word_109 (x := nI 1) rfl ?_
  refine Z.iald (σ := (mS σ a t w r)) B dX12_word_110 (n := 26) (hl.n (k := 60) (by decide)) (hl.k (k := 60) (by decide)) (hl.l (k := 60) (by decide)) (by decide) (j := 1) rfl (by decide) (v := nI 111) (wds_at ht (j := 1) (by decide)) ?_
  refine Z.if_eqN B dX12_word_111 (tgt := 120) rfl (by omega) (fun h111 => by exfalso; first | omega | contradiction | simp_all) (fun h111 => ?_)
  refine Z.iinc B dX12_word_114 (by decide) (x := nI 1) rfl (v := nI 2) (nI_inc 1) (L' := [(0, .ref 45), (1, .int (nI 2)), (2, .int (nI (max a (a + amW T a 0)))), (3, .int (nI 0)), (4, .int (nI (a + amW T a 0))), (5, .int (nI (0 + amW T a 0)))]) rfl ?_
  refine Z.goto B dX12_word_117 (tgt := 105) rfl ?_
  refine Z.aload_n B dX12_word_105 (v := .ref 45) rfl rfl ?_
  refine Z.getR (σ := (mS σ a t w r)) B fX12_60_12 dX12_word_106 (hl.n (k := 45) (by decide)) (hl.k (k := 45) (by decide)) (by decide) (j := 60) (hl.r (k := 45) (f := 19) (by decide) (by decide)) ?_
  refine Z.iload_n B dX12_word_109 (x := nI 2) rfl ?_
  refine Z.iald (σ := (mS σ a t w r)) B dX12_word_110 (n := 26) (hl.n (k := 60) (by decide)) (hl.k (k := 60) (by decide)) (hl.l (k := 60) (by decide)) (by decide) (j := 2) rfl (by decide) (v := nI 109) (wds_at ht (j := 2) (by decide)) ?_
  refine Z.if_eqN B dX12_word_111 (tgt := 120) rfl (by omega) (fun h111 => by exfalso; first | omega | contradiction | simp_all) (fun h111 => ?_)
  refine Z.iinc B dX12_word_114 (by decide) (x := nI 2) rfl (v := nI 3) (nI_inc 2) (L' := [(0, .ref 45), (1, .int (nI 3)), (2, .int (nI (max a (a + amW T a 0)))), (3, .int (nI 0)), (4, .int (nI (a + amW T a 0))), (5, .int (nI (0 + amW T a 0)))]) rfl ?_
  refine Z.goto B dX12_word_117 (tgt := 105) rfl ?_
  refine Z.aload_n B dX12_word_105 (v := .ref 45) rfl rfl ?_
  refine Z.getR (σ := (mS σ a t w r)) B fX12_60_12 dX12_word_106 (hl.n (k := 45) (by decide)) (hl.k (k := 45) (by decide)) (by decide) (j := 60) (hl.r (k := 45) (f := 19) (by decide) (by decide)) ?_
  refine Z.iload_n B dX12_word_109 (x := nI 3) rfl ?_
  refine Z.iald (σ := (mS σ a t w r)) B dX12_word_110 (n := 26) (hl.n (k := 60) (by decide)) (hl.k (k := 60) (by decide)) (hl.l (k := 60) (by decide)) (by decide) (j := 3) rfl (by decide) (v := nI 101) (wds_at ht (j := 3) (by decide)) ?_
  refine Z.if_eqN B dX12_word_111 (tgt := 120) rfl (by omega) (fun h111 => by exfalso; first | omega | contradiction | simp_all) (fun h111 => ?_)
  refine Z.iinc B dX12_word_114 (by decide) (x := nI 3) rfl (v := nI 4) (nI_inc 3) (L' := [(0, .ref 45), (1, .int (nI 4)), (2, .int (nI (max a (a + amW T a 0)))), (3, .int (nI 0)), (4, .int (nI (a + amW T a 0))), (5, .int (nI (0 + amW T a 0)))]) rfl ?_
  refine Z.goto B dX12_word_117 (tgt := 105) rfl ?_
  refine Z.aload_n B dX12_word_105 (v := .ref 45) rfl rfl ?_
  refine Z.getR (σ := (mS σ a t w r)) B fX12_60_12 dX12_word_106 (hl.n (k := 45) (by decide)) (hl.k (k := 45) (by decide)) (by decide) (j := 60) (hl.r (k := 45) (f := 19) (by decide) (by decide)) ?_
  refine Z.iload_n B dX12_word_109 (x := nI 4) rfl ?_
  refine Z.iald (σ := (mS σ a t w r)) B dX12_word_110 (n := 26) (hl.n (k := 60) (by decide)) (hl.k (k := 60) (by decide)) (hl.l (k := 60) (by decide)) (by decide) (j := 4) rfl (by decide) (v := nI 114) (wds_at ht (j := 4) (by decide)) ?_
  refine Z.if_eqN B dX12_word_111 (tgt := 120) rfl (by omega) (fun h111 => by exfalso; first | omega | contradiction | simp_all) (fun h111 => ?_)
  refine Z.iinc B dX12_word_114 (by decide) (x := nI 4) rfl (v := nI 5) (nI_inc 4) (L' := [(0, .ref 45), (1, .int (nI 5)), (2, .int (nI (max a (a + amW T a 0)))), (3, .int (nI 0)), (4, .int (nI (a + amW T a 0))), (5, .int (nI (0 + amW T a 0)))]) rfl ?_
  refine Z.goto B dX12_word_117 (tgt := 105) rfl ?_
  refine Z.aload_n B dX12_word_105 (v := .ref 45) rfl rfl ?_
  refine Z.getR (σ := (mS σ a t w r)) B fX12_60_12 dX12_word_106 (hl.n (k := 45) (by decide)) (hl.k (k := 45) (by decide)) (by decide) (j := 60) (hl.r (k := 45) (f := 19) (by decide) (by decide)) ?_
  refine Z.iload_n B dX12_word_109 (x := nI 5) rfl ?_
  refine Z.iald (σ := (mS σ a t w r)) B dX12_word_110 (n := 26) (hl.n (k := 60) (by decide)) (hl.k (k := 60) (by decide)) (hl.l (k := 60) (by decide)) (by decide) (j := 5) rfl (by decide) (v := nI 32) (wds_at ht (j := 5) (by decide)) ?_
  refine Z.if_eqN B dX12_word_111 (tgt := 120) rfl (by omega) (fun h111 => by exfalso; first | omega | contradiction | simp_all) (fun h111 => ?_)
  refine Z.iinc B dX12_word_114 (by decide) (x := nI 5) rfl (v := nI 6) (nI_inc 5) (L' := [(0, .ref 45), (1, .int (nI 6)), (2, .int (nI (max a (a + amW T a 0)))), (3, .int (nI 0)), (4, .int (nI (a + amW T a 0))), (5, .int (nI (0 + amW T a 0)))]) rfl ?_
  refine Z.goto B dX12_word_117 (tgt := 105) rfl ?_
  refine Z.aload_n B dX12_word_105 (v := .ref 45) rfl rfl ?_
  refine Z.getR (σ := (mS σ a t w r)) B fX12_60_12 dX12_word_106 (hl.n (k := 45) (by decide)) (hl.k (k := 45) (by decide)) (by decide) (j := 60) (hl.r (k := 45) (f := 19) (by decide) (by decide)) ?_
  refine Z.iload_n B dX12_word_109 (x := nI 6) rfl ?_
  refine Z.iald (σ := (mS σ a t w r)) B dX12_word_110 (n := 26) (hl.n (k := 60) (by decide)) (hl.k (k := 60) (by decide)) (hl.l (k := 60) (by decide)) (by decide) (j := 6) rfl (by decide) (v := nI 0) (wds_at ht (j := 6) (by decide)) ?_
  refine Z.if_eqN B dX12_word_111 (tgt := 120) rfl (by omega) (fun h111 => ?_) (fun h111 => by exfalso; first | omega | contradiction | simp_all)
  refine Z.iinc B dX12_word_120 (by decide) (x := nI 6) rfl (v := nI 7) (nI_inc 6) (L' := [(0, .ref 45), (1, .int (nI 7)), (2, .int (nI (max a (a + amW T a 0)))), (3, .int (nI 0)), (4, .int (nI (a + amW T a 0))), (5, .int (nI (0 + amW T a 0)))]) rfl ?_
  refine Z.iinc B dX12_word_123 (by decide) (x := nI 0) rfl (v := nI 1) (nI_inc 0) (L' := [(0, .ref 45), (1, .int (nI 7)), (2, .int (nI (max a (a + amW T a 0)))), (3, .int (nI 1)), (4, .int (nI (a + amW T a 0))), (5, .int (nI (0 + amW T a 0)))]) rfl ?_
  refine Z.goto B dX12_word_126 (tgt := 9) rfl ?_
  refine Z.iload_n B dX12_word_9 (x := nI 1) rfl ?_
  refine Z.iconst B dX12_word_10 (v := nI 4) rfl ?_
  refine Z.icmp_geN B dX12_word_11 (tgt := 129) rfl (by omega) (by omega) (fun h11 => by exfalso; first | omega | contradiction | simp_all) (fun h11 => ?_)
  refine Z.aload_n B dX12_word_14 (v := .ref 45) rfl rfl ?_
  refine Z.getI (σ := (mS σ a t w r)) B fX12_141_12 dX12_word_15 (hl.n (k := 45) (by decide)) (hl.k (k := 45) (by decide)) (by decide) (v := nI a) mS_a ?_
  refine Z.istore B dX12_word_18 (by decide) (L' := [(0, .ref 45), (1, .int (nI 7)), (2, .int (nI (max a (a + amW T a 0)))), (3, .int (nI 1)), (4, .int (nI a)), (5, .int (nI (0 + amW T a 0)))]) rfl ?_
  refine Z.iload_n B dX12_word_20 (x := nI 7) rfl ?_
  refine Z.istore B dX12_word_21 (by decide) (L' := [(0, .ref 45), (1, .int (nI 7)), (2, .int (nI (max a (a + amW T a 0)))), (3, .int (nI 1)), (4, .int (nI a)), (5, .int (nI 7))]) rfl ?_
  refine wd_in_1 B hl ht ha (g := max a (a + amW T a 0)) ?_
  refine Z.aload_n B dX12_word_74 (v := .ref 45) rfl rfl ?_
  refine Z.getR (σ := (mS σ a t w r)) B fX12_60_12 dX12_word_75 (hl.n (k := 45) (by decide)) (hl.k (k := 45) (by decide)) (by decide) (j := 60) (hl.r (k := 45) (f := 19) (by decide) (by decide)) ?_
  refine Z.iload B dX12_word_78 (x := nI (7 + amW T a 1)) rfl ?_
  refine Z.iald (σ := (mS σ a t w r)) B dX12_word_80 (n := 26) (hl.n (k := 60) (by decide)) (hl.k (k := 60) (by decide)) (hl.l (k := 60) (by decide)) (by decide) (j := 7 + amW T a 1) rfl (by omega) (v := nI (wds (7 + amW T a 1))) (wds_at ht (by omega)) ?_
  have hz1 : wds (7 + amW T a 1) = 0 ↔ amW T a 1 = 6 := wds_Z 1 (by decide) _ (by show amW T a 1 ≤ 6; omega)
  have hzl1 : wds (7 + amW T a 1) < 2 ^ 31 := wds_lt _ (by omega)
  refine Z.if_neN B dX12_word_81 (tgt := 92) rfl (by omega) (fun h81 => ?_) (fun h81 => (by omega))
  refine wd_mx B (g := max a (a + amW T a 0)) (q := a + amW T a 1) (by omega) (by omega) ?_
  refine Z.aload_n B dX12_word_105 (v := .ref 45) rfl rfl ?_
  refine Z.getR (σ := (mS σ a t w r)) B fX12_60_12 dX12_word_106 (hl.n (k := 45) (by decide)) (hl.k (k := 45) (by decide)) (by decide) (j := 60) (hl.r (k := 45) (f := 19) (by decide) (by decide)) ?_
  refine Z.iload_n B dX12_word_109 (x := nI 7) rfl ?_
  refine Z.iald (σ := (mS σ a t w r)) B dX12_word_110 (n := 26) (hl.n (k := 60) (by decide)) (hl.k (k := 60) (by decide)) (hl.l (k := 60) (by decide)) (by decide) (j := 7) rfl (by decide) (v := nI 97) (wds_at ht (j := 7) (by decide)) ?_
  refine Z.if_eqN B dX12_word_111 (tgt := 120) rfl (by omega) (fun h111 => by exfalso; first | omega | contradiction | simp_all) (fun h111 => ?_)
  refine Z.iinc B dX12_word_114 (by decide) (x := nI 7) rfl (v := nI 8) (nI_inc 7) (L' := [(0, .ref 45), (1, .int (nI 8)), (2, .int (nI (max (max a (a + amW T a 0)) (a + amW T a 1)))), (3, .int (nI 1)), (4, .int (nI (a + amW T a 1))), (5, .int (nI (7 + amW T a 1)))]) rfl ?_
  refine Z.goto B dX12_word_117 (tgt := 105) rfl ?_
  refine Z.aload_n B dX12_word_105 (v := .ref 45) rfl rfl ?_
  refine Z.getR (σ := (mS σ a t w r)) B fX12_60_12 dX12_word_106 (hl.n (k := 45) (by decide)) (hl.k (k := 45) (by decide)) (by decide) (j := 60) (hl.r (k := 45) (f := 19) (by decide) (by decide)) ?_
  refine Z.iload_n B dX12_word_109 (x := nI 8) rfl ?_
  refine Z.iald (σ := (mS σ a t w r)) B dX12_word_110 (n := 26) (hl.n (k := 60) (by decide)) (hl.k (k := 60) (by decide)) (hl.l (k := 60) (by decide)) (by decide) (j := 8) rfl (by decide) (v := nI 115) (wds_at ht (j := 8) (by decide)) ?_
  refine Z.if_eqN B dX12_word_111 (tgt := 120) rfl (by omega) (fun h111 => by exfalso; first | omega | contradiction | simp_all) (fun h111 => ?_)
  refine Z.iinc B dX12_word_114 (by decide) (x := nI 8) rfl (v := nI 9) (nI_inc 8) (L' := [(0, .ref 45), (1, .int (nI 9)), (2, .int (nI (max (max a (a + amW T a 0)) (a + amW T a 1)))), (3, .int (nI 1)), (4, .int (nI (a + amW T a 1))), (5, .int (nI (7 + amW T a 1)))]) rfl ?_
  refine Z.goto B dX12_word_117 (tgt := 105) rfl ?_
  refine Z.aload_n B dX12_word_105 (v := .ref 45) rfl rfl ?_
  refine Z.getR (σ := (mS σ a t w r)) B fX12_60_12 dX12_word_106 (hl.n (k := 45) (by decide)) (hl.k (k := 45) (by decide)) (by decide) (j := 60) (hl.r (k := 45) (f := 19) (by decide) (by decide)) ?_
  refine Z.iload_n B dX12_word_109 (x := nI 9) rfl ?_
  refine Z.iald (σ := (mS σ a t w r)) B dX12_word_110 (n := 26) (hl.n (k := 60) (by decide)) (hl.k (k := 60) (by decide)) (hl.l (k := 60) (by decide)) (by decide) (j := 9) rfl (by decide) (v := nI 107) (wds_at ht (j := 9) (by decide)) ?_
  refine Z.if_eqN B dX12_word_111 (tgt := 120) rfl (by omega) (fun h111 => by exfalso; first | omega | contradiction | simp_all) (fun h111 => ?_)
  refine Z.iinc B dX12_word_114 (by decide) (x := nI 9) rfl (v := nI 10) (nI_inc 9) (L' := [(0, .ref 45), (1, .int (nI 10)), (2, .int (nI (max (max a (a + amW T a 0)) (a + amW T a 1)))), (3, .int (nI 1)), (4, .int (nI (a + amW T a 1))), (5, .int (nI (7 + amW T a 1)))]) rfl ?_
  refine Z.goto B dX12_word_117 (tgt := 105) rfl ?_
  refine Z.aload_n B dX12_word_105 (v := .ref 45) rfl rfl ?_
  refine Z.getR (σ := (mS σ a t w r)) B fX12_60_12 dX12_word_106 (hl.n (k := 45) (by decide)) (hl.k (k := 45) (by decide)) (by decide) (j := 60) (hl.r (k := 45) (f := 19) (by decide) (by decide)) ?_
  refine Z.iload_n B dX12_word_109 (x := nI 10) rfl ?_
  refine Z.iald (σ := (mS σ a t w r)) B dX12_word_110 (n := 26) (hl.n (k := 60) (by decide)) (hl.k (k := 60) (by decide)) (hl.l (k := 60) (by decide)) (by decide) (j := 10) rfl (by decide) (v := nI 101) (wds_at ht (j := 10) (by decide)) ?_
  refine Z.if_eqN B dX12_word_111 (tgt := 120) rfl (by omega) (fun h111 => by exfalso; first | omega | contradiction | simp_all) (fun h111 => ?_)
  refine Z.iinc B dX12_word_114 (by decide) (x := nI 10) rfl (v := nI 11) (nI_inc 10) (L' := [(0, .ref 45), (1, .int (nI 11)), (2, .int (nI (max (max a (a + amW T a 0)) (a + amW T a 1)))), (3, .int (nI 1)), (4, .int (nI (a + amW T a 1))), (5, .int (nI (7 + amW T a 1)))]) rfl ?_
  refine Z.goto B dX12_word_117 (tgt := 105) rfl ?_
  refine Z.aload_n B dX12_word_105 (v := .ref 45) rfl rfl ?_
  refine Z.getR (σ := (mS σ a t w r)) B fX12_60_12 dX12_word_106 (hl.n (k := 45) (by decide)) (hl.k (k := 45) (by decide)) (by decide) (j := 60) (hl.r (k := 45) (f := 19) (by decide) (by decide)) ?_
  refine Z.iload_n B dX12_word_109 (x := nI 11) rfl ?_
  refine Z.iald (σ := (mS σ a t w r)) B dX12_word_110 (n := 26) (hl.n (k := 60) (by decide)) (hl.k (k := 60) (by decide)) (hl.l (k := 60) (by decide)) (by decide) (j := 11) rfl (by decide) (v := nI 114) (wds_at ht (j := 11) (by decide)) ?_
  refine Z.if_eqN B dX12_word_111 (tgt := 120) rfl (by omega) (fun h111 => by exfalso; first | omega | contradiction | simp_all) (fun h111 => ?_)
  refine Z.iinc B dX12_word_114 (by decide) (x := nI 11) rfl (v := nI 12) (nI_inc 11) (L' := [(0, .ref 45), (1, .int (nI 12)), (2, .int (nI (max (max a (a + amW T a 0)) (a + amW T a 1)))), (3, .int (nI 1)), (4, .int (nI (a + amW T a 1))), (5, .int (nI (7 + amW T a 1)))]) rfl ?_
  refine Z.goto B dX12_word_117 (tgt := 105) rfl ?_
  refine Z.aload_n B dX12_word_105 (v := .ref 45) rfl rfl ?_
  refine Z.getR (σ := (mS σ a t w r)) B fX12_60_12 dX12_word_106 (hl.n (k := 45) (by decide)) (hl.k (k := 45) (by decide)) (by decide) (j := 60) (hl.r (k := 45) (f := 19) (by decide) (by decide)) ?_
  refine Z.iload_n B dX12_word_109 (x := nI 12) rfl ?_
  refine Z.iald (σ := (mS σ a t w r)) B dX12_word_110 (n := 26) (hl.n (k := 60) (by decide)) (hl.k (k := 60) (by decide)) (hl.l (k := 60) (by decide)) (by decide) (j := 12) rfl (by decide) (v := nI 32) (wds_at ht (j := 12) (by decide)) ?_
  refine Z.if_eqN B dX12_word_111 (tgt := 120) rfl (by omega) (fun h111 => by exfalso; first | omega | contradiction | simp_all) (fun h111 => ?_)
  refine Z.iinc B dX12_word_114 (by decide) (x := nI 12) rfl (v := nI 13) (nI_inc 12) (L' := [(0, .ref 45), (1, .int (nI 13)), (2, .int (nI (max (max a (a + amW T a 0)) (a + amW T a 1)))), (3, .int (nI 1)), (4, .int (nI (a + amW T a 1))), (5, .int (nI (7 + amW T a 1)))]) rfl ?_
  refine Z.goto B dX12_word_117 (tgt := 105) rfl ?_
  refine Z.aload_n B dX12_word_105 (v := .ref 45) rfl rfl ?_
  refine Z.getR (σ := (mS σ a t w r)) B fX12_60_12 dX12_word_106 (hl.n (k := 45) (by decide)) (hl.k (k := 45) (by decide)) (by decide) (j := 60) (hl.r (k := 45) (f := 19) (by decide) (by decide)) ?_
  refine Z.iload_n B dX12_word_109 (x := nI 13) rfl ?_
  refine Z.iald (σ := (mS σ a t w r)) B dX12_word_110 (n := 26) (hl.n (k := 60) (by decide)) (hl.k (k := 60) (by decide)) (hl.l (k := 60) (by decide)) (by decide) (j := 13) rfl (by decide) (v := nI 0) (wds_at ht (j := 13) (by decide)) ?_
  refine Z.if_eqN B dX12_word_111 (tgt := 120) rfl (by omega) (fun h111 => ?_) (fun h111 => by exfalso; first | omega | contradiction | simp_all)
  refine Z.iinc B dX12_word_120 (by decide) (x := nI 13) rfl (v := nI 14) (nI_inc 13) (L' := [(0, .ref 45), (1, .int (nI 14)), (2, .int (nI (max (max a (a + amW T a 0)) (a + amW T a 1)))), (3, .int (nI 1)), (4, .int (nI (a + amW T a 1))), (5, .int (nI (7 + amW T a 1)))]) rfl ?_
  refine Z.iinc B dX12_word_123 (by decide) (x := nI 1) rfl (v := nI 2) (nI_inc 1) (L' := [(0, .ref 45), (1, .int (nI 14)), (2, .int (nI (max (max a (a + amW T a 0)) (a + amW T a 1)))), (3, .int (nI 2)), (4, .int (nI (a + amW T a 1))), (5, .int (nI (7 + amW T a 1)))]) rfl ?_
  refine Z.goto B dX12_word_126 (tgt := 9) rfl ?_
  refine Z.iload_n B dX12_word_9 (x := nI 2) rfl ?_
  refine Z.iconst B dX12_word_10 (v := nI 4) rfl ?_
  refine Z.icmp_geN B dX12_word_11 (tgt := 129) rfl (by omega) (by omega) (fun h11 => by exfalso; first | omega | contradiction | simp_all) (fun h11 => ?_)
  refine Z.aload_n B dX12_word_14 (v := .ref 45) rfl rfl ?_
  refine Z.getI (σ := (mS σ a t w r)) B fX12_141_12 dX12_word_15 (hl.n (k := 45) (by decide)) (hl.k (k := 45) (by decide)) (by decide) (v := nI a) mS_a ?_
  refine Z.istore B dX12_word_18 (by decide) (L' := [(0, .ref 45), (1, .int (nI 14)), (2, .int (nI (max (max a (a + amW T a 0)) (a + amW T a 1)))), (3, .int (nI 2)), (4, .int (nI a)), (5, .int (nI (7 + amW T a 1)))]) rfl ?_
  refine Z.iload_n B dX12_word_20 (x := nI 14) rfl ?_
  refine Z.istore B dX12_word_21 (by decide) (L' := [(0, .ref 45), (1, .int (nI 14)), (2, .int (nI (max (max a (a + amW T a 0)) (a + amW T a 1)))), (3, .int (nI 2)), (4, .int (nI a)), (5, .int (nI 14))]) rfl ?_
  refine wd_in_2 B hl ht ha (g := max (max a (a + amW T a 0)) (a + amW T a 1)) ?_
  refine Z.aload_n B dX12_word_74 (v := .ref 45) rfl rfl ?_
  refine Z.getR (σ := (mS σ a t w r)) B fX12_60_12 dX12_word_75 (hl.n (k := 45) (by decide)) (hl.k (k := 45) (by decide)) (by decide) (j := 60) (hl.r (k := 45) (f := 19) (by decide) (by decide)) ?_
  refine Z.iload B dX12_word_78 (x := nI (14 + amW T a 2)) rfl ?_
  refine Z.iald (σ := (mS σ a t w r)) B dX12_word_80 (n := 26) (hl.n (k := 60) (by decide)) (hl.k (k := 60) (by decide)) (hl.l (k := 60) (by decide)) (by decide) (j := 14 + amW T a 2) rfl (by omega) (v := nI (wds (14 + amW T a 2))) (wds_at ht (by omega)) ?_
  have hz2 : wds (14 + amW T a 2) = 0 ↔ amW T a 2 = 4 := wds_Z 2 (by decide) _ (by show amW T a 2 ≤ 4; omega)
  have hzl2 : wds (14 + amW T a 2) < 2 ^ 31 := wds_lt _ (by omega)
  refine Z.if_neN B dX12_word_81 (tgt := 92) rfl (by omega) (fun h81 => ?_) (fun h81 => (by omega))
  refine wd_mx B (g := max (max a (a + amW T a 0)) (a + amW T a 1)) (q := a + amW T a 2) (by omega) (by omega) ?_
  refine Z.aload_n B dX12_word_105 (v := .ref 45) rfl rfl ?_
  refine Z.getR (σ := (mS σ a t w r)) B fX12_60_12 dX12_word_106 (hl.n (k := 45) (by decide)) (hl.k (k := 45) (by decide)) (by decide) (j := 60) (hl.r (k := 45) (f := 19) (by decide) (by decide)) ?_
  refine Z.iload_n B dX12_word_109 (x := nI 14) rfl ?_
  refine Z.iald (σ := (mS σ a t w r)) B dX12_word_110 (n := 26) (hl.n (k := 60) (by decide)) (hl.k (k := 60) (by decide)) (hl.l (k := 60) (by decide)) (by decide) (j := 14) rfl (by decide) (v := nI 119) (wds_at ht (j := 14) (by decide)) ?_
  refine Z.if_eqN B dX12_word_111 (tgt := 120) rfl (by omega) (fun h111 => by exfalso; first | omega | contradiction | simp_all) (fun h111 => ?_)
  refine Z.iinc B dX12_word_114 (by decide) (x := nI 14) rfl (v := nI 15) (nI_inc 14) (L' := [(0, .ref 45), (1, .int (nI 15)), (2, .int (nI (max (max (max a (a + amW T a 0)) (a + amW T a 1)) (a + amW T a 2)))), (3, .int (nI 2)), (4, .int (nI (a + amW T a 2))), (5, .int (nI (14 + amW T a 2)))]) rfl ?_
  refine Z.goto B dX12_word_117 (tgt := 105) rfl ?_
  refine Z.aload_n B dX12_word_105 (v := .ref 45) rfl rfl ?_
  refine Z.getR (σ := (mS σ a t w r)) B fX12_60_12 dX12_word_106 (hl.n (k := 45) (by decide)) (hl.k (k := 45) (by decide)) (by decide) (j := 60) (hl.r (k := 45) (f := 19) (by decide) (by decide)) ?_
  refine Z.iload_n B dX12_word_109 (x := nI 15) rfl ?_
  refine Z.iald (σ := (mS σ a t w r)) B dX12_word_110 (n := 26) (hl.n (k := 60) (by decide)) (hl.k (k := 60) (by decide)) (hl.l (k := 60) (by decide)) (by decide) (j := 15) rfl (by decide) (v := nI 97) (wds_at ht (j := 15) (by decide)) ?_
  refine Z.if_eqN B dX12_word_111 (tgt := 120) rfl (by omega) (fun h111 => by exfalso; first | omega | contradiction | simp_all) (fun h111 => ?_)
  refine Z.iinc B dX12_word_114 (by decide) (x := nI 15) rfl (v := nI 16) (nI_inc 15) (L' := [(0, .ref 45), (1, .int (nI 16)), (2, .int (nI (max (max (max a (a + amW T a 0)) (a + amW T a 1)) (a + amW T a 2)))), (3, .int (nI 2)), (4, .int (nI (a + amW T a 2))), (5, .int (nI (14 + amW T a 2)))]) rfl ?_
  refine Z.goto B dX12_word_117 (tgt := 105) rfl ?_
  refine Z.aload_n B dX12_word_105 (v := .ref 45) rfl rfl ?_
  refine Z.getR (σ := (mS σ a t w r)) B fX12_60_12 dX12_word_106 (hl.n (k := 45) (by decide)) (hl.k (k := 45) (by decide)) (by decide) (j := 60) (hl.r (k := 45) (f := 19) (by decide) (by decide)) ?_
  refine Z.iload_n B dX12_word_109 (x := nI 16) rfl ?_
  refine Z.iald (σ := (mS σ a t w r)) B dX12_word_110 (n := 26) (hl.n (k := 60) (by decide)) (hl.k (k := 60) (by decide)) (hl.l (k := 60) (by decide)) (by decide) (j := 16) rfl (by decide) (v := nI 121) (wds_at ht (j := 16) (by decide)) ?_
  refine Z.if_eqN B dX12_word_111 (tgt := 120) rfl (by omega) (fun h111 => by exfalso; first | omega | contradiction | simp_all) (fun h111 => ?_)
  refine Z.iinc B dX12_word_114 (by decide) (x := nI 16) rfl (v := nI 17) (nI_inc 16) (L' := [(0, .ref 45), (1, .int (nI 17)), (2, .int (nI (max (max (max a (a + amW T a 0)) (a + amW T a 1)) (a + amW T a 2)))), (3, .int (nI 2)), (4, .int (nI (a + amW T a 2))), (5, .int (nI (14 + amW T a 2)))]) rfl ?_
  refine Z.goto B dX12_word_117 (tgt := 105) rfl ?_
  refine Z.aload_n B dX12_word_105 (v := .ref 45) rfl rfl ?_
  refine Z.getR (σ := (mS σ a t w r)) B fX12_60_12 dX12_word_106 (hl.n (k := 45) (by decide)) (hl.k (k := 45) (by decide)) (by decide) (j := 60) (hl.r (k := 45) (f := 19) (by decide) (by decide)) ?_
  refine Z.iload_n B dX12_word_109 (x := nI 17) rfl ?_
  refine Z.iald (σ := (mS σ a t w r)) B dX12_word_110 (n := 26) (hl.n (k := 60) (by decide)) (hl.k (k := 60) (by decide)) (hl.l (k := 60) (by decide)) (by decide) (j := 17) rfl (by decide) (v := nI 32) (wds_at ht (j := 17) (by decide)) ?_
  refine Z.if_eqN B dX12_word_111 (tgt := 120) rfl (by omega) (fun h111 => by exfalso; first | omega | contradiction | simp_all) (fun h111 => ?_)
  refine Z.iinc B dX12_word_114 (by decide) (x := nI 17) rfl (v := nI 18) (nI_inc 17) (L' := [(0, .ref 45), (1, .int (nI 18)), (2, .int (nI (max (max (max a (a + amW T a 0)) (a + amW T a 1)) (a + amW T a 2)))), (3, .int (nI 2)), (4, .int (nI (a + amW T a 2))), (5, .int (nI (14 + amW T a 2)))]) rfl ?_
  refine Z.goto B dX12_word_117 (tgt := 105) rfl ?_
  refine Z.aload_n B dX12_word_105 (v := .ref 45) rfl rfl ?_
  refine Z.getR (σ := (mS σ a t w r)) B fX12_60_12 dX12_word_106 (hl.n (k := 45) (by decide)) (hl.k (k := 45) (by decide)) (by decide) (j := 60) (hl.r (k := 45) (f := 19) (by decide) (by decide)) ?_
  refine Z.iload_n B dX12_word_109 (x := nI 18) rfl ?_
  refine Z.iald (σ := (mS σ a t w r)) B dX12_word_110 (n := 26) (hl.n (k := 60) (by decide)) (hl.k (k := 60) (by decide)) (hl.l (k := 60) (by decide)) (by decide) (j := 18) rfl (by decide) (v := nI 0) (wds_at ht (j := 18) (by decide)) ?_
  refine Z.if_eqN B dX12_word_111 (tgt := 120) rfl (by omega) (fun h111 => ?_) (fun h111 => by exfalso; first | omega | contradiction | simp_all)
  refine Z.iinc B dX12_word_120 (by decide) (x := nI 18) rfl (v := nI 19) (nI_inc 18) (L' := [(0, .ref 45), (1, .int (nI 19)), (2, .int (nI (max (max (max a (a + amW T a 0)) (a + amW T a 1)) (a + amW T a 2)))), (3, .int (nI 2)), (4, .int (nI (a + amW T a 2))), (5, .int (nI (14 + amW T a 2)))]) rfl ?_
  refine Z.iinc B dX12_word_123 (by decide) (x := nI 2) rfl (v := nI 3) (nI_inc 2) (L' := [(0, .ref 45), (1, .int (nI 19)), (2, .int (nI (max (max (max a (a + amW T a 0)) (a + amW T a 1)) (a + amW T a 2)))), (3, .int (nI 3)), (4, .int (nI (a + amW T a 2))), (5, .int (nI (14 + amW T a 2)))]) rfl ?_
  refine Z.goto B dX12_word_126 (tgt := 9) rfl ?_
  refine Z.iload_n B dX12_word_9 (x := nI 3) rfl ?_
  refine Z.iconst B dX12_word_10 (v := nI 4) rfl ?_
  refine Z.icmp_geN B dX12_word_11 (tgt := 129) rfl (by omega) (by omega) (fun h11 => by exfalso; first | omega | contradiction | simp_all) (fun h11 => ?_)
  refine Z.aload_n B dX12_word_14 (v := .ref 45) rfl rfl ?_
  refine Z.getI (σ := (mS σ a t w r)) B fX12_141_12 dX12_word_15 (hl.n (k := 45) (by decide)) (hl.k (k := 45) (by decide)) (by decide) (v := nI a) mS_a ?_
  refine Z.istore B dX12_word_18 (by decide) (L' := [(0, .ref 45), (1, .int (nI 19)), (2, .int (nI (max (max (max a (a + amW T a 0)) (a + amW T a 1)) (a + amW T a 2)))), (3, .int (nI 3)), (4, .int (nI a)), (5, .int (nI (14 + amW T a 2)))]) rfl ?_
  refine Z.iload_n B dX12_word_20 (x := nI 19) rfl ?_
  refine Z.istore B dX12_word_21 (by decide) (L' := [(0, .ref 45), (1, .int (nI 19)), (2, .int (nI (max (max (max a (a + amW T a 0)) (a + amW T a 1)) (a + amW T a 2)))), (3, .int (nI 3)), (4, .int (nI a)), (5, .int (nI 19))]) rfl ?_
  refine wd_in_3 B hl ht ha (g := max (max (max a (a + amW T a 0)) (a + amW T a 1)) (a + amW T a 2)) ?_
  refine Z.aload_n B dX12_word_74 (v := .ref 45) rfl rfl ?_
  refine Z.getR (σ := (mS σ a t w r)) B fX12_60_12 dX12_word_75 (hl.n (k := 45) (by decide)) (hl.k (k := 45) (by decide)) (by decide) (j := 60) (hl.r (k := 45) (f := 19) (by decide) (by decide)) ?_
  refine Z.iload B dX12_word_78 (x := nI (19 + amW T a 3)) rfl ?_
  refine Z.iald (σ := (mS σ a t w r)) B dX12_word_80 (n := 26) (hl.n (k := 60) (by decide)) (hl.k (k := 60) (by decide)) (hl.l (k := 60) (by decide)) (by decide) (j := 19 + amW T a 3) rfl (by omega) (v := nI (wds (19 + amW T a 3))) (wds_at ht (by omega)) ?_
  have hz3 : wds (19 + amW T a 3) = 0 ↔ amW T a 3 = 6 := wds_Z 3 (by decide) _ (by show amW T a 3 ≤ 6; omega)
  have hzl3 : wds (19 + amW T a 3) < 2 ^ 31 := wds_lt _ (by omega)
  refine Z.if_neN B dX12_word_81 (tgt := 92) rfl (by omega) (fun h81 => (by omega)) (fun h81 => ?_)
  refine Z.aload_n B dX12_word_84 (v := .ref 45) rfl rfl ?_
  refine Z.iload B dX12_word_85 (x := nI (a + amW T a 3)) rfl ?_
  refine Z.putI (σ := (mS σ a t w r)) B fX12_141_12 (ty := .int) ⟨_, _, _, rfl, rfl, by decide +kernel⟩ dX12_word_87 (hl.n (k := 45) (by decide)) (hl.k (k := 45) (by decide)) (by decide) rfl rfl (τ := (zuX (mS σ a t w r) 45 (upd (zX (mS σ a t w r) 45) 22 (nI (a + amW T a 3))))) rfl ?_
  refine Z.eqσ (τ := (mS σ (a + amW T a 3) t w r)) mS_ua ?_
  refine Z.iload_n B dX12_word_90 (x := nI 3) rfl ?_
  refine Z.iret B Rt dX12_word_91 (ty := .int) rfl rfl (by decide) (by decide) ?_
  exact ⟨rfl, rfl⟩

theorem t_X12_word_4 {σ : zSt} {t w : Int32} {r : Nat → Int32} (hl : Lay σ) {s m : Nat} {T : Nat → Int32} (ht : zTm σ s m T) {a : Nat} (ha : a < 2 ^ 30) (h0 : ¬ amW T a 0 = 6) (h1 : ¬ amW T a 1 = 6) (h2 : ¬ amW T a 2 = 4) (h3 : ¬ amW T a 3 = 6)  : Dt mX12_word [.ref 45] (mS σ a t w r) (some (.int (-1))) (mS σ a t (nI (max (max (max (max a (a + amW T a 0)) (a + amW T a 1)) (a + amW T a 2)) (a + amW T a 3))) r) := by
  obtain ⟨⟨hs8, hm160⟩, ⟨hbs, hen⟩, hT, hwd⟩ := id ht
  have hm0 : amW T a 0 ≤ 6 := am_s.1
  have hm1 : amW T a 1 ≤ 6 := am_s.1
  have hm2 : amW T a 2 ≤ 4 := am_s.1
  have hm3 : amW T a 3 ≤ 6 := am_s.1
  refine Dt.of (by decide) (Nat.le_of_ble_eq_true rfl) fun κ B Rt => ?_
  show Z κ 0 0 (mS σ a t w r) 0 [(0, .ref 45)] []
  refine Z.iconst B dX12_word_0 (v := nI 0) rfl ?_
  refine Z.istore_n B dX12_word_1 (by decide) (L' := [(0, .ref 45), (1, .int (nI 0))]) rfl ?_
  refine Z.aload_n B dX12_word_2 (v := .ref 45) rfl rfl ?_
  refine Z.getI (σ := (mS σ a t w r)) B fX12_141_12 dX12_word_3 (hl.n (k := 45) (by decide)) (hl.k (k := 45) (by decide)) (by decide) (v := nI a) mS_a ?_
  refine Z.istore_n B dX12_word_6 (by decide) (L' := [(0, .ref 45), (1, .int (nI 0)), (2, .int (nI a))]) rfl ?_
  refine Z.iconst B dX12_word_7 (v := nI 0) rfl ?_
  refine Z.istore_n B dX12_word_8 (by decide) (L' := [(0, .ref 45), (1, .int (nI 0)), (2, .int (nI a)), (3, .int (nI 0))]) rfl ?_
  refine Z.iload_n B dX12_word_9 (x := nI 0) rfl ?_
  refine Z.iconst B dX12_word_10 (v := nI 4) rfl ?_
  refine Z.icmp_geN B dX12_word_11 (tgt := 129) rfl (by omega) (by omega) (fun h11 => by exfalso; first | omega | contradiction | simp_all) (fun h11 => ?_)
  refine Z.aload_n B dX12_word_14 (v := .ref 45) rfl rfl ?_
  refine Z.getI (σ := (mS σ a t w r)) B fX12_141_12 dX12_word_15 (hl.n (k := 45) (by decide)) (hl.k (k := 45) (by decide)) (by decide) (v := nI a) mS_a ?_
  refine Z.istore B dX12_word_18 (by decide) (L' := [(0, .ref 45), (1, .int (nI 0)), (2, .int (nI a)), (3, .int (nI 0)), (4, .int (nI a))]) rfl ?_
  refine Z.iload_n B dX12_word_20 (x := nI 0) rfl ?_
  refine Z.istore B dX12_word_21 (by decide) (L' := [(0, .ref 45), (1, .int (nI 0)), (2, .int (nI a)), (3, .int (nI 0)), (4, .int (nI a)), (5, .int (nI 0))]) rfl ?_
  refine wd_in_0 B hl ht ha (g := a) ?_
  refine Z.aload_n B dX12_word_74 (v := .ref 45) rfl rfl ?_
  refine Z.getR (σ := (mS σ a t w r)) B fX12_60_12 dX12_word_75 (hl.n (k := 45) (by decide)) (hl.k (k := 45) (by decide)) (by decide) (j := 60) (hl.r (k := 45) (f := 19) (by decide) (by decide)) ?_
  refine Z.iload B dX12_word_78 (x := nI (0 + amW T a 0)) rfl ?_
  refine Z.iald (σ := (mS σ a t w r)) B dX12_word_80 (n := 26) (hl.n (k := 60) (by decide)) (hl.k (k := 60) (by decide)) (hl.l (k := 60) (by decide)) (by decide) (j := 0 + amW T a 0) rfl (by omega) (v := nI (wds (0 + amW T a 0))) (wds_at ht (by omega)) ?_
  have hz0 : wds (0 + amW T a 0) = 0 ↔ amW T a 0 = 6 := wds_Z 0 (by decide) _ (by show amW T a 0 ≤ 6; omega)
  have hzl0 : wds (0 + amW T a 0) < 2 ^ 31 := wds_lt _ (by omega)
  refine Z.if_neN B dX12_word_81 (tgt := 92) rfl (by omega) (fun h81 => ?_) (fun h81 => (by omega))
  refine wd_mx B (g := a) (q := a + amW T a 0) (by omega) (by omega) ?_
  refine Z.aload_n B dX12_word_105 (v := .ref 45) rfl rfl ?_
  refine Z.getR (σ := (mS σ a t w r)) B fX12_60_12 dX12_word_106 (hl.n (k := 45) (by decide)) (hl.k (k := 45) (by decide)) (by decide) (j := 60) (hl.r (k := 45) (f := 19) (by decide) (by decide)) ?_
  refine Z.iload_n B dX12_word_109 (x := nI 0) rfl ?_
  refine Z.iald (σ := (mS σ a t w r)) B dX12_word_110 (n := 26) (hl.n (k := 60) (by decide)) (hl.k (k := 60) (by decide)) (hl.l (k := 60) (by decide)) (by decide) (j := 0) rfl (by decide) (v := nI 99) (wds_at ht (j := 0) (by decide)) ?_
  refine Z.if_eqN B dX12_word_111 (tgt := 120) rfl (by omega) (fun h111 => by exfalso; first | omega | contradiction | simp_all) (fun h111 => ?_)
  refine Z.iinc B dX12_word_114 (by decide) (x := nI 0) rfl (v := nI 1) (nI_inc 0) (L' := [(0, .ref 45), (1, .int (nI 1)), (2, .int (nI (max a (a + amW T a 0)))), (3, .int (nI 0)), (4, .int (nI (a + amW T a 0))), (5, .int (nI (0 + amW T a 0)))]) rfl ?_
  refine Z.goto B dX12_word_117 (tgt := 105) rfl ?_
  refine Z.aload_n B dX12_word_105 (v := .ref 45) rfl rfl ?_
  refine Z.getR (σ := (mS σ a t w r)) B fX12_60_12 dX12_word_106 (hl.n (k := 45) (by decide)) (hl.k (k := 45) (by decide)) (by decide) (j := 60) (hl.r (k := 45) (f := 19) (by decide) (by decide)) ?_
  refine Z.iload_n B dX12_word_109 (x := nI 1) rfl ?_
  refine Z.iald (σ := (mS σ a t w r)) B dX12_word_110 (n := 26) (hl.n (k := 60) (by decide)) (hl.k (k := 60) (by decide)) (hl.l (k := 60) (by decide)) (by decide) (j := 1) rfl (by decide) (v := nI 111) (wds_at ht (j := 1) (by decide)) ?_
  refine Z.if_eqN B dX12_word_111 (tgt := 120) rfl (by omega) (fun h111 => by exfalso; first | omega | contradiction | simp_all) (fun h111 => ?_)
  refine Z.iinc B dX12_word_114 (by decide) (x := nI 1) rfl (v := nI 2) (nI_inc 1) (L' := [(0, .ref 45), (1, .int (nI 2)), (2, .int (nI (max a (a + amW T a 0)))), (3, .int (nI 0)), (4, .int (nI (a + amW T a 0))), (5, .int (nI (0 + amW T a 0)))]) rfl ?_
  refine Z.goto B dX12_word_117 (tgt := 105) rfl ?_
  refine Z.aload_n B dX12_word_105 (v := .ref 45) rfl rfl ?_
  refine Z.getR (σ := (mS σ a t w r)) B fX12_60_12 dX12_word_106 (hl.n (k := 45) (by decide)) (hl.k (k := 45) (by decide)) (by decide) (j := 60) (hl.r (k := 45) (f := 19) (by decide) (by decide)) ?_
  refine Z.iload_n B dX12_word_109 (x := nI 2) rfl ?_
  refine Z.iald (σ := (mS σ a t w r)) B dX12_word_110 (n := 26) (hl.n (k := 60) (by decide)) (hl.k (k := 60) (by decide)) (hl.l (k := 60) (by decide)) (by decide) (j := 2) rfl (by decide) (v := nI 109) (wds_at ht (j := 2) (by decide)) ?_
  refine Z.if_eqN B dX12_word_111 (tgt := 120) rfl (by omega) (fun h111 => by exfalso; first | omega | contradiction | simp_all) (fun h111 => ?_)
  refine Z.iinc B dX12_word_114 (by decide) (x := nI 2) rfl (v := nI 3) (nI_inc 2) (L' := [(0, .ref 45), (1, .int (nI 3)), (2, .int (nI (max a (a + amW T a 0)))), (3, .int (nI 0)), (4, .int (nI (a + amW T a 0))), (5, .int (nI (0 + amW T a 0)))]) rfl ?_
  refine Z.goto B dX12_word_117 (tgt := 105) rfl ?_
  refine Z.aload_n B dX12_word_105 (v := .ref 45) rfl rfl ?_
  refine Z.getR (σ := (mS σ a t w r)) B fX12_60_12 dX12_word_106 (hl.n (k := 45) (by decide)) (hl.k (k := 45) (by decide)) (by decide) (j := 60) (hl.r (k := 45) (f := 19) (by decide) (by decide)) ?_
  refine Z.iload_n B dX12_word_109 (x := nI 3) rfl ?_
  refine Z.iald (σ := (mS σ a t w r)) B dX12_word_110 (n := 26) (hl.n (k := 60) (by decide)) (hl.k (k := 60) (by decide)) (hl.l (k := 60) (by decide)) (by decide) (j := 3) rfl (by decide) (v := nI 101) (wds_at ht (j := 3) (by decide)) ?_
  refine Z.if_eqN B dX12_word_111 (tgt := 120) rfl (by omega) (fun h111 => by exfalso; first | omega | contradiction | simp_all) (fun h111 => ?_)
  refine Z.iinc B dX12_word_114 (by decide) (x := nI 3) rfl (v := nI 4) (nI_inc 3) (L' := [(0, .ref 45), (1, .int (nI 4)), (2, .int (nI (max a (a + amW T a 0)))), (3, .int (nI 0)), (4, .int (nI (a + amW T a 0))), (5, .int (nI (0 + amW T a 0)))]) rfl ?_
  refine Z.goto B dX12_word_117 (tgt := 105) rfl ?_
  refine Z.aload_n B dX12_word_105 (v := .ref 45) rfl rfl ?_
  refine Z.getR (σ := (mS σ a t w r)) B fX12_60_12 dX12_word_106 (hl.n (k := 45) (by decide)) (hl.k (k := 45) (by decide)) (by decide) (j := 60) (hl.r (k := 45) (f := 19) (by decide) (by decide)) ?_
  refine Z.iload_n B dX12_word_109 (x := nI 4) rfl ?_
  refine Z.iald (σ := (mS σ a t w r)) B dX12_word_110 (n := 26) (hl.n (k := 60) (by decide)) (hl.k (k := 60) (by decide)) (hl.l (k := 60) (by decide)) (by decide) (j := 4) rfl (by decide) (v := nI 114) (wds_at ht (j := 4) (by decide)) ?_
  refine Z.if_eqN B dX12_word_111 (tgt := 120) rfl (by omega) (fun h111 => by exfalso; first | omega | contradiction | simp_all) (fun h111 => ?_)
  refine Z.iinc B dX12_word_114 (by decide) (x := nI 4) rfl (v := nI 5) (nI_inc 4) (L' := [(0, .ref 45), (1, .int (nI 5)), (2, .int (nI (max a (a + amW T a 0)))), (3, .int (nI 0)), (4, .int (nI (a + amW T a 0))), (5, .int (nI (0 + amW T a 0)))]) rfl ?_
  refine Z.goto B dX12_word_117 (tgt := 105) rfl ?_
  refine Z.aload_n B dX12_word_105 (v := .ref 45) rfl rfl ?_
  refine Z.getR (σ := (mS σ a t w r)) B fX12_60_12 dX12_word_106 (hl.n (k := 45) (by decide)) (hl.k (k := 45) (by decide)) (by decide) (j := 60) (hl.r (k := 45) (f := 19) (by decide) (by decide)) ?_
  refine Z.iload_n B dX12_word_109 (x := nI 5) rfl ?_
  refine Z.iald (σ := (mS σ a t w r)) B dX12_word_110 (n := 26) (hl.n (k := 60) (by decide)) (hl.k (k := 60) (by decide)) (hl.l (k := 60) (by decide)) (by decide) (j := 5) rfl (by decide) (v := nI 32) (wds_at ht (j := 5) (by decide)) ?_
  refine Z.if_eqN B dX12_word_111 (tgt := 120) rfl (by omega) (fun h111 => by exfalso; first | omega | contradiction | simp_all) (fun h111 => ?_)
  refine Z.iinc B dX12_word_114 (by decide) (x := nI 5) rfl (v := nI 6) (nI_inc 5) (L' := [(0, .ref 45), (1, .int (nI 6)), (2, .int (nI (max a (a + amW T a 0)))), (3, .int (nI 0)), (4, .int (nI (a + amW T a 0))), (5, .int (nI (0 + amW T a 0)))]) rfl ?_
  refine Z.goto B dX12_word_117 (tgt := 105) rfl ?_
  refine Z.aload_n B dX12_word_105 (v := .ref 45) rfl rfl ?_
  refine Z.getR (σ := (mS σ a t w r)) B fX12_60_12 dX12_word_106 (hl.n (k := 45) (by decide)) (hl.k (k := 45) (by decide)) (by decide) (j := 60) (hl.r (k := 45) (f := 19) (by decide) (by decide)) ?_
  refine Z.iload_n B dX12_word_109 (x := nI 6) rfl ?_
  refine Z.iald (σ := (mS σ a t w r)) B dX12_word_110 (n := 26) (hl.n (k := 60) (by decide)) (hl.k (k := 60) (by decide)) (hl.l (k := 60) (by decide)) (by decide) (j := 6) rfl (by decide) (v := nI 0) (wds_at ht (j := 6) (by decide)) ?_
  refine Z.if_eqN B dX12_word_111 (tgt := 120) rfl (by omega) (fun h111 => ?_) (fun h111 => by exfalso; first | omega | contradiction | simp_all)
  refine Z.iinc B dX12_word_120 (by decide) (x := nI 6) rfl (v := nI 7) (nI_inc 6) (L' := [(0, .ref 45), (1, .int (nI 7)), (2, .int (nI (max a (a + amW T a 0)))), (3, .int (nI 0)), (4, .int (nI (a + amW T a 0))), (5, .int (nI (0 + amW T a 0)))]) rfl ?_
  refine Z.iinc B dX12_word_123 (by decide) (x := nI 0) rfl (v := nI 1) (nI_inc 0) (L' := [(0, .ref 45), (1, .int (nI 7)), (2, .int (nI (max a (a + amW T a 0)))), (3, .int (nI 1)), (4, .int (nI (a + amW T a 0))), (5, .int (nI (0 + amW T a 0)))]) rfl ?_
  refine Z.goto B dX12_word_126 (tgt := 9) rfl ?_
  refine Z.iload_n B dX12_word_9 (x := nI 1) rfl ?_
  refine Z.iconst B dX12_word_10 (v := nI 4) rfl ?_
  refine Z.icmp_geN B dX12_word_11 (tgt := 129) rfl (by omega) (by omega) (fun h11 => by exfalso; first | omega | contradiction | simp_all) (fun h11 => ?_)
  refine Z.aload_n B dX12_word_14 (v := .ref 45) rfl rfl ?_
  refine Z.getI (σ := (mS σ a t w r)) B fX12_141_12 dX12_word_15 (hl.n (k := 45) (by decide)) (hl.k (k := 45) (by decide)) (by decide) (v := nI a) mS_a ?_
  refine Z.istore B dX12_word_18 (by decide) (L' := [(0, .ref 45), (1, .int (nI 7)), (2, .int (nI (max a (a + amW T a 0)))), (3, .int (nI 1)), (4, .int (nI a)), (5, .int (nI (0 + amW T a 0)))]) rfl ?_
  refine Z.iload_n B dX12_word_20 (x := nI 7) rfl ?_
  refine Z.istore B dX12_word_21 (by decide) (L' := [(0, .ref 45), (1, .int (nI 7)), (2, .int (nI (max a (a + amW T a 0)))), (3, .int (nI 1)), (4, .int (nI a)), (5, .int (nI 7))]) rfl ?_
  refine wd_in_1 B hl ht ha (g := max a (a + amW T a 0)) ?_
  refine Z.aload_n B dX12_word_74 (v := .ref 45) rfl rfl ?_
  refine Z.getR (σ := (mS σ a t w r)) B fX12_60_12 dX12_word_75 (hl.n (k := 45) (by decide)) (hl.k (k := 45) (by decide)) (by decide) (j := 60) (hl.r (k := 45) (f := 19) (by decide) (by decide)) ?_
  refine Z.iload B dX12_word_78 (x := nI (7 + amW T a 1)) rfl ?_
  refine Z.iald (σ := (mS σ a t w r)) B dX12_word_80 (n := 26) (hl.n (k := 60) (by decide)) (hl.k (k := 60) (by decide)) (hl.l (k := 60) (by decide)) (by decide) (j := 7 + amW T a 1) rfl (by omega) (v := nI (wds (7 + amW T a 1))) (wds_at ht (by omega)) ?_
  have hz1 : wds (7 + amW T a 1) = 0 ↔ amW T a 1 = 6 := wds_Z 1 (by decide) _ (by show amW T a 1 ≤ 6; omega)
  have hzl1 : wds (7 + amW T a 1) < 2 ^ 31 := wds_lt _ (by omega)
  refine Z.if_neN B dX12_word_81 (tgt := 92) rfl (by omega) (fun h81 => ?_) (fun h81 => (by omega))
  refine wd_mx B (g := max a (a + amW T a 0)) (q := a + amW T a 1) (by omega) (by omega) ?_
  refine Z.aload_n B dX12_word_105 (v := .ref 45) rfl rfl ?_
  refine Z.getR (σ := (mS σ a t w r)) B fX12_60_12 dX12_word_106 (hl.n (k := 45) (by decide)) (hl.k (k := 45) (by decide)) (by decide) (j := 60) (hl.r (k := 45) (f := 19) (by decide) (by decide)) ?_
  refine Z.iload_n B dX12_word_109 (x := nI 7) rfl ?_
  refine Z.iald (σ := (mS σ a t w r)) B dX12_word_110 (n := 26) (hl.n (k := 60) (by decide)) (hl.k (k := 60) (by decide)) (hl.l (k := 60) (by decide)) (by decide) (j := 7) rfl (by decide) (v := nI 97) (wds_at ht (j := 7) (by decide)) ?_
  refine Z.if_eqN B dX12_word_111 (tgt := 120) rfl (by omega) (fun h111 => by exfalso; first | omega | contradiction | simp_all) (fun h111 => ?_)
  refine Z.iinc B dX12_word_114 (by decide) (x := nI 7) rfl (v := nI 8) (nI_inc 7) (L' := [(0, .ref 45), (1, .int (nI 8)), (2, .int (nI (max (max a (a + amW T a 0)) (a + amW T a 1)))), (3, .int (nI 1)), (4, .int (nI (a + amW T a 1))), (5, .int (nI (7 + amW T a 1)))]) rfl ?_
  refine Z.goto B dX12_word_117 (tgt := 105) rfl ?_
  refine Z.aload_n B dX12_word_105 (v := .ref 45) rfl rfl ?_
  refine Z.getR (σ := (mS σ a t w r)) B fX12_60_12 dX12_word_106 (hl.n (k := 45) (by decide)) (hl.k (k := 45) (by decide)) (by decide) (j := 60) (hl.r (k := 45) (f := 19) (by decide) (by decide)) ?_
  refine Z.iload_n B dX12_word_109 (x := nI 8) rfl ?_
  refine Z.iald (σ := (mS σ a t w r)) B dX12_word_110 (n := 26) (hl.n (k := 60) (by decide)) (hl.k (k := 60) (by decide)) (hl.l (k := 60) (by decide)) (by decide) (j := 8) rfl (by decide) (v := nI 115) (wds_at ht (j := 8) (by decide)) ?_
  refine Z.if_eqN B dX12_word_111 (tgt := 120) rfl (by omega) (fun h111 => by exfalso; first | omega | contradiction | simp_all) (fun h111 => ?_)
  refine Z.iinc B dX12_word_114 (by decide) (x := nI 8) rfl (v := nI 9) (nI_inc 8) (L' := [(0, .ref 45), (1, .int (nI 9)), (2, .int (nI (max (max a (a + amW T a 0)) (a + amW T a 1)))), (3, .int (nI 1)), (4, .int (nI (a + amW T a 1))), (5, .int (nI (7 + amW T a 1)))]) rfl ?_
  refine Z.goto B dX12_word_117 (tgt := 105) rfl ?_
  refine Z.aload_n B dX12_word_105 (v := .ref 45) rfl rfl ?_
  refine Z.getR (σ := (mS σ a t w r)) B fX12_60_12 dX12_word_106 (hl.n (k := 45) (by decide)) (hl.k (k := 45) (by decide)) (by decide) (j := 60) (hl.r (k := 45) (f := 19) (by decide) (by decide)) ?_
  refine Z.iload_n B dX12_word_109 (x := nI 9) rfl ?_
  refine Z.iald (σ := (mS σ a t w r)) B dX12_word_110 (n := 26) (hl.n (k := 60) (by decide)) (hl.k (k := 60) (by decide)) (hl.l (k := 60) (by decide)) (by decide) (j := 9) rfl (by decide) (v := nI 107) (wds_at ht (j := 9) (by decide)) ?_
  refine Z.if_eqN B dX12_word_111 (tgt := 120) rfl (by omega) (fun h111 => by exfalso; first | omega | contradiction | simp_all) (fun h111 => ?_)
  refine Z.iinc B dX12_word_114 (by decide) (x := nI 9) rfl (v := nI 10) (nI_inc 9) (L' := [(0, .ref 45), (1, .int (nI 10)), (2, .int (nI (max (max a (a + amW T a 0)) (a + amW T a 1)))), (3, .int (nI 1)), (4, .int (nI (a + amW T a 1))), (5, .int (nI (7 + amW T a 1)))]) rfl ?_
  refine Z.goto B dX12_word_117 (tgt := 105) rfl ?_
  refine Z.aload_n B dX12_word_105 (v := .ref 45) rfl rfl ?_
  refine Z.getR (σ := (mS σ a t w r)) B fX12_60_12 dX12_word_106 (hl.n (k := 45) (by decide)) (hl.k (k := 45) (by decide)) (by decide) (j := 60) (hl.r (k := 45) (f := 19) (by decide) (by decide)) ?_
  refine Z.iload_n B dX12_word_109 (x := nI 10) rfl ?_
  refine Z.iald (σ := (mS σ a t w r)) B dX12_word_110 (n := 26) (hl.n (k := 60) (by decide)) (hl.k (k := 60) (by decide)) (hl.l (k := 60) (by decide)) (by decide) (j := 10) rfl (by decide) (v := nI 101) (wds_at ht (j := 10) (by decide)) ?_
  refine Z.if_eqN B dX12_word_111 (tgt := 120) rfl (by omega) (fun h111 => by exfalso; first | omega | contradiction | simp_all) (fun h111 => ?_)
  refine Z.iinc B dX12_word_114 (by decide) (x := nI 10) rfl (v := nI 11) (nI_inc 10) (L' := [(0, .ref 45), (1, .int (nI 11)), (2, .int (nI (max (max a (a + amW T a 0)) (a + amW T a 1)))), (3, .int (nI 1)), (4, .int (nI (a + amW T a 1))), (5, .int (nI (7 + amW T a 1)))]) rfl ?_
  refine Z.goto B dX12_word_117 (tgt := 105) rfl ?_
  refine Z.aload_n B dX12_word_105 (v := .ref 45) rfl rfl ?_
  refine Z.getR (σ := (mS σ a t w r)) B fX12_60_12 dX12_word_106 (hl.n (k := 45) (by decide)) (hl.k (k := 45) (by decide)) (by decide) (j := 60) (hl.r (k := 45) (f := 19) (by decide) (by decide)) ?_
  refine Z.iload_n B dX12_word_109 (x := nI 11) rfl ?_
  refine Z.iald (σ := (mS σ a t w r)) B dX12_word_110 (n := 26) (hl.n (k := 60) (by decide)) (hl.k (k := 60) (by decide)) (hl.l (k := 60) (by decide)) (by decide) (j := 11) rfl (by decide) (v := nI 114) (wds_at ht (j := 11) (by decide)) ?_
  refine Z.if_eqN B dX12_word_111 (tgt := 120) rfl (by omega) (fun h111 => by exfalso; first | omega | contradiction | simp_all) (fun h111 => ?_)
  refine Z.iinc B dX12_word_114 (by decide) (x := nI 11) rfl (v := nI 12) (nI_inc 11) (L' := [(0, .ref 45), (1, .int (nI 12)), (2, .int (nI (max (max a (a + amW T a 0)) (a + amW T a 1)))), (3, .int (nI 1)), (4, .int (nI (a + amW T a 1))), (5, .int (nI (7 + amW T a 1)))]) rfl ?_
  refine Z.goto B dX12_word_117 (tgt := 105) rfl ?_
  refine Z.aload_n B dX12_word_105 (v := .ref 45) rfl rfl ?_
  refine Z.getR (σ := (mS σ a t w r)) B fX12_60_12 dX12_word_106 (hl.n (k := 45) (by decide)) (hl.k (k := 45) (by decide)) (by decide) (j := 60) (hl.r (k := 45) (f := 19) (by decide) (by decide)) ?_
  refine Z.iload_n B dX12_word_109 (x := nI 12) rfl ?_
  refine Z.iald (σ := (mS σ a t w r)) B dX12_word_110 (n := 26) (hl.n (k := 60) (by decide)) (hl.k (k := 60) (by decide)) (hl.l (k := 60) (by decide)) (by decide) (j := 12) rfl (by decide) (v := nI 32) (wds_at ht (j := 12) (by decide)) ?_
  refine Z.if_eqN B dX12_word_111 (tgt := 120) rfl (by omega) (fun h111 => by exfalso; first | omega | contradiction | simp_all) (fun h111 => ?_)
  refine Z.iinc B dX12_word_114 (by decide) (x := nI 12) rfl (v := nI 13) (nI_inc 12) (L' := [(0, .ref 45), (1, .int (nI 13)), (2, .int (nI (max (max a (a + amW T a 0)) (a + amW T a 1)))), (3, .int (nI 1)), (4, .int (nI (a + amW T a 1))), (5, .int (nI (7 + amW T a 1)))]) rfl ?_
  refine Z.goto B dX12_word_117 (tgt := 105) rfl ?_
  refine Z.aload_n B dX12_word_105 (v := .ref 45) rfl rfl ?_
  refine Z.getR (σ := (mS σ a t w r)) B fX12_60_12 dX12_word_106 (hl.n (k := 45) (by decide)) (hl.k (k := 45) (by decide)) (by decide) (j := 60) (hl.r (k := 45) (f := 19) (by decide) (by decide)) ?_
  refine Z.iload_n B dX12_word_109 (x := nI 13) rfl ?_
  refine Z.iald (σ := (mS σ a t w r)) B dX12_word_110 (n := 26) (hl.n (k := 60) (by decide)) (hl.k (k := 60) (by decide)) (hl.l (k := 60) (by decide)) (by decide) (j := 13) rfl (by decide) (v := nI 0) (wds_at ht (j := 13) (by decide)) ?_
  refine Z.if_eqN B dX12_word_111 (tgt := 120) rfl (by omega) (fun h111 => ?_) (fun h111 => by exfalso; first | omega | contradiction | simp_all)
  refine Z.iinc B dX12_word_120 (by decide) (x := nI 13) rfl (v := nI 14) (nI_inc 13) (L' := [(0, .ref 45), (1, .int (nI 14)), (2, .int (nI (max (max a (a + amW T a 0)) (a + amW T a 1)))), (3, .int (nI 1)), (4, .int (nI (a + amW T a 1))), (5, .int (nI (7 + amW T a 1)))]) rfl ?_
  refine Z.iinc B dX12_word_123 (by decide) (x := nI 1) rfl (v := nI 2) (nI_inc 1) (L' := [(0, .ref 45), (1, .int (nI 14)), (2, .int (nI (max (max a (a + amW T a 0)) (a + amW T a 1)))), (3, .int (nI 2)), (4, .int (nI (a + amW T a 1))), (5, .int (nI (7 + amW T a 1)))]) rfl ?_
  refine Z.goto B dX12_word_126 (tgt := 9) rfl ?_
  refine Z.iload_n B dX12_word_9 (x := nI 2) rfl ?_
  refine Z.iconst B dX12_word_10 (v := nI 4) rfl ?_
  refine Z.icmp_geN B dX12_word_11 (tgt := 129) rfl (by omega) (by omega) (fun h11 => by exfalso; first | omega | contradiction | simp_all) (fun h11 => ?_)
  refine Z.aload_n B dX12_word_14 (v := .ref 45) rfl rfl ?_
  refine Z.getI (σ := (mS σ a t w r)) B fX12_141_12 dX12_word_15 (hl.n (k := 45) (by decide)) (hl.k (k := 45) (by decide)) (by decide) (v := nI a) mS_a ?_
  refine Z.istore B dX12_word_18 (by decide) (L' := [(0, .ref 45), (1, .int (nI 14)), (2, .int (nI (max (max a (a + amW T a 0)) (a + amW T a 1)))), (3, .int (nI 2)), (4, .int (nI a)), (5, .int (nI (7 + amW T a 1)))]) rfl ?_
  refine Z.iload_n B dX12_word_20 (x := nI 14) rfl ?_
  refine Z.istore B dX12_word_21 (by decide) (L' := [(0, .ref 45), (1, .int (nI 14)), (2, .int (nI (max (max a (a + amW T a 0)) (a + amW T a 1)))), (3, .int (nI 2)), (4, .int (nI a)), (5, .int (nI 14))]) rfl ?_
  refine wd_in_2 B hl ht ha (g := max (max a (a + amW T a 0)) (a + amW T a 1)) ?_
  refine Z.aload_n B dX12_word_74 (v := .ref 45) rfl rfl ?_
  refine Z.getR (σ := (mS σ a t w r)) B fX12_60_12 dX12_word_75 (hl.n (k := 45) (by decide)) (hl.k (k := 45) (by decide)) (by decide) (j := 60) (hl.r (k := 45) (f := 19) (by decide) (by decide)) ?_
  refine Z.iload B dX12_word_78 (x := nI (14 + amW T a 2)) rfl ?_
  refine Z.iald (σ := (mS σ a t w r)) B dX12_word_80 (n := 26) (hl.n (k := 60) (by decide)) (hl.k (k := 60) (by decide)) (hl.l (k := 60) (by decide)) (by decide) (j := 14 + amW T a 2) rfl (by omega) (v := nI (wds (14 + amW T a 2))) (wds_at ht (by omega)) ?_
  have hz2 : wds (14 + amW T a 2) = 0 ↔ amW T a 2 = 4 := wds_Z 2 (by decide) _ (by show amW T a 2 ≤ 4; omega)
  have hzl2 : wds (14 + amW T a 2) < 2 ^ 31 := wds_lt _ (by omega)
  refine Z.if_neN B dX12_word_81 (tgt := 92) rfl (by omega) (fun h81 => ?_) (fun h81 => (by omega))
  refine wd_mx B (g := max (max a (a + amW T a 0)) (a + amW T a 1)) (q := a + amW T a 2) (by omega) (by omega) ?_
  refine Z.aload_n B dX12_word_105 (v := .ref 45) rfl rfl ?_
  refine Z.getR (σ := (mS σ a t w r)) B fX12_60_12 dX12_word_106 (hl.n (k := 45) (by decide)) (hl.k (k := 45) (by decide)) (by decide) (j := 60) (hl.r (k := 45) (f := 19) (by decide) (by decide)) ?_
  refine Z.iload_n B dX12_word_109 (x := nI 14) rfl ?_
  refine Z.iald (σ := (mS σ a t w r)) B dX12_word_110 (n := 26) (hl.n (k := 60) (by decide)) (hl.k (k := 60) (by decide)) (hl.l (k := 60) (by decide)) (by decide) (j := 14) rfl (by decide) (v := nI 119) (wds_at ht (j := 14) (by decide)) ?_
  refine Z.if_eqN B dX12_word_111 (tgt := 120) rfl (by omega) (fun h111 => by exfalso; first | omega | contradiction | simp_all) (fun h111 => ?_)
  refine Z.iinc B dX12_word_114 (by decide) (x := nI 14) rfl (v := nI 15) (nI_inc 14) (L' := [(0, .ref 45), (1, .int (nI 15)), (2, .int (nI (max (max (max a (a + amW T a 0)) (a + amW T a 1)) (a + amW T a 2)))), (3, .int (nI 2)), (4, .int (nI (a + amW T a 2))), (5, .int (nI (14 + amW T a 2)))]) rfl ?_
  refine Z.goto B dX12_word_117 (tgt := 105) rfl ?_
  refine Z.aload_n B dX12_word_105 (v := .ref 45) rfl rfl ?_
  refine Z.getR (σ := (mS σ a t w r)) B fX12_60_12 dX12_word_106 (hl.n (k := 45) (by decide)) (hl.k (k := 45) (by decide)) (by decide) (j := 60) (hl.r (k := 45) (f := 19) (by decide) (by decide)) ?_
  refine Z.iload_n B dX12_word_109 (x := nI 15) rfl ?_
  refine Z.iald (σ := (mS σ a t w r)) B dX12_word_110 (n := 26) (hl.n (k := 60) (by decide)) (hl.k (k := 60) (by decide)) (hl.l (k := 60) (by decide)) (by decide) (j := 15) rfl (by decide) (v := nI 97) (wds_at ht (j := 15) (by decide)) ?_
  refine Z.if_eqN B dX12_word_111 (tgt := 120) rfl (by omega) (fun h111 => by exfalso; first | omega | contradiction | simp_all) (fun h111 => ?_)
  refine Z.iinc B dX12_word_114 (by decide) (x := nI 15) rfl (v := nI 16) (nI_inc 15) (L' := [(0, .ref 45), (1, .int (nI 16)), (2, .int (nI (max (max (max a (a + amW T a 0)) (a + amW T a 1)) (a + amW T a 2)))), (3, .int (nI 2)), (4, .int (nI (a + amW T a 2))), (5, .int (nI (14 + amW T a 2)))]) rfl ?_
  refine Z.goto B dX12_word_117 (tgt := 105) rfl ?_
  refine Z.aload_n B dX12_word_105 (v := .ref 45) rfl rfl ?_
  refine Z.getR (σ := (mS σ a t w r)) B fX12_60_12 dX12_word_106 (hl.n (k := 45) (by decide)) (hl.k (k := 45) (by decide)) (by decide) (j := 60) (hl.r (k := 45) (f := 19) (by decide) (by decide)) ?_
  refine Z.iload_n B dX12_word_109 (x := nI 16) rfl ?_
  refine Z.iald (σ := (mS σ a t w r)) B dX12_word_110 (n := 26) (hl.n (k := 60) (by decide)) (hl.k (k := 60) (by decide)) (hl.l (k := 60) (by decide)) (by decide) (j := 16) rfl (by decide) (v := nI 121) (wds_at ht (j := 16) (by decide)) ?_
  refine Z.if_eqN B dX12_word_111 (tgt := 120) rfl (by omega) (fun h111 => by exfalso; first | omega | contradiction | simp_all) (fun h111 => ?_)
  refine Z.iinc B dX12_word_114 (by decide) (x := nI 16) rfl (v := nI 17) (nI_inc 16) (L' := [(0, .ref 45), (1, .int (nI 17)), (2, .int (nI (max (max (max a (a + amW T a 0)) (a + amW T a 1)) (a + amW T a 2)))), (3, .int (nI 2)), (4, .int (nI (a + amW T a 2))), (5, .int (nI (14 + amW T a 2)))]) rfl ?_
  refine Z.goto B dX12_word_117 (tgt := 105) rfl ?_
  refine Z.aload_n B dX12_word_105 (v := .ref 45) rfl rfl ?_
  refine Z.getR (σ := (mS σ a t w r)) B fX12_60_12 dX12_word_106 (hl.n (k := 45) (by decide)) (hl.k (k := 45) (by decide)) (by decide) (j := 60) (hl.r (k := 45) (f := 19) (by decide) (by decide)) ?_
  refine Z.iload_n B dX12_word_109 (x := nI 17) rfl ?_
  refine Z.iald (σ := (mS σ a t w r)) B dX12_word_110 (n := 26) (hl.n (k := 60) (by decide)) (hl.k (k := 60) (by decide)) (hl.l (k := 60) (by decide)) (by decide) (j := 17) rfl (by decide) (v := nI 32) (wds_at ht (j := 17) (by decide)) ?_
  refine Z.if_eqN B dX12_word_111 (tgt := 120) rfl (by omega) (fun h111 => by exfalso; first | omega | contradiction | simp_all) (fun h111 => ?_)
  refine Z.iinc B dX12_word_114 (by decide) (x := nI 17) rfl (v := nI 18) (nI_inc 17) (L' := [(0, .ref 45), (1, .int (nI 18)), (2, .int (nI (max (max (max a (a + amW T a 0)) (a + amW T a 1)) (a + amW T a 2)))), (3, .int (nI 2)), (4, .int (nI (a + amW T a 2))), (5, .int (nI (14 + amW T a 2)))]) rfl ?_
  refine Z.goto B dX12_word_117 (tgt := 105) rfl ?_
  refine Z.aload_n B dX12_word_105 (v := .ref 45) rfl rfl ?_
  refine Z.getR (σ := (mS σ a t w r)) B fX12_60_12 dX12_word_106 (hl.n (k := 45) (by decide)) (hl.k (k := 45) (by decide)) (by decide) (j := 60) (hl.r (k := 45) (f := 19) (by decide) (by decide)) ?_
  refine Z.iload_n B dX12_word_109 (x := nI 18) rfl ?_
  refine Z.iald (σ := (mS σ a t w r)) B dX12_word_110 (n := 26) (hl.n (k := 60) (by decide)) (hl.k (k := 60) (by decide)) (hl.l (k := 60) (by decide)) (by decide) (j := 18) rfl (by decide) (v := nI 0) (wds_at ht (j := 18) (by decide)) ?_
  refine Z.if_eqN B dX12_word_111 (tgt := 120) rfl (by omega) (fun h111 => ?_) (fun h111 => by exfalso; first | omega | contradiction | simp_all)
  refine Z.iinc B dX12_word_120 (by decide) (x := nI 18) rfl (v := nI 19) (nI_inc 18) (L' := [(0, .ref 45), (1, .int (nI 19)), (2, .int (nI (max (max (max a (a + amW T a 0)) (a + amW T a 1)) (a + amW T a 2)))), (3, .int (nI 2)), (4, .int (nI (a + amW T a 2))), (5, .int (nI (14 + amW T a 2)))]) rfl ?_
  refine Z.iinc B dX12_word_123 (by decide) (x := nI 2) rfl (v := nI 3) (nI_inc 2) (L' := [(0, .ref 45), (1, .int (nI 19)), (2, .int (nI (max (max (max a (a + amW T a 0)) (a + amW T a 1)) (a + amW T a 2)))), (3, .int (nI 3)), (4, .int (nI (a + amW T a 2))), (5, .int (nI (14 + amW T a 2)))]) rfl ?_
  refine Z.goto B dX12_word_126 (tgt := 9) rfl ?_
  refine Z.iload_n B dX12_word_9 (x := nI 3) rfl ?_
  refine Z.iconst B dX12_word_10 (v := nI 4) rfl ?_
  refine Z.icmp_geN B dX12_word_11 (tgt := 129) rfl (by omega) (by omega) (fun h11 => by exfalso; first | omega | contradiction | simp_all) (fun h11 => ?_)
  refine Z.aload_n B dX12_word_14 (v := .ref 45) rfl rfl ?_
  refine Z.getI (σ := (mS σ a t w r)) B fX12_141_12 dX12_word_15 (hl.n (k := 45) (by decide)) (hl.k (k := 45) (by decide)) (by decide) (v := nI a) mS_a ?_
  refine Z.istore B dX12_word_18 (by decide) (L' := [(0, .ref 45), (1, .int (nI 19)), (2, .int (nI (max (max (max a (a + amW T a 0)) (a + amW T a 1)) (a + amW T a 2)))), (3, .int (nI 3)), (4, .int (nI a)), (5, .int (nI (14 + amW T a 2)))]) rfl ?_
  refine Z.iload_n B dX12_word_20 (x := nI 19) rfl ?_
  refine Z.istore B dX12_word_21 (by decide) (L' := [(0, .ref 45), (1, .int (nI 19)), (2, .int (nI (max (max (max a (a + amW T a 0)) (a + amW T a 1)) (a + amW T a 2)))), (3, .int (nI 3)), (4, .int (nI a)), (5, .int (nI 19))]) rfl ?_
  refine wd_in_3 B hl ht ha (g := max (max (max a (a + amW T a 0)) (a + amW T a 1)) (a + amW T a 2)) ?_
  refine Z.aload_n B dX12_word_74 (v := .ref 45) rfl rfl ?_
  refine Z.getR (σ := (mS σ a t w r)) B fX12_60_12 dX12_word_75 (hl.n (k := 45) (by decide)) (hl.k (k := 45) (by decide)) (by decide) (j := 60) (hl.r (k := 45) (f := 19) (by decide) (by decide)) ?_
  refine Z.iload B dX12_word_78 (x := nI (19 + amW T a 3)) rfl ?_
  refine Z.iald (σ := (mS σ a t w r)) B dX12_word_80 (n := 26) (hl.n (k := 60) (by decide)) (hl.k (k := 60) (by decide)) (hl.l (k := 60) (by decide)) (by decide) (j := 19 + amW T a 3) rfl (by omega) (v := nI (wds (19 + amW T a 3))) (wds_at ht (by omega)) ?_
  have hz3 : wds (19 + amW T a 3) = 0 ↔ amW T a 3 = 6 := wds_Z 3 (by decide) _ (by show amW T a 3 ≤ 6; omega)
  have hzl3 : wds (19 + amW T a 3) < 2 ^ 31 := wds_lt _ (by omega)
  refine Z.if_neN B dX12_word_81 (tgt := 92) rfl (by omega) (fun h81 => ?_) (fun h81 => (by omega))
  refine wd_mx B (g := max (max (max a (a + amW T a 0)) (a + amW T a 1)) (a + amW T a 2)) (q := a + amW T a 3) (by omega) (by omega) ?_
  refine Z.aload_n B dX12_word_105 (v := .ref 45) rfl rfl ?_
  refine Z.getR (σ := (mS σ a t w r)) B fX12_60_12 dX12_word_106 (hl.n (k := 45) (by decide)) (hl.k (k := 45) (by decide)) (by decide) (j := 60) (hl.r (k := 45) (f := 19) (by decide) (by decide)) ?_
  refine Z.iload_n B dX12_word_109 (x := nI 19) rfl ?_
  refine Z.iald (σ := (mS σ a t w r)) B dX12_word_110 (n := 26) (hl.n (k := 60) (by decide)) (hl.k (k := 60) (by decide)) (hl.l (k := 60) (by decide)) (by decide) (j := 19) rfl (by decide) (v := nI 99) (wds_at ht (j := 19) (by decide)) ?_
  refine Z.if_eqN B dX12_word_111 (tgt := 120) rfl (by omega) (fun h111 => by exfalso; first | omega | contradiction | simp_all) (fun h111 => ?_)
  refine Z.iinc B dX12_word_114 (by decide) (x := nI 19) rfl (v := nI 20) (nI_inc 19) (L' := [(0, .ref 45), (1, .int (nI 20)), (2, .int (nI (max (max (max (max a (a + amW T a 0)) (a + amW T a 1)) (a + amW T a 2)) (a + amW T a 3)))), (3, .int (nI 3)), (4, .int (nI (a + amW T a 3))), (5, .int (nI (19 + amW T a 3)))]) rfl ?_
  refine Z.goto B dX12_word_117 (tgt := 105) rfl ?_
  refine Z.aload_n B dX12_word_105 (v := .ref 45) rfl rfl ?_
  refine Z.getR (σ := (mS σ a t w r)) B fX12_60_12 dX12_word_106 (hl.n (k := 45) (by decide)) (hl.k (k := 45) (by decide)) (by decide) (j := 60) (hl.r (k := 45) (f := 19) (by decide) (by decide)) ?_
  refine Z.iload_n B dX12_word_109 (x := nI 20) rfl ?_
  refine Z.iald (σ := (mS σ a t w r)) B dX12_word_110 (n := 26) (hl.n (k := 60) (by decide)) (hl.k (k := 60) (by decide)) (hl.l (k := 60) (by decide)) (by decide) (j := 20) rfl (by decide) (v := nI 104) (wds_at ht (j := 20) (by decide)) ?_
  refine Z.if_eqN B dX12_word_111 (tgt := 120) rfl (by omega) (fun h111 => by exfalso; first | omega | contradiction | simp_all) (fun h111 => ?_)
  refine Z.iinc B dX12_word_114 (by decide) (x := nI 20) rfl (v := nI 21) (nI_inc 20) (L' := [(0, .ref 45), (1, .int (nI 21)), (2, .int (nI (max (max (max (max a (a + amW T a 0)) (a + amW T a 1)) (a + amW T a 2)) (a + amW T a 3)))), (3, .int (nI 3)), (4, .int (nI (a + amW T a 3))), (5, .int (nI (19 + amW T a 3)))]) rfl ?_
  refine Z.goto B dX12_word_117 (tgt := 105) rfl ?_
  refine Z.aload_n B dX12_word_105 (v := .ref 45) rfl rfl ?_
  refine Z.getR (σ := (mS σ a t w r)) B fX12_60_12 dX12_word_106 (hl.n (k := 45) (by decide)) (hl.k (k := 45) (by decide)) (by decide) (j := 60) (hl.r (k := 45) (f := 19) (by decide) (by decide)) ?_
  refine Z.iload_n B dX12_word_109 (x := nI 21) rfl ?_
  refine Z.iald (σ := (mS σ a t w r)) B dX12_word_110 (n := 26) (hl.n (k := 60) (by decide)) (hl.k (k := 60) (by decide)) (hl.l (k := 60) (by decide)) (by decide) (j := 21) rfl (by decide) (v := nI 105) (wds_at ht (j := 21) (by decide)) ?_
  refine Z.if_eqN B dX12_word_111 (tgt := 120) rfl (by omega) (fun h111 => by exfalso; first | omega | contradiction | simp_all) (fun h111 => ?_)
  refine Z.iinc B dX12_word_114 (by decide) (x := nI 21) rfl (v := nI 22) (nI_inc 21) (L' := [(0, .ref 45), (1, .int (nI 22)), (2, .int (nI (max (max (max (max a (a + amW T a 0)) (a + amW T a 1)) (a + amW T a 2)) (a + amW T a 3)))), (3, .int (nI 3)), (4, .int (nI (a + amW T a 3))), (5, .int (nI (19 + amW T a 3)))]) rfl ?_
  refine Z.goto B dX12_word_117 (tgt := 105) rfl ?_
  refine Z.aload_n B dX12_word_105 (v := .ref 45) rfl rfl ?_
  refine Z.getR (σ := (mS σ a t w r)) B fX12_60_12 dX12_word_106 (hl.n (k := 45) (by decide)) (hl.k (k := 45) (by decide)) (by decide) (j := 60) (hl.r (k := 45) (f := 19) (by decide) (by decide)) ?_
  refine Z.iload_n B dX12_word_109 (x := nI 22) rfl ?_
  refine Z.iald (σ := (mS σ a t w r)) B dX12_word_110 (n := 26) (hl.n (k := 60) (by decide)) (hl.k (k := 60) (by decide)) (hl.l (k := 60) (by decide)) (by decide) (j := 22) rfl (by decide) (v := nI 101) (wds_at ht (j := 22) (by decide)) ?_
  refine Z.if_eqN B dX12_word_111 (tgt := 120) rfl (by omega) (fun h111 => by exfalso; first | omega | contradiction | simp_all) (fun h111 => ?_)
  refine Z.iinc B dX12_word_114 (by decide) (x := nI 22) rfl (v := nI 23) (nI_inc 22) (L' := [(0, .ref 45), (1, .int (nI 23)), (2, .int (nI (max (max (max (max a (a + amW T a 0)) (a + amW T a 1)) (a + amW T a 2)) (a + amW T a 3)))), (3, .int (nI 3)), (4, .int (nI (a + amW T a 3))), (5, .int (nI (19 + amW T a 3)))]) rfl ?_
  refine Z.goto B dX12_word_117 (tgt := 105) rfl ?_
  refine Z.aload_n B dX12_word_105 (v := .ref 45) rfl rfl ?_
  refine Z.getR (σ := (mS σ a t w r)) B fX12_60_12 dX12_word_106 (hl.n (k := 45) (by decide)) (hl.k (k := 45) (by decide)) (by decide) (j := 60) (hl.r (k := 45) (f := 19) (by decide) (by decide)) ?_
  refine Z.iload_n B dX12_word_109 (x := nI 23) rfl ?_
  refine Z.iald (σ := (mS σ a t w r)) B dX12_word_110 (n := 26) (hl.n (k := 60) (by decide)) (hl.k (k := 60) (by decide)) (hl.l (k := 60) (by decide)) (by decide) (j := 23) rfl (by decide) (v := nI 102) (wds_at ht (j := 23) (by decide)) ?_
  refine Z.if_eqN B dX12_word_111 (tgt := 120) rfl (by omega) (fun h111 => by exfalso; first | omega | contradiction | simp_all) (fun h111 => ?_)
  refine Z.iinc B dX12_word_114 (by decide) (x := nI 23) rfl (v := nI 24) (nI_inc 23) (L' := [(0, .ref 45), (1, .int (nI 24)), (2, .int (nI (max (max (max (max a (a + amW T a 0)) (a + amW T a 1)) (a + amW T a 2)) (a + amW T a 3)))), (3, .int (nI 3)), (4, .int (nI (a + amW T a 3))), (5, .int (nI (19 + amW T a 3)))]) rfl ?_
  refine Z.goto B dX12_word_117 (tgt := 105) rfl ?_
  refine Z.aload_n B dX12_word_105 (v := .ref 45) rfl rfl ?_
  refine Z.getR (σ := (mS σ a t w r)) B fX12_60_12 dX12_word_106 (hl.n (k := 45) (by decide)) (hl.k (k := 45) (by decide)) (by decide) (j := 60) (hl.r (k := 45) (f := 19) (by decide) (by decide)) ?_
  refine Z.iload_n B dX12_word_109 (x := nI 24) rfl ?_
  refine Z.iald (σ := (mS σ a t w r)) B dX12_word_110 (n := 26) (hl.n (k := 60) (by decide)) (hl.k (k := 60) (by decide)) (hl.l (k := 60) (by decide)) (by decide) (j := 24) rfl (by decide) (v := nI 32) (wds_at ht (j := 24) (by decide)) ?_
  refine Z.if_eqN B dX12_word_111 (tgt := 120) rfl (by omega) (fun h111 => by exfalso; first | omega | contradiction | simp_all) (fun h111 => ?_)
  refine Z.iinc B dX12_word_114 (by decide) (x := nI 24) rfl (v := nI 25) (nI_inc 24) (L' := [(0, .ref 45), (1, .int (nI 25)), (2, .int (nI (max (max (max (max a (a + amW T a 0)) (a + amW T a 1)) (a + amW T a 2)) (a + amW T a 3)))), (3, .int (nI 3)), (4, .int (nI (a + amW T a 3))), (5, .int (nI (19 + amW T a 3)))]) rfl ?_
  refine Z.goto B dX12_word_117 (tgt := 105) rfl ?_
  refine Z.aload_n B dX12_word_105 (v := .ref 45) rfl rfl ?_
  refine Z.getR (σ := (mS σ a t w r)) B fX12_60_12 dX12_word_106 (hl.n (k := 45) (by decide)) (hl.k (k := 45) (by decide)) (by decide) (j := 60) (hl.r (k := 45) (f := 19) (by decide) (by decide)) ?_
  refine Z.iload_n B dX12_word_109 (x := nI 25) rfl ?_
  refine Z.iald (σ := (mS σ a t w r)) B dX12_word_110 (n := 26) (hl.n (k := 60) (by decide)) (hl.k (k := 60) (by decide)) (hl.l (k := 60) (by decide)) (by decide) (j := 25) rfl (by decide) (v := nI 0) (wds_at ht (j := 25) (by decide)) ?_
  refine Z.if_eqN B dX12_word_111 (tgt := 120) rfl (by omega) (fun h111 => ?_) (fun h111 => by exfalso; first | omega | contradiction | simp_all)
  refine Z.iinc B dX12_word_120 (by decide) (x := nI 25) rfl (v := nI 26) (nI_inc 25) (L' := [(0, .ref 45), (1, .int (nI 26)), (2, .int (nI (max (max (max (max a (a + amW T a 0)) (a + amW T a 1)) (a + amW T a 2)) (a + amW T a 3)))), (3, .int (nI 3)), (4, .int (nI (a + amW T a 3))), (5, .int (nI (19 + amW T a 3)))]) rfl ?_
  refine Z.iinc B dX12_word_123 (by decide) (x := nI 3) rfl (v := nI 4) (nI_inc 3) (L' := [(0, .ref 45), (1, .int (nI 26)), (2, .int (nI (max (max (max (max a (a + amW T a 0)) (a + amW T a 1)) (a + amW T a 2)) (a + amW T a 3)))), (3, .int (nI 4)), (4, .int (nI (a + amW T a 3))), (5, .int (nI (19 + amW T a 3)))]) rfl ?_
  refine Z.goto B dX12_word_126 (tgt := 9) rfl ?_
  refine Z.iload_n B dX12_word_9 (x := nI 4) rfl ?_
  refine Z.iconst B dX12_word_10 (v := nI 4) rfl ?_
  refine Z.icmp_geN B dX12_word_11 (tgt := 129) rfl (by omega) (by omega) (fun h11 => ?_) (fun h11 => by exfalso; first | omega | contradiction | simp_all)
  refine Z.aload_n B dX12_word_129 (v := .ref 45) rfl rfl ?_
  refine Z.iload_n B dX12_word_130 (x := nI (max (max (max (max a (a + amW T a 0)) (a + amW T a 1)) (a + amW T a 2)) (a + amW T a 3))) rfl ?_
  refine Z.putI (σ := (mS σ a t w r)) B fX12_138_12 (ty := .int) ⟨_, _, _, rfl, rfl, by decide +kernel⟩ dX12_word_131 (hl.n (k := 45) (by decide)) (hl.k (k := 45) (by decide)) (by decide) rfl rfl (τ := (zuX (mS σ a t w r) 45 (upd (zX (mS σ a t w r) 45) 25 (nI (max (max (max (max a (a + amW T a 0)) (a + amW T a 1)) (a + amW T a 2)) (a + amW T a 3)))))) rfl ?_
  refine Z.eqσ (τ := (mS σ a t (nI (max (max (max (max a (a + amW T a 0)) (a + amW T a 1)) (a + amW T a 2)) (a + amW T a 3))) r)) mS_uw ?_
  refine Z.iconst B dX12_word_134 (v := (-1)) rfl ?_
  refine Z.iret B Rt dX12_word_135 (ty := .int) rfl rfl (by decide) (by decide) ?_
  exact ⟨rfl, rfl⟩

theorem t_X12_word_n {σ : zSt} {t w : Int32} {r : Nat → Int32} (hl : Lay σ) {s m : Nat} {T : Nat → Int32} (ht : zTm σ s m T) {a : Nat} (ha : a < 2 ^ 30) (h0 : ¬ amW T a 0 = 6) (h1 : ¬ amW T a 1 = 6) (h2 : ¬ amW T a 2 = 4) (h3 : ¬ amW T a 3 = 6) : Dt mX12_word [.ref 45] (mS σ a t w r) (some (.int (-1))) (mS σ a t (nI (a + far T a)) r) := by
  have e0 := (am_al (T := T) (a := a) (w := 0) (by decide)).2 h0
  have e1 := (am_al (T := T) (a := a) (w := 1) (by decide)).2 h1
  have e2 := (am_al (T := T) (a := a) (w := 2) (by decide)).2 h2
  have e3 := (am_al (T := T) (a := a) (w := 3) (by decide)).2 h3
  have key := t_X12_word_4 (σ := σ) (t := t) (w := w) (r := r) hl ht ha h0 h1 h2 h3
  rw [e0, e1, e2, e3] at key
  have : max (max (max (max a (a + al T a 0)) (a + al T a 1)) (a + al T a 2)) (a + al T a 3) = a + far T a := by unfold far; omega
  rw [this] at key
  exact key
/-- the words begin with other letters, and so only one can stand at a place -/
theorem al_1 {T : Nat → Int32} {a w : Nat} (h : 0 < al T a w) : T a = nI (ltr w 0) := (al_s (T := T) (a := a) (w := w)).2.1 0 h
theorem al_2 {T : Nat → Int32} {a w : Nat} (h : 1 < al T a w) : T (a + 1) = nI (ltr w 1) := (al_s (T := T) (a := a) (w := w)).2.1 1 h
theorem al_other {T : Nat → Int32} {a v w : Nat} (hv : v < 4) (hw : w < 4) (h : al T a v = wl v) (hne : w ≠ v) : al T a w < 2 := by
  rcases Nat.lt_or_ge (al T a w) 2 with h1 | h1
  · exact h1
  · exfalso
    have a1 := al_1 (T := T) (a := a) (w := w) (by omega)
    have a2 := al_2 (T := T) (a := a) (w := w) (by omega)
    have b1 := al_1 (T := T) (a := a) (w := v) (by
      rw [h]
      have : v = 0 ∨ v = 1 ∨ v = 2 ∨ v = 3 := by omega
      rcases this with rfl | rfl | rfl | rfl <;> decide)
    have b2 := al_2 (T := T) (a := a) (w := v) (by
      rw [h]
      have : v = 0 ∨ v = 1 ∨ v = 2 ∨ v = 3 := by omega
      rcases this with rfl | rfl | rfl | rfl <;> decide)
    rw [a1] at b1
    rw [a2] at b2
    have hv4 : v = 0 ∨ v = 1 ∨ v = 2 ∨ v = 3 := by omega
    have hw4 : w = 0 ∨ w = 1 ∨ w = 2 ∨ w = 3 := by omega
    rcases hv4 with rfl | rfl | rfl | rfl <;> rcases hw4 with rfl | rfl | rfl | rfl <;> first | exact hne rfl | exact absurd b1 (by decide) | exact absurd b2 (by decide)
theorem wd_al {T : Nat → Int32} {a v : Nat} (hv : v < 4) (h : wd T a = v) : al T a v = wl v ∧ ∀ w, w < 4 → w ≠ v → al T a w < 2 := by
  have key : al T a v = wl v := by
    have : v = 0 ∨ v = 1 ∨ v = 2 ∨ v = 3 := by omega
    rcases this with rfl | rfl | rfl | rfl
    · exact wd_s0 h
    · exact (wd_s1 h).2
    · exact (wd_s2 h).2.2
    · obtain ⟨-, -, -, h3, -⟩ := wd_s3 (T := T) (a := a) (by omega); exact h3 h
  exact ⟨key, fun w hw hne => al_other hv hw key hne⟩
theorem wd_al4 {T : Nat → Int32} {a : Nat} (h : wd T a = 4) : ¬ al T a 0 = 5 ∧ ¬ al T a 1 = 5 ∧ ¬ al T a 2 = 3 ∧ ¬ al T a 3 = 5 := by
  obtain ⟨h0, h1, h2, -, h3⟩ := wd_s3 (T := T) (a := a) (by omega)
  exact ⟨h0, h1, h2, h3 h⟩
theorem far_al {T : Nat → Int32} {a v : Nat} (hv : v < 4) (h : wd T a = v) : far T a = wl v := by
  obtain ⟨h1, h2⟩ := wd_al hv h
  have : v = 0 ∨ v = 1 ∨ v = 2 ∨ v = 3 := by omega
  unfold far
  rcases this with rfl | rfl | rfl | rfl
  · have a1 := h2 1 (by decide) (by decide); have a2 := h2 2 (by decide) (by decide); have a3 := h2 3 (by decide) (by decide)
    rw [h1]; simp only [show wl 0 = 5 from rfl]; omega
  · have a1 := h2 0 (by decide) (by decide); have a2 := h2 2 (by decide) (by decide); have a3 := h2 3 (by decide) (by decide)
    rw [h1]; simp only [show wl 1 = 5 from rfl]; omega
  · have a1 := h2 1 (by decide) (by decide); have a2 := h2 0 (by decide) (by decide); have a3 := h2 3 (by decide) (by decide)
    rw [h1]; simp only [show wl 2 = 3 from rfl]; omega
  · have a1 := h2 1 (by decide) (by decide); have a2 := h2 2 (by decide) (by decide); have a3 := h2 0 (by decide) (by decide)
    rw [h1]; simp only [show wl 3 = 5 from rfl]; omega