/-! the head, what is kept, comers from rows: the class and the model -/
theorem t_K_head_0 {σ : zSt} (hl : Lay σ) {n a y : Nat} (H : zHd σ n a y) {od : Nat → Nat} (ho : zOd σ a od) {yq kdf paf : Nat → Nat} (hwf : zWf σ y yq kdf paf) (h0 : 0 < y) : Dt mX11_head [.ref 0] σ (some (.int (gI (fun z => tO (pt (zX σ 21) ((fun z => tf (zX σ 21) (zSc σ) (zLk σ) (zDr σ) true (kdf z) (paf z) od a) z)) n) y))) (zuX σ 25 (fl (fun z => tf (zX σ 21) (zSc σ) (zLk σ) (zDr σ) true (kdf z) (paf z) od a) n (zX σ 25) y)) := by
  obtain ⟨-, hn, hn8, ha, ha4, hy, hy8⟩ := id H
  refine Dt.of (by decide) (Nat.le_of_ble_eq_true rfl) fun κ B Rt => ?_
  show Z κ 0 0 σ 0 [(0, .ref 0)] []
  refine Z.iconst B dX11_head_0 (v := (-1)) rfl ?_
  refine Z.istore_n B dX11_head_1 (by decide) (L' := [(0, .ref 0), (1, .int (-1))]) rfl ?_
  refine Z.iconst B dX11_head_2 (v := nI 0) rfl ?_
  refine Z.istore_n B dX11_head_3 (by decide) (L' := [(0, .ref 0), (1, .int (-1)), (2, .int (nI 0))]) rfl ?_
  refine Z.iconst B dX11_head_4 (v := nI 0) rfl ?_
  refine Z.istore_n B dX11_head_5 (by decide) (L' := [(0, .ref 0), (1, .int (-1)), (2, .int (nI 0)), (3, .int (nI 0))]) rfl ?_
  have hloop6 : ∀ v : Nat, v ≤ 8 → Z κ 0 0 (zuX σ 25 (fl (fun z => tf (zX σ 21) (zSc σ) (zLk σ) (zDr σ) true (kdf z) (paf z) od a) n (zX σ 25) (min v y))) 6 [(0, .ref 0), (1, .int (gI (fun z => tO (pt (zX σ 21) ((fun z => tf (zX σ 21) (zSc σ) (zLk σ) (zDr σ) true (kdf z) (paf z) od a) z)) n) (min v y))), (2, .int (gm (fun z => tO (pt (zX σ 21) ((fun z => tf (zX σ 21) (zSc σ) (zLk σ) (zDr σ) true (kdf z) (paf z) od a) z)) n) (min v y))), (3, .int (nI v))] [] := by
    refine z_loop (fun v => 8 - v) (fun v ih hv8 => ?_)
    refine Z.iload_n B dX11_head_6 (x := nI v) rfl ?_
    refine Z.bipush B dX11_head_7 (v := nI 8) rfl ?_
    refine Z.icmp_geN B dX11_head_9 (tgt := 61) rfl (by omega) (by omega) (fun h9 => ?_) (fun h9 => ?_)
    · skip
      obtain rfl : 8 = v := by omega
      rw [show min 8 y = y from Nat.min_eq_right hy8]
      refine Z.iload_n B dX11_head_61 (x := gI (fun z => tO (pt (zX σ 21) ((fun z => tf (zX σ 21) (zSc σ) (zLk σ) (zDr σ) true (kdf z) (paf z) od a) z)) n) (y)) rfl ?_
      refine Z.iconst B dX11_head_62 (v := (-1)) rfl ?_
      refine Z.icmp_ne B dX11_head_63 (tgt := 74) rfl (fun h63 => ?_) (fun h63 => absurd h63 (by rw [gI_pos h0]; exact zm1 (Nat.lt_of_lt_of_le (ga_lt h0) (by omega))))
      refine Z.iload_n B dX11_head_74 (x := gI (fun z => tO (pt (zX σ 21) ((fun z => tf (zX σ 21) (zSc σ) (zLk σ) (zDr σ) true (kdf z) (paf z) od a) z)) n) (y)) rfl ?_
      refine Z.iret B Rt dX11_head_75 (ty := .int) rfl rfl (by decide) (by decide) ?_
      exact ⟨rfl, rfl⟩
    · skip
      refine Z.aload_n B dX11_head_12 (v := .ref 0) rfl rfl ?_
      refine Z.getR (σ := (zuX σ 25 (fl (fun z => tf (zX σ 21) (zSc σ) (zLk σ) (zDr σ) true (kdf z) (paf z) od a) n (zX σ 25) (min v y)))) B fX11_28_11 dX11_head_13 (hl.n (k := 0) (by decide)) (hl.k (k := 0) (by decide)) (by decide) (j := 20) (hl.r (k := 0) (f := 2) (by decide) (by decide)) ?_
      refine Z.iload_n B dX11_head_16 (x := nI v) rfl ?_
      rcases Nat.lt_or_ge v y with hv | hv
      · skip
        rw [show min v y = v from Nat.min_eq_left (Nat.le_of_lt hv)]
        refine Z.callVI (σ := (zuX σ 25 (fl (fun z => tf (zX σ 21) (zSc σ) (zLk σ) (zDr σ) true (kdf z) (paf z) od a) n (zX σ 25) (v)))) B (M' := mX1_wayAt) (as := [.int (nI v)]) (st := []) (v := .ref (yq v)) dX11_head_17 wX1_wayAt iX1_wayAt sX1_wayAt kX11_102 (hl.n (k := 20) (by decide)) (hl.k (k := 20) (by decide)) (by decide) rfl rfl (t_X1_wayAt_in (σ := (zuX σ 25 (fl (fun z => tf (zX σ 21) (zSc σ) (zLk σ) (zDr σ) true (kdf z) (paf z) od a) n (zX σ 25) (v)))) H hv (hwf v hv).1) rfl rfl (by decide) (by decide) (Nat.le_of_ble_eq_true rfl) (by decide) (by decide) ?_
        refine Z.astore B dX11_head_20 (by decide) rfl (L' := [(0, .ref 0), (1, .int (gI (fun z => tO (pt (zX σ 21) ((fun z => tf (zX σ 21) (zSc σ) (zLk σ) (zDr σ) true (kdf z) (paf z) od a) z)) n) (v))), (2, .int (gm (fun z => tO (pt (zX σ 21) ((fun z => tf (zX σ 21) (zSc σ) (zLk σ) (zDr σ) true (kdf z) (paf z) od a) z)) n) (v))), (3, .int (nI v)), (4, .ref (yq v))]) rfl ?_
        refine Z.aload B dX11_head_22 (v := .ref (yq v)) rfl rfl ?_
        refine Z.ifnull_r B dX11_head_24 ?_
        refine Z.aload_n B dX11_head_27 (v := .ref 0) rfl rfl ?_
        refine Z.getR (σ := (zuX σ 25 (fl (fun z => tf (zX σ 21) (zSc σ) (zLk σ) (zDr σ) true (kdf z) (paf z) od a) n (zX σ 25) (v)))) B fX11_28_11 dX11_head_28 (hl.n (k := 0) (by decide)) (hl.k (k := 0) (by decide)) (by decide) (j := 20) (hl.r (k := 0) (f := 2) (by decide) (by decide)) ?_
        refine Z.aload B dX11_head_31 (v := .ref (yq v)) rfl rfl ?_
        refine Z.iconst B dX11_head_33 (v := nI 1) rfl ?_
        have etrue : nI 1 = zb true := rfl
        refine Z.callVI (σ := (zuX σ 25 (fl (fun z => tf (zX σ 21) (zSc σ) (zLk σ) (zDr σ) true (kdf z) (paf z) od a) n (zX σ 25) (v)))) B (M' := mX1_tellsOf) (as := [.ref (yq v), .int (zb true)]) (st := []) (v := .int ((fun z => tO (pt (zX σ 21) ((fun z => tf (zX σ 21) (zSc σ) (zLk σ) (zDr σ) true (kdf z) (paf z) od a) z)) n) v)) dX11_head_34 wX1_tellsOf iX1_tellsOf sX1_tellsOf kX11_224 (hl.n (k := 20) (by decide)) (hl.k (k := 20) (by decide)) (by decide) rfl rfl (t_X1_tellsOf (σ := (zuX σ 25 (fl (fun z => tf (zX σ 21) (zSc σ) (zLk σ) (zDr σ) true (kdf z) (paf z) od a) n (zX σ 25) (v)))) H ho ((hwf v hv).2.uX (by decide)) (sl := true)) rfl rfl (by decide) (by decide) (Nat.le_of_ble_eq_true rfl) (by decide) (by decide) ?_
        refine Z.eqσ (τ := (zuX σ 25 (fi n ((fun z => tf (zX σ 21) (zSc σ) (zLk σ) (zDr σ) true (kdf z) (paf z) od a) v) (fl (fun z => tf (zX σ 21) (zSc σ) (zLk σ) (zDr σ) true (kdf z) (paf z) od a) n (zX σ 25) v)))) (by rw [zX_self, zuX_uX]; rfl) ?_
        refine Z.istore B dX11_head_37 (by decide) (L' := [(0, .ref 0), (1, .int (gI (fun z => tO (pt (zX σ 21) ((fun z => tf (zX σ 21) (zSc σ) (zLk σ) (zDr σ) true (kdf z) (paf z) od a) z)) n) (v))), (2, .int (gm (fun z => tO (pt (zX σ 21) ((fun z => tf (zX σ 21) (zSc σ) (zLk σ) (zDr σ) true (kdf z) (paf z) od a) z)) n) (v))), (3, .int (nI v)), (4, .ref (yq v)), (5, .int ((fun z => tO (pt (zX σ 21) ((fun z => tf (zX σ 21) (zSc σ) (zLk σ) (zDr σ) true (kdf z) (paf z) od a) z)) n) v))]) rfl ?_
        refine Z.iload_n B dX11_head_39 (x := gI (fun z => tO (pt (zX σ 21) ((fun z => tf (zX σ 21) (zSc σ) (zLk σ) (zDr σ) true (kdf z) (paf z) od a) z)) n) (v)) rfl ?_
        refine Z.iconst B dX11_head_40 (v := (-1)) rfl ?_
        refine Z.icmp_eq B dX11_head_41 (tgt := 50) rfl (fun h41 => ?_) (fun h41 => ?_)
        · skip
          refine Z.iload_n B dX11_head_50 (x := nI v) rfl ?_
          refine Z.istore_n B dX11_head_51 (by decide) (L' := [(0, .ref 0), (1, .int (nI v)), (2, .int (gm (fun z => tO (pt (zX σ 21) ((fun z => tf (zX σ 21) (zSc σ) (zLk σ) (zDr σ) true (kdf z) (paf z) od a) z)) n) (v))), (3, .int (nI v)), (4, .ref (yq v)), (5, .int ((fun z => tO (pt (zX σ 21) ((fun z => tf (zX σ 21) (zSc σ) (zLk σ) (zDr σ) true (kdf z) (paf z) od a) z)) n) v))]) rfl ?_
          refine Z.iload B dX11_head_52 (x := ((fun z => tO (pt (zX σ 21) ((fun z => tf (zX σ 21) (zSc σ) (zLk σ) (zDr σ) true (kdf z) (paf z) od a) z)) n) v)) rfl ?_
          refine Z.istore_n B dX11_head_54 (by decide) (L' := [(0, .ref 0), (1, .int (nI v)), (2, .int ((fun z => tO (pt (zX σ 21) ((fun z => tf (zX σ 21) (zSc σ) (zLk σ) (zDr σ) true (kdf z) (paf z) od a) z)) n) v)), (3, .int (nI v)), (4, .ref (yq v)), (5, .int ((fun z => tO (pt (zX σ 21) ((fun z => tf (zX σ 21) (zSc σ) (zLk σ) (zDr σ) true (kdf z) (paf z) od a) z)) n) v))]) rfl ?_
          refine Z.iincN B dX11_head_55 (by decide) (a := v) rfl (L' := [(0, .ref 0), (1, .int (nI v)), (2, .int ((fun z => tO (pt (zX σ 21) ((fun z => tf (zX σ 21) (zSc σ) (zLk σ) (zDr σ) true (kdf z) (paf z) od a) z)) n) v)), (3, .int (nI (v + 1))), (4, .ref (yq v)), (5, .int ((fun z => tO (pt (zX σ 21) ((fun z => tf (zX σ 21) (zSc σ) (zLk σ) (zDr σ) true (kdf z) (paf z) od a) z)) n) v))]) rfl ?_
          refine Z.goto B dX11_head_58 (tgt := 6) rfl ?_
          refine Z.drop 4 (L' := [(0, .ref 0), (1, .int (nI v)), (2, .int ((fun z => tO (pt (zX σ 21) ((fun z => tf (zX σ 21) (zSc σ) (zLk σ) (zDr σ) true (kdf z) (paf z) od a) z)) n) v)), (3, .int (nI (v + 1))), (5, .int ((fun z => tO (pt (zX σ 21) ((fun z => tf (zX σ 21) (zSc σ) (zLk σ) (zDr σ) true (kdf z) (paf z) od a) z)) n) v))]) rfl ?_
          refine Z.drop 5 (L' := [(0, .ref 0), (1, .int (nI v)), (2, .int ((fun z => tO (pt (zX σ 21) ((fun z => tf (zX σ 21) (zSc σ) (zLk σ) (zDr σ) true (kdf z) (paf z) od a) z)) n) v)), (3, .int (nI (v + 1)))]) rfl ?_
          have e := ih (v + 1) (by omega) (by omega)
          first | (rw [show min (v + 1) y = min v y by omega] at e; exact e) | (rw [show min (v + 1) y = v + 1 from Nat.min_eq_left (by omega), ← fl_s] at e; first | (rw [(gI_take (Or.inl h41) (by omega)).1, (gI_take (Or.inl h41) (by omega)).2] at e; exact e) | (rw [(gI_take (Or.inr h47) (by omega)).1, (gI_take (Or.inr h47) (by omega)).2] at e; exact e) | (rw [(gI_keep h41 h47).1, (gI_keep h41 h47).2] at e; exact e))
        · skip
          refine Z.iload B dX11_head_44 (x := ((fun z => tO (pt (zX σ 21) ((fun z => tf (zX σ 21) (zSc σ) (zLk σ) (zDr σ) true (kdf z) (paf z) od a) z)) n) v)) rfl ?_
          refine Z.iload_n B dX11_head_46 (x := gm (fun z => tO (pt (zX σ 21) ((fun z => tf (zX σ 21) (zSc σ) (zLk σ) (zDr σ) true (kdf z) (paf z) od a) z)) n) (v)) rfl ?_
          refine Z.icmp_le B dX11_head_47 (tgt := 55) rfl (fun h47 => ?_) (fun h47 => ?_)
          · skip
            have h47 : (fun z => tO (pt (zX σ 21) ((fun z => tf (zX σ 21) (zSc σ) (zLk σ) (zDr σ) true (kdf z) (paf z) od a) z)) n) v ≤ gm (fun z => tO (pt (zX σ 21) ((fun z => tf (zX σ 21) (zSc σ) (zLk σ) (zDr σ) true (kdf z) (paf z) od a) z)) n) v := h47
            refine Z.iincN B dX11_head_55 (by decide) (a := v) rfl (L' := [(0, .ref 0), (1, .int (gI (fun z => tO (pt (zX σ 21) ((fun z => tf (zX σ 21) (zSc σ) (zLk σ) (zDr σ) true (kdf z) (paf z) od a) z)) n) (v))), (2, .int (gm (fun z => tO (pt (zX σ 21) ((fun z => tf (zX σ 21) (zSc σ) (zLk σ) (zDr σ) true (kdf z) (paf z) od a) z)) n) (v))), (3, .int (nI (v + 1))), (4, .ref (yq v)), (5, .int ((fun z => tO (pt (zX σ 21) ((fun z => tf (zX σ 21) (zSc σ) (zLk σ) (zDr σ) true (kdf z) (paf z) od a) z)) n) v))]) rfl ?_
            refine Z.goto B dX11_head_58 (tgt := 6) rfl ?_
            refine Z.drop 4 (L' := [(0, .ref 0), (1, .int (gI (fun z => tO (pt (zX σ 21) ((fun z => tf (zX σ 21) (zSc σ) (zLk σ) (zDr σ) true (kdf z) (paf z) od a) z)) n) (v))), (2, .int (gm (fun z => tO (pt (zX σ 21) ((fun z => tf (zX σ 21) (zSc σ) (zLk σ) (zDr σ) true (kdf z) (paf z) od a) z)) n) (v))), (3, .int (nI (v + 1))), (5, .int ((fun z => tO (pt (zX σ 21) ((fun z => tf (zX σ 21) (zSc σ) (zLk σ) (zDr σ) true (kdf z) (paf z) od a) z)) n) v))]) rfl ?_
            refine Z.drop 5 (L' := [(0, .ref 0), (1, .int (gI (fun z => tO (pt (zX σ 21) ((fun z => tf (zX σ 21) (zSc σ) (zLk σ) (zDr σ) true (kdf z) (paf z) od a) z)) n) (v))), (2, .int (gm (fun z => tO (pt (zX σ 21) ((fun z => tf (zX σ 21) (zSc σ) (zLk σ) (zDr σ) true (kdf z) (paf z) od a) z)) n) (v))), (3, .int (nI (v + 1)))]) rfl ?_
            have e := ih (v + 1) (by omega) (by omega)
            first | (rw [show min (v + 1) y = min v y by omega] at e; exact e) | (rw [show min (v + 1) y = v + 1 from Nat.min_eq_left (by omega), ← fl_s] at e; first | (rw [(gI_take (Or.inl h41) (by omega)).1, (gI_take (Or.inl h41) (by omega)).2] at e; exact e) | (rw [(gI_take (Or.inr h47) (by omega)).1, (gI_take (Or.inr h47) (by omega)).2] at e; exact e) | (rw [(gI_keep h41 h47).1, (gI_keep h41 h47).2] at e; exact e))
          · skip
            have h47 : gm (fun z => tO (pt (zX σ 21) ((fun z => tf (zX σ 21) (zSc σ) (zLk σ) (zDr σ) true (kdf z) (paf z) od a) z)) n) v < (fun z => tO (pt (zX σ 21) ((fun z => tf (zX σ 21) (zSc σ) (zLk σ) (zDr σ) true (kdf z) (paf z) od a) z)) n) v := by rw [zlt_iff]; rw [zle_iff] at h47; omega
            refine Z.iload_n B dX11_head_50 (x := nI v) rfl ?_
            refine Z.istore_n B dX11_head_51 (by decide) (L' := [(0, .ref 0), (1, .int (nI v)), (2, .int (gm (fun z => tO (pt (zX σ 21) ((fun z => tf (zX σ 21) (zSc σ) (zLk σ) (zDr σ) true (kdf z) (paf z) od a) z)) n) (v))), (3, .int (nI v)), (4, .ref (yq v)), (5, .int ((fun z => tO (pt (zX σ 21) ((fun z => tf (zX σ 21) (zSc σ) (zLk σ) (zDr σ) true (kdf z) (paf z) od a) z)) n) v))]) rfl ?_
            refine Z.iload B dX11_head_52 (x := ((fun z => tO (pt (zX σ 21) ((fun z => tf (zX σ 21) (zSc σ) (zLk σ) (zDr σ) true (kdf z) (paf z) od a) z)) n) v)) rfl ?_
            refine Z.istore_n B dX11_head_54 (by decide) (L' := [(0, .ref 0), (1, .int (nI v)), (2, .int ((fun z => tO (pt (zX σ 21) ((fun z => tf (zX σ 21) (zSc σ) (zLk σ) (zDr σ) true (kdf z) (paf z) od a) z)) n) v)), (3, .int (nI v)), (4, .ref (yq v)), (5, .int ((fun z => tO (pt (zX σ 21) ((fun z => tf (zX σ 21) (zSc σ) (zLk σ) (zDr σ) true (kdf z) (paf z) od a) z)) n) v))]) rfl ?_
            refine Z.iincN B dX11_head_55 (by decide) (a := v) rfl (L' := [(0, .ref 0), (1, .int (nI v)), (2, .int ((fun z => tO (pt (zX σ 21) ((fun z => tf (zX σ 21) (zSc σ) (zLk σ) (zDr σ) true (kdf z) (paf z) od a) z)) n) v)), (3, .int (nI (v + 1))), (4, .ref (yq v)), (5, .int ((fun z => tO (pt (zX σ 21) ((fun z => tf (zX σ 21) (zSc σ) (zLk σ) (zDr σ) true (kdf z) (paf z) od a) z)) n) v))]) rfl ?_
            refine Z.goto B dX11_head_58 (tgt := 6) rfl ?_
            refine Z.drop 4 (L' := [(0, .ref 0), (1, .int (nI v)), (2, .int ((fun z => tO (pt (zX σ 21) ((fun z => tf (zX σ 21) (zSc σ) (zLk σ) (zDr σ) true (kdf z) (paf z) od a) z)) n) v)), (3, .int (nI (v + 1))), (5, .int ((fun z => tO (pt (zX σ 21) ((fun z => tf (zX σ 21) (zSc σ) (zLk σ) (zDr σ) true (kdf z) (paf z) od a) z)) n) v))]) rfl ?_
            refine Z.drop 5 (L' := [(0, .ref 0), (1, .int (nI v)), (2, .int ((fun z => tO (pt (zX σ 21) ((fun z => tf (zX σ 21) (zSc σ) (zLk σ) (zDr σ) true (kdf z) (paf z) od a) z)) n) v)), (3, .int (nI (v + 1)))]) rfl ?_
            have e := ih (v + 1) (by omega) (by omega)
            first | (rw [show min (v + 1) y = min v y by omega] at e; exact e) | (rw [show min (v + 1) y = v + 1 from Nat.min_eq_left (by omega), ← fl_s] at e; first | (rw [(gI_take (Or.inl h41) (by omega)).1, (gI_take (Or.inl h41) (by omega)).2] at e; exact e) | (rw [(gI_take (Or.inr h47) (by omega)).1, (gI_take (Or.inr h47) (by omega)).2] at e; exact e) | (rw [(gI_keep h41 h47).1, (gI_keep h41 h47).2] at e; exact e))
      · skip
        refine Z.callVI (σ := (zuX σ 25 (fl (fun z => tf (zX σ 21) (zSc σ) (zLk σ) (zDr σ) true (kdf z) (paf z) od a) n (zX σ 25) (min v y)))) B (M' := mX1_wayAt) (as := [.int (nI v)]) (st := []) (v := .null) dX11_head_17 wX1_wayAt iX1_wayAt sX1_wayAt kX11_102 (hl.n (k := 20) (by decide)) (hl.k (k := 20) (by decide)) (by decide) rfl rfl (t_X1_wayAt_out (σ := (zuX σ 25 (fl (fun z => tf (zX σ 21) (zSc σ) (zLk σ) (zDr σ) true (kdf z) (paf z) od a) n (zX σ 25) (min v y)))) H (Or.inr (nI_le hv (by omega)))) rfl rfl (by decide) (by decide) (Nat.le_of_ble_eq_true rfl) (by decide) (by decide) ?_
        refine Z.astore B dX11_head_20 (by decide) rfl (L' := [(0, .ref 0), (1, .int (gI (fun z => tO (pt (zX σ 21) ((fun z => tf (zX σ 21) (zSc σ) (zLk σ) (zDr σ) true (kdf z) (paf z) od a) z)) n) (min v y))), (2, .int (gm (fun z => tO (pt (zX σ 21) ((fun z => tf (zX σ 21) (zSc σ) (zLk σ) (zDr σ) true (kdf z) (paf z) od a) z)) n) (min v y))), (3, .int (nI v)), (4, .null)]) rfl ?_
        refine Z.aload B dX11_head_22 (v := .null) rfl rfl ?_
        refine Z.ifnull_n B dX11_head_24 (tgt := 55) rfl ?_
        refine Z.iincN B dX11_head_55 (by decide) (a := v) rfl (L' := [(0, .ref 0), (1, .int (gI (fun z => tO (pt (zX σ 21) ((fun z => tf (zX σ 21) (zSc σ) (zLk σ) (zDr σ) true (kdf z) (paf z) od a) z)) n) (min v y))), (2, .int (gm (fun z => tO (pt (zX σ 21) ((fun z => tf (zX σ 21) (zSc σ) (zLk σ) (zDr σ) true (kdf z) (paf z) od a) z)) n) (min v y))), (3, .int (nI (v + 1))), (4, .null)]) rfl ?_
        refine Z.goto B dX11_head_58 (tgt := 6) rfl ?_
        refine Z.drop 4 (L' := [(0, .ref 0), (1, .int (gI (fun z => tO (pt (zX σ 21) ((fun z => tf (zX σ 21) (zSc σ) (zLk σ) (zDr σ) true (kdf z) (paf z) od a) z)) n) (min v y))), (2, .int (gm (fun z => tO (pt (zX σ 21) ((fun z => tf (zX σ 21) (zSc σ) (zLk σ) (zDr σ) true (kdf z) (paf z) od a) z)) n) (min v y))), (3, .int (nI (v + 1)))]) rfl ?_
        have e := ih (v + 1) (by omega) (by omega)
        first | (rw [show min (v + 1) y = min v y by omega] at e; exact e) | (rw [show min (v + 1) y = v + 1 from Nat.min_eq_left (by omega), ← fl_s] at e; first | (rw [(gI_take (Or.inl h41) (by omega)).1, (gI_take (Or.inl h41) (by omega)).2] at e; exact e) | (rw [(gI_take (Or.inr h47) (by omega)).1, (gI_take (Or.inr h47) (by omega)).2] at e; exact e) | (rw [(gI_keep h41 h47).1, (gI_keep h41 h47).2] at e; exact e))
  have h1 := hloop6 0 (Nat.zero_le _)
  have e0 : fl (fun z => tf (zX σ 21) (zSc σ) (zLk σ) (zDr σ) true (kdf z) (paf z) od a) n (zX σ 25) (min 0 y) = zX σ 25 := by rw [Nat.zero_min]; rfl
  have e1 : gI (fun z => tO (pt (zX σ 21) ((fun z => tf (zX σ 21) (zSc σ) (zLk σ) (zDr σ) true (kdf z) (paf z) od a) z)) n) (min 0 y) = (-1) := by rw [Nat.zero_min]; rfl
  have e2 : gm (fun z => tO (pt (zX σ 21) ((fun z => tf (zX σ 21) (zSc σ) (zLk σ) (zDr σ) true (kdf z) (paf z) od a) z)) n) (min 0 y) = nI 0 := by rw [Nat.zero_min]; rfl
  rw [e0, e1, e2, zuX_id] at h1
  exact h1

theorem t_K_head_5 {σ : zSt} (hl : Lay σ) {n a y : Nat} (H : zHd σ n a y) (h0 : y = 0) : Dt mX11_head [.ref 0] σ (some (.int (-nI 5))) (zuX σ 43 (upd (zX σ 43) 5 (zX σ 43 5 + nI 1))) := by
  obtain ⟨-, hn, hn8, ha, ha4, hy, hy8⟩ := id H
  refine Dt.of (by decide) (Nat.le_of_ble_eq_true rfl) fun κ B Rt => ?_
  show Z κ 0 0 σ 0 [(0, .ref 0)] []
  refine Z.iconst B dX11_head_0 (v := (-1)) rfl ?_
  refine Z.istore_n B dX11_head_1 (by decide) (L' := [(0, .ref 0), (1, .int (-1))]) rfl ?_
  refine Z.iconst B dX11_head_2 (v := nI 0) rfl ?_
  refine Z.istore_n B dX11_head_3 (by decide) (L' := [(0, .ref 0), (1, .int (-1)), (2, .int (nI 0))]) rfl ?_
  refine Z.iconst B dX11_head_4 (v := nI 0) rfl ?_
  refine Z.istore_n B dX11_head_5 (by decide) (L' := [(0, .ref 0), (1, .int (-1)), (2, .int (nI 0)), (3, .int (nI 0))]) rfl ?_
  have hloop6 : ∀ v : Nat, v ≤ 8 → Z κ 0 0 σ 6 [(0, .ref 0), (1, .int (-1)), (2, .int (nI 0)), (3, .int (nI v))] [] := by
    refine z_loop (fun v => 8 - v) (fun v ih hv8 => ?_)
    refine Z.iload_n B dX11_head_6 (x := nI v) rfl ?_
    refine Z.bipush B dX11_head_7 (v := nI 8) rfl ?_
    refine Z.icmp_geN B dX11_head_9 (tgt := 61) rfl (by omega) (by omega) (fun h9 => ?_) (fun h9 => ?_)
    · skip
      obtain rfl : 8 = v := by omega
      refine Z.iload_n B dX11_head_61 (x := (-1)) rfl ?_
      refine Z.iconst B dX11_head_62 (v := (-1)) rfl ?_
      refine Z.icmp_ne B dX11_head_63 (tgt := 74) rfl (fun h63 => absurd rfl h63) (fun h63 => ?_)
      refine Z.aload_n B dX11_head_66 (v := .ref 0) rfl rfl ?_
      refine Z.iconst B dX11_head_67 (v := nI 5) rfl ?_
      refine Z.callVI (σ := σ) B (M' := mX11_refuse) (as := [.int (nI 5)]) (st := []) (v := .int (-nI 5)) dX11_head_68 wX11_refuse iX11_refuse sX11_refuse kX11_63 (hl.n (k := 0) (by decide)) (hl.k (k := 0) (by decide)) (by decide) rfl rfl (t_X11_refuse (σ := σ) hl (b := 5) (by decide)) rfl rfl (by decide) (by decide) (Nat.le_of_ble_eq_true rfl) (by decide) (by decide) ?_
      refine Z.eqσ (τ := (zuX σ 43 (upd (zX σ 43) 5 (zX σ 43 5 + nI 1)))) rfl ?_
      refine Z.goto B dX11_head_71 (tgt := 75) rfl ?_
      refine Z.iret B Rt dX11_head_75 (ty := .int) rfl rfl (by decide) (by decide) ?_
      exact ⟨rfl, rfl⟩
    · skip
      refine Z.aload_n B dX11_head_12 (v := .ref 0) rfl rfl ?_
      refine Z.getR (σ := σ) B fX11_28_11 dX11_head_13 (hl.n (k := 0) (by decide)) (hl.k (k := 0) (by decide)) (by decide) (j := 20) (hl.r (k := 0) (f := 2) (by decide) (by decide)) ?_
      refine Z.iload_n B dX11_head_16 (x := nI v) rfl ?_
      refine Z.callVI (σ := σ) B (M' := mX1_wayAt) (as := [.int (nI v)]) (st := []) (v := .null) dX11_head_17 wX1_wayAt iX1_wayAt sX1_wayAt kX11_102 (hl.n (k := 20) (by decide)) (hl.k (k := 20) (by decide)) (by decide) rfl rfl (t_X1_wayAt_out (σ := σ) H (Or.inr (by rw [h0]; exact nI_le (Nat.zero_le v) (by omega)))) rfl rfl (by decide) (by decide) (Nat.le_of_ble_eq_true rfl) (by decide) (by decide) ?_
      refine Z.astore B dX11_head_20 (by decide) rfl (L' := [(0, .ref 0), (1, .int (-1)), (2, .int (nI 0)), (3, .int (nI v)), (4, .null)]) rfl ?_
      refine Z.aload B dX11_head_22 (v := .null) rfl rfl ?_
      refine Z.ifnull_n B dX11_head_24 (tgt := 55) rfl ?_
      refine Z.iincN B dX11_head_55 (by decide) (a := v) rfl (L' := [(0, .ref 0), (1, .int (-1)), (2, .int (nI 0)), (3, .int (nI (v + 1))), (4, .null)]) rfl ?_
      refine Z.goto B dX11_head_58 (tgt := 6) rfl ?_
      refine Z.drop 4 (L' := [(0, .ref 0), (1, .int (-1)), (2, .int (nI 0)), (3, .int (nI (v + 1)))]) rfl ?_
      exact ih (v + 1) (by omega) (by omega)
  exact hloop6 0 (Nat.zero_le _)

theorem t_M_head_5 {σ : zSt} (hl : Lay σ) {n a y : Nat} (H : zMd σ n a y) (h0 : y = 0) : Dt mX12_head [.ref 45] σ (some (.int (-5))) (zuX σ 46 (upd (zX σ 46) 5 (zX σ 46 5 + nI 1))) := by
  obtain ⟨-, hn, hn8, ha, ha4, hy, hy8⟩ := id H
  refine Dt.of (by decide) (Nat.le_of_ble_eq_true rfl) fun κ B Rt => ?_
  show Z κ 0 0 σ 0 [(0, .ref 45)] []
  refine Z.aload_n B dX12_head_0 (v := .ref 45) rfl rfl ?_
  refine Z.getI (σ := σ) B fX12_87_12 dX12_head_1 (hl.n (k := 45) (by decide)) (hl.k (k := 45) (by decide)) (by decide) (v := nI y) hy ?_
  refine Z.if_neN B dX12_head_4 (tgt := 14) rfl (by omega) (fun h4 => by exfalso; first | omega | contradiction | simp_all) (fun h4 => ?_)
  refine Z.aload_n B dX12_head_7 (v := .ref 45) rfl rfl ?_
  refine Z.bipush B dX12_head_8 (v := (-5)) rfl ?_
  refine Z.callVI (σ := σ) B (M' := mX12_no) (as := [.int (-5)]) (st := []) (v := .int (-5)) dX12_head_10 wX12_no iX12_no sX12_no kX12_94 (hl.n (k := 45) (by decide)) (hl.k (k := 45) (by decide)) (by decide) rfl rfl (t_X12_no_5 (σ := σ) hl) rfl rfl (by decide) (by decide) (Nat.le_of_ble_eq_true rfl) (by decide) (by decide) ?_
  refine Z.eqσ (τ := (zuX σ 46 (upd (zX σ 46) 5 (zX σ 46 5 + nI 1)))) rfl ?_
  refine Z.iret B Rt dX12_head_13 (ty := .int) rfl rfl (by decide) (by decide) ?_
  exact ⟨rfl, rfl⟩

theorem t_M_head_0 {σ : zSt} (hl : Lay σ) {n a y : Nat} (H : zMd σ n a y) {od : Nat → Nat} (ho : zMo σ a od) {pos : Nat → Nat} (hpo : zPo a od pos) {kdf paf : Nat → Nat} (hwf : zMf σ y kdf paf) (hg : zX σ 45 28 = (-1)) (h0 : 0 < y) : Dt mX12_head [.ref 45] σ (some (.int (gI (fun z => tO (mt (am_ 255) (zX σ 47) ((fun z => mtf (zX σ 47) (zX σ 48) (zX σ 49) (zX σ 50) true (kdf z) (paf z) od pos a) z)) n) y))) (zuX σ 64 (fl (fun z => mtf (zX σ 47) (zX σ 48) (zX σ 49) (zX σ 50) true (kdf z) (paf z) od pos a) n (zX σ 64) y)) := by
  obtain ⟨-, hn, hn8, ha, ha4, hy, hy8⟩ := id H
  refine Dt.of (by decide) (Nat.le_of_ble_eq_true rfl) fun κ B Rt => ?_
  show Z κ 0 0 σ 0 [(0, .ref 45)] []
  refine Z.aload_n B dX12_head_0 (v := .ref 45) rfl rfl ?_
  refine Z.getI (σ := σ) B fX12_87_12 dX12_head_1 (hl.n (k := 45) (by decide)) (hl.k (k := 45) (by decide)) (by decide) (v := nI y) hy ?_
  refine Z.if_neN B dX12_head_4 (tgt := 14) rfl (by omega) (fun h4 => ?_) (fun h4 => by exfalso; first | omega | contradiction | simp_all)
  refine Z.iconst B dX12_head_14 (v := (-1)) rfl ?_
  refine Z.istore_n B dX12_head_15 (by decide) (L' := [(0, .ref 45), (1, .int (-1))]) rfl ?_
  refine Z.iconst B dX12_head_16 (v := nI 0) rfl ?_
  refine Z.istore_n B dX12_head_17 (by decide) (L' := [(0, .ref 45), (1, .int (-1)), (2, .int (nI 0))]) rfl ?_
  refine Z.iconst B dX12_head_18 (v := nI 0) rfl ?_
  refine Z.istore_n B dX12_head_19 (by decide) (L' := [(0, .ref 45), (1, .int (-1)), (2, .int (nI 0)), (3, .int (nI 0))]) rfl ?_
  have hloop20 : ∀ v : Nat, v ≤ y → Z κ 0 0 (zuX σ 64 (fl (fun z => mtf (zX σ 47) (zX σ 48) (zX σ 49) (zX σ 50) true (kdf z) (paf z) od pos a) n (zX σ 64) v)) 20 [(0, .ref 45), (1, .int (gI (fun z => tO (mt (am_ 255) (zX σ 47) ((fun z => mtf (zX σ 47) (zX σ 48) (zX σ 49) (zX σ 50) true (kdf z) (paf z) od pos a) z)) n) v)), (2, .int (gm (fun z => tO (mt (am_ 255) (zX σ 47) ((fun z => mtf (zX σ 47) (zX σ 48) (zX σ 49) (zX σ 50) true (kdf z) (paf z) od pos a) z)) n) v)), (3, .int (nI v))] [] := by
    refine z_loop (fun v => y - v) (fun v ih hv => ?_)
    refine Z.iload_n B dX12_head_20 (x := nI v) rfl ?_
    refine Z.aload_n B dX12_head_21 (v := .ref 45) rfl rfl ?_
    refine Z.getI (σ := (zuX σ 64 (fl (fun z => mtf (zX σ 47) (zX σ 48) (zX σ 49) (zX σ 50) true (kdf z) (paf z) od pos a) n (zX σ 64) v))) B fX12_87_12 dX12_head_22 (hl.n (k := 45) (by decide)) (hl.k (k := 45) (by decide)) (by decide) (v := nI y) hy ?_
    refine Z.icmp_geN B dX12_head_25 (tgt := 68) rfl (by omega) (by omega) (fun h25 => ?_) (fun h25 => ?_)
    · skip
      obtain rfl : y = v := by omega
      refine Z.iload_n B dX12_head_68 (x := gI (fun z => tO (mt (am_ 255) (zX σ 47) ((fun z => mtf (zX σ 47) (zX σ 48) (zX σ 49) (zX σ 50) true (kdf z) (paf z) od pos a) z)) n) y) rfl ?_
      refine Z.iret B Rt dX12_head_69 (ty := .int) rfl rfl (by decide) (by decide) ?_
      exact ⟨rfl, rfl⟩
    · skip
      refine Z.aload_n B dX12_head_28 (v := .ref 45) rfl rfl ?_
      refine Z.iload_n B dX12_head_29 (x := nI v) rfl ?_
      refine Z.iconst B dX12_head_30 (v := nI 1) rfl ?_
      have etrue : nI 1 = zb true := rfl
      refine Z.callVN (σ := (zuX σ 64 (fl (fun z => mtf (zX σ 47) (zX σ 48) (zX σ 49) (zX σ 50) true (kdf z) (paf z) od pos a) n (zX σ 64) v))) B (M' := mX12_totals) (as := [.int (nI v), .int (zb true)]) (st := []) dX12_head_31 wX12_totals iX12_totals sX12_totals kX12_206 (hl.n (k := 45) (by decide)) (hl.k (k := 45) (by decide)) (by decide) rfl rfl (t_X12_totals (σ := (zuX σ 64 (fl (fun z => mtf (zX σ 47) (zX σ 48) (zX σ 49) (zX σ 50) true (kdf z) (paf z) od pos a) n (zX σ 64) v))) H ho hpo (hwf v (by omega)) (sl := true) hg) rfl rfl (by decide) (by decide) (Nat.le_of_ble_eq_true rfl) (by decide) (by decide) ?_
      refine Z.eqσ (τ := (zuX σ 64 (fi n ((fun z => mtf (zX σ 47) (zX σ 48) (zX σ 49) (zX σ 50) true (kdf z) (paf z) od pos a) v) (fl (fun z => mtf (zX σ 47) (zX σ 48) (zX σ 49) (zX σ 50) true (kdf z) (paf z) od pos a) n (zX σ 64) v)))) (by rw [zX_self, zuX_uX]; rfl) ?_
      refine Z.aload_n B dX12_head_34 (v := .ref 45) rfl rfl ?_
      refine Z.sipush B dX12_head_35 (v := nI 255) rfl ?_
      refine Z.callVI (σ := (zuX σ 64 (fi n ((fun z => mtf (zX σ 47) (zX σ 48) (zX σ 49) (zX σ 50) true (kdf z) (paf z) od pos a) v) (fl (fun z => mtf (zX σ 47) (zX σ 48) (zX σ 49) (zX σ 50) true (kdf z) (paf z) od pos a) n (zX σ 64) v)))) B (M' := mX12_tellsBy) (as := [.int (nI 255)]) (st := []) (v := .int (tO (mt (am_ 255) (zX σ 47) (fi n ((fun z => mtf (zX σ 47) (zX σ 48) (zX σ 49) (zX σ 50) true (kdf z) (paf z) od pos a) v) (fl (fun z => mtf (zX σ 47) (zX σ 48) (zX σ 49) (zX σ 50) true (kdf z) (paf z) od pos a) n (zX σ 64) v))) n)) dX12_head_38 wX12_tellsBy iX12_tellsBy sX12_tellsBy kX12_210 (hl.n (k := 45) (by decide)) (hl.k (k := 45) (by decide)) (by decide) rfl rfl (t_X12_tellsBy (σ := (zuX σ 64 (fi n ((fun z => mtf (zX σ 47) (zX σ 48) (zX σ 49) (zX σ 50) true (kdf z) (paf z) od pos a) v) (fl (fun z => mtf (zX σ 47) (zX σ 48) (zX σ 49) (zX σ 50) true (kdf z) (paf z) od pos a) n (zX σ 64) v)))) H (mk := 255) (by omega)) rfl rfl (by decide) (by decide) (Nat.le_of_ble_eq_true rfl) (by decide) (by decide) ?_
      refine Z.eqS (st' := [.int ((fun z => tO (mt (am_ 255) (zX σ 47) ((fun z => mtf (zX σ 47) (zX σ 48) (zX σ 49) (zX σ 50) true (kdf z) (paf z) od pos a) z)) n) v)]) (by rw [mt_fi]) ?_
      refine Z.istore B dX12_head_41 (by decide) (L' := [(0, .ref 45), (1, .int (gI (fun z => tO (mt (am_ 255) (zX σ 47) ((fun z => mtf (zX σ 47) (zX σ 48) (zX σ 49) (zX σ 50) true (kdf z) (paf z) od pos a) z)) n) v)), (2, .int (gm (fun z => tO (mt (am_ 255) (zX σ 47) ((fun z => mtf (zX σ 47) (zX σ 48) (zX σ 49) (zX σ 50) true (kdf z) (paf z) od pos a) z)) n) v)), (3, .int (nI v)), (4, .int ((fun z => tO (mt (am_ 255) (zX σ 47) ((fun z => mtf (zX σ 47) (zX σ 48) (zX σ 49) (zX σ 50) true (kdf z) (paf z) od pos a) z)) n) v))]) rfl ?_
      refine Z.iload_n B dX12_head_43 (x := gI (fun z => tO (mt (am_ 255) (zX σ 47) ((fun z => mtf (zX σ 47) (zX σ 48) (zX σ 49) (zX σ 50) true (kdf z) (paf z) od pos a) z)) n) v) rfl ?_
      refine Z.iconst B dX12_head_44 (v := (-1)) rfl ?_
      refine Z.icmp_eq B dX12_head_45 (tgt := 57) rfl (fun h45 => ?_) (fun h45 => ?_)
      · skip
        refine Z.iload_n B dX12_head_57 (x := nI v) rfl ?_
        refine Z.istore_n B dX12_head_58 (by decide) (L' := [(0, .ref 45), (1, .int (nI v)), (2, .int (gm (fun z => tO (mt (am_ 255) (zX σ 47) ((fun z => mtf (zX σ 47) (zX σ 48) (zX σ 49) (zX σ 50) true (kdf z) (paf z) od pos a) z)) n) v)), (3, .int (nI v)), (4, .int ((fun z => tO (mt (am_ 255) (zX σ 47) ((fun z => mtf (zX σ 47) (zX σ 48) (zX σ 49) (zX σ 50) true (kdf z) (paf z) od pos a) z)) n) v))]) rfl ?_
        refine Z.iload B dX12_head_59 (x := ((fun z => tO (mt (am_ 255) (zX σ 47) ((fun z => mtf (zX σ 47) (zX σ 48) (zX σ 49) (zX σ 50) true (kdf z) (paf z) od pos a) z)) n) v)) rfl ?_
        refine Z.istore_n B dX12_head_61 (by decide) (L' := [(0, .ref 45), (1, .int (nI v)), (2, .int ((fun z => tO (mt (am_ 255) (zX σ 47) ((fun z => mtf (zX σ 47) (zX σ 48) (zX σ 49) (zX σ 50) true (kdf z) (paf z) od pos a) z)) n) v)), (3, .int (nI v)), (4, .int ((fun z => tO (mt (am_ 255) (zX σ 47) ((fun z => mtf (zX σ 47) (zX σ 48) (zX σ 49) (zX σ 50) true (kdf z) (paf z) od pos a) z)) n) v))]) rfl ?_
        refine Z.iincN B dX12_head_62 (by decide) (a := v) rfl (L' := [(0, .ref 45), (1, .int (nI v)), (2, .int ((fun z => tO (mt (am_ 255) (zX σ 47) ((fun z => mtf (zX σ 47) (zX σ 48) (zX σ 49) (zX σ 50) true (kdf z) (paf z) od pos a) z)) n) v)), (3, .int (nI (v + 1))), (4, .int ((fun z => tO (mt (am_ 255) (zX σ 47) ((fun z => mtf (zX σ 47) (zX σ 48) (zX σ 49) (zX σ 50) true (kdf z) (paf z) od pos a) z)) n) v))]) rfl ?_
        refine Z.goto B dX12_head_65 (tgt := 20) rfl ?_
        refine Z.drop 4 (L' := [(0, .ref 45), (1, .int (nI v)), (2, .int ((fun z => tO (mt (am_ 255) (zX σ 47) ((fun z => mtf (zX σ 47) (zX σ 48) (zX σ 49) (zX σ 50) true (kdf z) (paf z) od pos a) z)) n) v)), (3, .int (nI (v + 1)))]) rfl ?_
        have e := ih (v + 1) (by omega) (by omega)
        rw [← fl_s] at e
        first | (rw [(gI_take (Or.inl h45) (by omega)).1, (gI_take (Or.inl h45) (by omega)).2] at e; exact e) | (rw [(gI_take (Or.inr h51) (by omega)).1, (gI_take (Or.inr h51) (by omega)).2] at e; exact e) | (rw [(gI_keepn h45 h51).1, (gI_keepn h45 h51).2] at e; exact e)
      · skip
        refine Z.iload B dX12_head_48 (x := ((fun z => tO (mt (am_ 255) (zX σ 47) ((fun z => mtf (zX σ 47) (zX σ 48) (zX σ 49) (zX σ 50) true (kdf z) (paf z) od pos a) z)) n) v)) rfl ?_
        refine Z.iload_n B dX12_head_50 (x := gm (fun z => tO (mt (am_ 255) (zX σ 47) ((fun z => mtf (zX σ 47) (zX σ 48) (zX σ 49) (zX σ 50) true (kdf z) (paf z) od pos a) z)) n) v) rfl ?_
        refine Z.icmp_gt B dX12_head_51 (tgt := 57) rfl (fun h51 => ?_) (fun h51 => ?_)
        · skip
          refine Z.iload_n B dX12_head_57 (x := nI v) rfl ?_
          refine Z.istore_n B dX12_head_58 (by decide) (L' := [(0, .ref 45), (1, .int (nI v)), (2, .int (gm (fun z => tO (mt (am_ 255) (zX σ 47) ((fun z => mtf (zX σ 47) (zX σ 48) (zX σ 49) (zX σ 50) true (kdf z) (paf z) od pos a) z)) n) v)), (3, .int (nI v)), (4, .int ((fun z => tO (mt (am_ 255) (zX σ 47) ((fun z => mtf (zX σ 47) (zX σ 48) (zX σ 49) (zX σ 50) true (kdf z) (paf z) od pos a) z)) n) v))]) rfl ?_
          refine Z.iload B dX12_head_59 (x := ((fun z => tO (mt (am_ 255) (zX σ 47) ((fun z => mtf (zX σ 47) (zX σ 48) (zX σ 49) (zX σ 50) true (kdf z) (paf z) od pos a) z)) n) v)) rfl ?_
          refine Z.istore_n B dX12_head_61 (by decide) (L' := [(0, .ref 45), (1, .int (nI v)), (2, .int ((fun z => tO (mt (am_ 255) (zX σ 47) ((fun z => mtf (zX σ 47) (zX σ 48) (zX σ 49) (zX σ 50) true (kdf z) (paf z) od pos a) z)) n) v)), (3, .int (nI v)), (4, .int ((fun z => tO (mt (am_ 255) (zX σ 47) ((fun z => mtf (zX σ 47) (zX σ 48) (zX σ 49) (zX σ 50) true (kdf z) (paf z) od pos a) z)) n) v))]) rfl ?_
          refine Z.iincN B dX12_head_62 (by decide) (a := v) rfl (L' := [(0, .ref 45), (1, .int (nI v)), (2, .int ((fun z => tO (mt (am_ 255) (zX σ 47) ((fun z => mtf (zX σ 47) (zX σ 48) (zX σ 49) (zX σ 50) true (kdf z) (paf z) od pos a) z)) n) v)), (3, .int (nI (v + 1))), (4, .int ((fun z => tO (mt (am_ 255) (zX σ 47) ((fun z => mtf (zX σ 47) (zX σ 48) (zX σ 49) (zX σ 50) true (kdf z) (paf z) od pos a) z)) n) v))]) rfl ?_
          refine Z.goto B dX12_head_65 (tgt := 20) rfl ?_
          refine Z.drop 4 (L' := [(0, .ref 45), (1, .int (nI v)), (2, .int ((fun z => tO (mt (am_ 255) (zX σ 47) ((fun z => mtf (zX σ 47) (zX σ 48) (zX σ 49) (zX σ 50) true (kdf z) (paf z) od pos a) z)) n) v)), (3, .int (nI (v + 1)))]) rfl ?_
          have e := ih (v + 1) (by omega) (by omega)
          rw [← fl_s] at e
          first | (rw [(gI_take (Or.inl h45) (by omega)).1, (gI_take (Or.inl h45) (by omega)).2] at e; exact e) | (rw [(gI_take (Or.inr h51) (by omega)).1, (gI_take (Or.inr h51) (by omega)).2] at e; exact e) | (rw [(gI_keepn h45 h51).1, (gI_keepn h45 h51).2] at e; exact e)
        · skip
          refine Z.goto B dX12_head_54 (tgt := 62) rfl ?_
          refine Z.iincN B dX12_head_62 (by decide) (a := v) rfl (L' := [(0, .ref 45), (1, .int (gI (fun z => tO (mt (am_ 255) (zX σ 47) ((fun z => mtf (zX σ 47) (zX σ 48) (zX σ 49) (zX σ 50) true (kdf z) (paf z) od pos a) z)) n) v)), (2, .int (gm (fun z => tO (mt (am_ 255) (zX σ 47) ((fun z => mtf (zX σ 47) (zX σ 48) (zX σ 49) (zX σ 50) true (kdf z) (paf z) od pos a) z)) n) v)), (3, .int (nI (v + 1))), (4, .int ((fun z => tO (mt (am_ 255) (zX σ 47) ((fun z => mtf (zX σ 47) (zX σ 48) (zX σ 49) (zX σ 50) true (kdf z) (paf z) od pos a) z)) n) v))]) rfl ?_
          refine Z.goto B dX12_head_65 (tgt := 20) rfl ?_
          refine Z.drop 4 (L' := [(0, .ref 45), (1, .int (gI (fun z => tO (mt (am_ 255) (zX σ 47) ((fun z => mtf (zX σ 47) (zX σ 48) (zX σ 49) (zX σ 50) true (kdf z) (paf z) od pos a) z)) n) v)), (2, .int (gm (fun z => tO (mt (am_ 255) (zX σ 47) ((fun z => mtf (zX σ 47) (zX σ 48) (zX σ 49) (zX σ 50) true (kdf z) (paf z) od pos a) z)) n) v)), (3, .int (nI (v + 1)))]) rfl ?_
          have e := ih (v + 1) (by omega) (by omega)
          rw [← fl_s] at e
          first | (rw [(gI_take (Or.inl h45) (by omega)).1, (gI_take (Or.inl h45) (by omega)).2] at e; exact e) | (rw [(gI_take (Or.inr h51) (by omega)).1, (gI_take (Or.inr h51) (by omega)).2] at e; exact e) | (rw [(gI_keepn h45 h51).1, (gI_keepn h45 h51).2] at e; exact e)
  have h1 := hloop20 0 (Nat.zero_le _)
  have e0 : fl (fun z => mtf (zX σ 47) (zX σ 48) (zX σ 49) (zX σ 50) true (kdf z) (paf z) od pos a) n (zX σ 64) 0 = zX σ 64 := rfl
  rw [e0, zuX_id] at h1
  exact h1

theorem t_keeps_s_47_62 {σ : zSt} (hl : Lay σ) : Dt mX12_keeps [.ref 45, .ref 47, .int (nI 48), .ref 62, .int (nI 0), .int (zb false)] σ (some (.int (nI (0 + 48)))) (zuX σ 62 (va_cpy (zX σ 47) (zX σ 62) 0 0 48)) := by
  refine Dt.of (by decide) (Nat.le_of_ble_eq_true rfl) fun κ B Rt => ?_
  show Z κ 0 0 σ 0 [(0, .ref 45), (1, .ref 47), (2, .int (nI 48)), (3, .ref 62), (4, .int (nI 0)), (5, .int (zb false))] []
  refine Z.iconst B dX12_keeps_0 (v := nI 0) rfl ?_
  refine Z.istore B dX12_keeps_1 (by decide) (L' := [(0, .ref 45), (1, .ref 47), (2, .int (nI 48)), (3, .ref 62), (4, .int (nI 0)), (5, .int (zb false)), (6, .int (nI 0))]) rfl ?_
  have hloop3 : ∀ i : Nat, i ≤ 48 → Z κ 0 0 (zuX σ 62 (va_cpy (zX σ 47) (zX σ 62) 0 0 i)) 3 [(0, .ref 45), (1, .ref 47), (2, .int (nI 48)), (3, .ref 62), (4, .int (nI 0)), (5, .int (zb false)), (6, .int (nI i))] [] := by
    refine z_loop (fun i => 48 - i) (fun i ih hi => ?_)
    refine Z.iload B dX12_keeps_3 (x := nI i) rfl ?_
    refine Z.iload_n B dX12_keeps_5 (x := nI 48) rfl ?_
    refine Z.icmp_geN B dX12_keeps_6 (tgt := 45) rfl (by omega) (by omega) (fun h6 => ?_) (fun h6 => ?_)
    · skip
      obtain rfl : 48 = i := by omega
      refine Z.iload B dX12_keeps_45 (x := nI 0) rfl ?_
      refine Z.iload_n B dX12_keeps_47 (x := nI 48) rfl ?_
      refine Z.iaddN B dX12_keeps_48 (a := 0) (b := 48) ?_
      refine Z.iret B Rt dX12_keeps_49 (ty := .int) rfl rfl (by decide) (by decide) ?_
      exact ⟨rfl, rfl⟩
    · skip
      refine Z.iload B dX12_keeps_9 (x := zb false) rfl ?_
      refine Z.if_eqB B dX12_keeps_11 (tgt := 28) rfl (fun h11 => ?_) (fun h11 => by cases h11)
      refine Z.aload_n B dX12_keeps_28 (v := .ref 62) rfl rfl ?_
      refine Z.iload B dX12_keeps_29 (x := nI 0) rfl ?_
      refine Z.iload B dX12_keeps_31 (x := nI i) rfl ?_
      refine Z.iaddN B dX12_keeps_33 (a := 0) (b := i) ?_
      refine Z.aload_n B dX12_keeps_34 (v := .ref 47) rfl rfl ?_
      refine Z.iload B dX12_keeps_35 (x := nI i) rfl ?_
      refine Z.iald (σ := (zuX σ 62 (va_cpy (zX σ 47) (zX σ 62) 0 0 i))) B dX12_keeps_37 (n := 48) (hl.n (k := 47) (by decide)) (hl.k (k := 47) (by decide)) (hl.l (k := 47) (by decide)) (by decide) (j := i) rfl (by omega) (v := (zX σ 47 i)) rfl ?_
      refine Z.iast (σ := (zuX σ 62 (va_cpy (zX σ 47) (zX σ 62) 0 0 i))) B dX12_keeps_38 (n := 90) (hl.n (k := 62) (by decide)) (hl.k (k := 62) (by decide)) (hl.l (k := 62) (by decide)) (by decide) (j := 0 + i) rfl (by omega) (τ := (zuX σ 62 (va_cpy (zX σ 47) (zX σ 62) 0 0 (i + 1)))) (by rw [zX_self, zuX_uX, cpy_s (by rw [Nat.zero_add])]) ?_
      refine Z.iincN B dX12_keeps_39 (by decide) (a := i) rfl (L' := [(0, .ref 45), (1, .ref 47), (2, .int (nI 48)), (3, .ref 62), (4, .int (nI 0)), (5, .int (zb false)), (6, .int (nI (i + 1)))]) rfl ?_
      refine Z.goto B dX12_keeps_42 (tgt := 3) rfl ?_
      exact ih (i + 1) (by omega) (by omega)
  have h0 := hloop3 0 (Nat.zero_le _)
  rw [cpy_0, zuX_id] at h0
  exact h0

theorem t_keeps_b_47_62 {σ : zSt} (hl : Lay σ) : Dt mX12_keeps [.ref 45, .ref 47, .int (nI 48), .ref 62, .int (nI 0), .int (zb true)] σ (some (.int (nI (0 + 48)))) (zuX σ 47 (va_cpy (zX σ 62) (zX σ 47) 0 0 48)) := by
  refine Dt.of (by decide) (Nat.le_of_ble_eq_true rfl) fun κ B Rt => ?_
  show Z κ 0 0 σ 0 [(0, .ref 45), (1, .ref 47), (2, .int (nI 48)), (3, .ref 62), (4, .int (nI 0)), (5, .int (zb true))] []
  refine Z.iconst B dX12_keeps_0 (v := nI 0) rfl ?_
  refine Z.istore B dX12_keeps_1 (by decide) (L' := [(0, .ref 45), (1, .ref 47), (2, .int (nI 48)), (3, .ref 62), (4, .int (nI 0)), (5, .int (zb true)), (6, .int (nI 0))]) rfl ?_
  have hloop3 : ∀ i : Nat, i ≤ 48 → Z κ 0 0 (zuX σ 47 (va_cpy (zX σ 62) (zX σ 47) 0 0 i)) 3 [(0, .ref 45), (1, .ref 47), (2, .int (nI 48)), (3, .ref 62), (4, .int (nI 0)), (5, .int (zb true)), (6, .int (nI i))] [] := by
    refine z_loop (fun i => 48 - i) (fun i ih hi => ?_)
    refine Z.iload B dX12_keeps_3 (x := nI i) rfl ?_
    refine Z.iload_n B dX12_keeps_5 (x := nI 48) rfl ?_
    refine Z.icmp_geN B dX12_keeps_6 (tgt := 45) rfl (by omega) (by omega) (fun h6 => ?_) (fun h6 => ?_)
    · skip
      obtain rfl : 48 = i := by omega
      refine Z.iload B dX12_keeps_45 (x := nI 0) rfl ?_
      refine Z.iload_n B dX12_keeps_47 (x := nI 48) rfl ?_
      refine Z.iaddN B dX12_keeps_48 (a := 0) (b := 48) ?_
      refine Z.iret B Rt dX12_keeps_49 (ty := .int) rfl rfl (by decide) (by decide) ?_
      exact ⟨rfl, rfl⟩
    · skip
      refine Z.iload B dX12_keeps_9 (x := zb true) rfl ?_
      refine Z.if_eqB B dX12_keeps_11 (tgt := 28) rfl (fun h11 => by cases h11) (fun h11 => ?_)
      refine Z.aload_n B dX12_keeps_14 (v := .ref 47) rfl rfl ?_
      refine Z.iload B dX12_keeps_15 (x := nI i) rfl ?_
      refine Z.aload_n B dX12_keeps_17 (v := .ref 62) rfl rfl ?_
      refine Z.iload B dX12_keeps_18 (x := nI 0) rfl ?_
      refine Z.iload B dX12_keeps_20 (x := nI i) rfl ?_
      refine Z.iaddN B dX12_keeps_22 (a := 0) (b := i) ?_
      refine Z.iald (σ := (zuX σ 47 (va_cpy (zX σ 62) (zX σ 47) 0 0 i))) B dX12_keeps_23 (n := 90) (hl.n (k := 62) (by decide)) (hl.k (k := 62) (by decide)) (hl.l (k := 62) (by decide)) (by decide) (j := 0 + i) rfl (by omega) (v := (zX σ 62 (0 + i))) rfl ?_
      refine Z.iast (σ := (zuX σ 47 (va_cpy (zX σ 62) (zX σ 47) 0 0 i))) B dX12_keeps_24 (n := 48) (hl.n (k := 47) (by decide)) (hl.k (k := 47) (by decide)) (hl.l (k := 47) (by decide)) (by decide) (j := 0 + i) (by rw [Nat.zero_add]) (by omega) (τ := (zuX σ 47 (va_cpy (zX σ 62) (zX σ 47) 0 0 (i + 1)))) (by rw [zX_self, zuX_uX, cpy_s rfl]) ?_
      refine Z.goto B dX12_keeps_25 (tgt := 39) rfl ?_
      refine Z.iincN B dX12_keeps_39 (by decide) (a := i) rfl (L' := [(0, .ref 45), (1, .ref 47), (2, .int (nI 48)), (3, .ref 62), (4, .int (nI 0)), (5, .int (zb true)), (6, .int (nI (i + 1)))]) rfl ?_
      refine Z.goto B dX12_keeps_42 (tgt := 3) rfl ?_
      exact ih (i + 1) (by omega) (by omega)
  have h0 := hloop3 0 (Nat.zero_le _)
  rw [cpy_0, zuX_id] at h0
  exact h0

theorem t_keeps_s_48_62 {σ : zSt} (hl : Lay σ) : Dt mX12_keeps [.ref 45, .ref 48, .int (nI 4), .ref 62, .int (nI 48), .int (zb false)] σ (some (.int (nI (48 + 4)))) (zuX σ 62 (va_cpy (zX σ 48) (zX σ 62) 0 48 4)) := by
  refine Dt.of (by decide) (Nat.le_of_ble_eq_true rfl) fun κ B Rt => ?_
  show Z κ 0 0 σ 0 [(0, .ref 45), (1, .ref 48), (2, .int (nI 4)), (3, .ref 62), (4, .int (nI 48)), (5, .int (zb false))] []
  refine Z.iconst B dX12_keeps_0 (v := nI 0) rfl ?_
  refine Z.istore B dX12_keeps_1 (by decide) (L' := [(0, .ref 45), (1, .ref 48), (2, .int (nI 4)), (3, .ref 62), (4, .int (nI 48)), (5, .int (zb false)), (6, .int (nI 0))]) rfl ?_
  have hloop3 : ∀ i : Nat, i ≤ 4 → Z κ 0 0 (zuX σ 62 (va_cpy (zX σ 48) (zX σ 62) 0 48 i)) 3 [(0, .ref 45), (1, .ref 48), (2, .int (nI 4)), (3, .ref 62), (4, .int (nI 48)), (5, .int (zb false)), (6, .int (nI i))] [] := by
    refine z_loop (fun i => 4 - i) (fun i ih hi => ?_)
    refine Z.iload B dX12_keeps_3 (x := nI i) rfl ?_
    refine Z.iload_n B dX12_keeps_5 (x := nI 4) rfl ?_
    refine Z.icmp_geN B dX12_keeps_6 (tgt := 45) rfl (by omega) (by omega) (fun h6 => ?_) (fun h6 => ?_)
    · skip
      obtain rfl : 4 = i := by omega
      refine Z.iload B dX12_keeps_45 (x := nI 48) rfl ?_
      refine Z.iload_n B dX12_keeps_47 (x := nI 4) rfl ?_
      refine Z.iaddN B dX12_keeps_48 (a := 48) (b := 4) ?_
      refine Z.iret B Rt dX12_keeps_49 (ty := .int) rfl rfl (by decide) (by decide) ?_
      exact ⟨rfl, rfl⟩
    · skip
      refine Z.iload B dX12_keeps_9 (x := zb false) rfl ?_
      refine Z.if_eqB B dX12_keeps_11 (tgt := 28) rfl (fun h11 => ?_) (fun h11 => by cases h11)
      refine Z.aload_n B dX12_keeps_28 (v := .ref 62) rfl rfl ?_
      refine Z.iload B dX12_keeps_29 (x := nI 48) rfl ?_
      refine Z.iload B dX12_keeps_31 (x := nI i) rfl ?_
      refine Z.iaddN B dX12_keeps_33 (a := 48) (b := i) ?_
      refine Z.aload_n B dX12_keeps_34 (v := .ref 48) rfl rfl ?_
      refine Z.iload B dX12_keeps_35 (x := nI i) rfl ?_
      refine Z.iald (σ := (zuX σ 62 (va_cpy (zX σ 48) (zX σ 62) 0 48 i))) B dX12_keeps_37 (n := 4) (hl.n (k := 48) (by decide)) (hl.k (k := 48) (by decide)) (hl.l (k := 48) (by decide)) (by decide) (j := i) rfl (by omega) (v := (zX σ 48 i)) rfl ?_
      refine Z.iast (σ := (zuX σ 62 (va_cpy (zX σ 48) (zX σ 62) 0 48 i))) B dX12_keeps_38 (n := 90) (hl.n (k := 62) (by decide)) (hl.k (k := 62) (by decide)) (hl.l (k := 62) (by decide)) (by decide) (j := 48 + i) rfl (by omega) (τ := (zuX σ 62 (va_cpy (zX σ 48) (zX σ 62) 0 48 (i + 1)))) (by rw [zX_self, zuX_uX, cpy_s (by rw [Nat.zero_add])]) ?_
      refine Z.iincN B dX12_keeps_39 (by decide) (a := i) rfl (L' := [(0, .ref 45), (1, .ref 48), (2, .int (nI 4)), (3, .ref 62), (4, .int (nI 48)), (5, .int (zb false)), (6, .int (nI (i + 1)))]) rfl ?_
      refine Z.goto B dX12_keeps_42 (tgt := 3) rfl ?_
      exact ih (i + 1) (by omega) (by omega)
  have h0 := hloop3 0 (Nat.zero_le _)
  rw [cpy_0, zuX_id] at h0
  exact h0

theorem t_keeps_b_48_62 {σ : zSt} (hl : Lay σ) : Dt mX12_keeps [.ref 45, .ref 48, .int (nI 4), .ref 62, .int (nI 48), .int (zb true)] σ (some (.int (nI (48 + 4)))) (zuX σ 48 (va_cpy (zX σ 62) (zX σ 48) 48 0 4)) := by
  refine Dt.of (by decide) (Nat.le_of_ble_eq_true rfl) fun κ B Rt => ?_
  show Z κ 0 0 σ 0 [(0, .ref 45), (1, .ref 48), (2, .int (nI 4)), (3, .ref 62), (4, .int (nI 48)), (5, .int (zb true))] []
  refine Z.iconst B dX12_keeps_0 (v := nI 0) rfl ?_
  refine Z.istore B dX12_keeps_1 (by decide) (L' := [(0, .ref 45), (1, .ref 48), (2, .int (nI 4)), (3, .ref 62), (4, .int (nI 48)), (5, .int (zb true)), (6, .int (nI 0))]) rfl ?_
  have hloop3 : ∀ i : Nat, i ≤ 4 → Z κ 0 0 (zuX σ 48 (va_cpy (zX σ 62) (zX σ 48) 48 0 i)) 3 [(0, .ref 45), (1, .ref 48), (2, .int (nI 4)), (3, .ref 62), (4, .int (nI 48)), (5, .int (zb true)), (6, .int (nI i))] [] := by
    refine z_loop (fun i => 4 - i) (fun i ih hi => ?_)
    refine Z.iload B dX12_keeps_3 (x := nI i) rfl ?_
    refine Z.iload_n B dX12_keeps_5 (x := nI 4) rfl ?_
    refine Z.icmp_geN B dX12_keeps_6 (tgt := 45) rfl (by omega) (by omega) (fun h6 => ?_) (fun h6 => ?_)
    · skip
      obtain rfl : 4 = i := by omega
      refine Z.iload B dX12_keeps_45 (x := nI 48) rfl ?_
      refine Z.iload_n B dX12_keeps_47 (x := nI 4) rfl ?_
      refine Z.iaddN B dX12_keeps_48 (a := 48) (b := 4) ?_
      refine Z.iret B Rt dX12_keeps_49 (ty := .int) rfl rfl (by decide) (by decide) ?_
      exact ⟨rfl, rfl⟩
    · skip
      refine Z.iload B dX12_keeps_9 (x := zb true) rfl ?_
      refine Z.if_eqB B dX12_keeps_11 (tgt := 28) rfl (fun h11 => by cases h11) (fun h11 => ?_)
      refine Z.aload_n B dX12_keeps_14 (v := .ref 48) rfl rfl ?_
      refine Z.iload B dX12_keeps_15 (x := nI i) rfl ?_
      refine Z.aload_n B dX12_keeps_17 (v := .ref 62) rfl rfl ?_
      refine Z.iload B dX12_keeps_18 (x := nI 48) rfl ?_
      refine Z.iload B dX12_keeps_20 (x := nI i) rfl ?_
      refine Z.iaddN B dX12_keeps_22 (a := 48) (b := i) ?_
      refine Z.iald (σ := (zuX σ 48 (va_cpy (zX σ 62) (zX σ 48) 48 0 i))) B dX12_keeps_23 (n := 90) (hl.n (k := 62) (by decide)) (hl.k (k := 62) (by decide)) (hl.l (k := 62) (by decide)) (by decide) (j := 48 + i) rfl (by omega) (v := (zX σ 62 (48 + i))) rfl ?_
      refine Z.iast (σ := (zuX σ 48 (va_cpy (zX σ 62) (zX σ 48) 48 0 i))) B dX12_keeps_24 (n := 4) (hl.n (k := 48) (by decide)) (hl.k (k := 48) (by decide)) (hl.l (k := 48) (by decide)) (by decide) (j := 0 + i) (by rw [Nat.zero_add]) (by omega) (τ := (zuX σ 48 (va_cpy (zX σ 62) (zX σ 48) 48 0 (i + 1)))) (by rw [zX_self, zuX_uX, cpy_s rfl]) ?_
      refine Z.goto B dX12_keeps_25 (tgt := 39) rfl ?_
      refine Z.iincN B dX12_keeps_39 (by decide) (a := i) rfl (L' := [(0, .ref 45), (1, .ref 48), (2, .int (nI 4)), (3, .ref 62), (4, .int (nI 48)), (5, .int (zb true)), (6, .int (nI (i + 1)))]) rfl ?_
      refine Z.goto B dX12_keeps_42 (tgt := 3) rfl ?_
      exact ih (i + 1) (by omega) (by omega)
  have h0 := hloop3 0 (Nat.zero_le _)
  rw [cpy_0, zuX_id] at h0
  exact h0

theorem t_keeps_s_49_62 {σ : zSt} (hl : Lay σ) : Dt mX12_keeps [.ref 45, .ref 49, .int (nI 4), .ref 62, .int (nI 52), .int (zb false)] σ (some (.int (nI (52 + 4)))) (zuX σ 62 (va_cpy (zX σ 49) (zX σ 62) 0 52 4)) := by
  refine Dt.of (by decide) (Nat.le_of_ble_eq_true rfl) fun κ B Rt => ?_
  show Z κ 0 0 σ 0 [(0, .ref 45), (1, .ref 49), (2, .int (nI 4)), (3, .ref 62), (4, .int (nI 52)), (5, .int (zb false))] []
  refine Z.iconst B dX12_keeps_0 (v := nI 0) rfl ?_
  refine Z.istore B dX12_keeps_1 (by decide) (L' := [(0, .ref 45), (1, .ref 49), (2, .int (nI 4)), (3, .ref 62), (4, .int (nI 52)), (5, .int (zb false)), (6, .int (nI 0))]) rfl ?_
  have hloop3 : ∀ i : Nat, i ≤ 4 → Z κ 0 0 (zuX σ 62 (va_cpy (zX σ 49) (zX σ 62) 0 52 i)) 3 [(0, .ref 45), (1, .ref 49), (2, .int (nI 4)), (3, .ref 62), (4, .int (nI 52)), (5, .int (zb false)), (6, .int (nI i))] [] := by
    refine z_loop (fun i => 4 - i) (fun i ih hi => ?_)
    refine Z.iload B dX12_keeps_3 (x := nI i) rfl ?_
    refine Z.iload_n B dX12_keeps_5 (x := nI 4) rfl ?_
    refine Z.icmp_geN B dX12_keeps_6 (tgt := 45) rfl (by omega) (by omega) (fun h6 => ?_) (fun h6 => ?_)
    · skip
      obtain rfl : 4 = i := by omega
      refine Z.iload B dX12_keeps_45 (x := nI 52) rfl ?_
      refine Z.iload_n B dX12_keeps_47 (x := nI 4) rfl ?_
      refine Z.iaddN B dX12_keeps_48 (a := 52) (b := 4) ?_
      refine Z.iret B Rt dX12_keeps_49 (ty := .int) rfl rfl (by decide) (by decide) ?_
      exact ⟨rfl, rfl⟩
    · skip
      refine Z.iload B dX12_keeps_9 (x := zb false) rfl ?_
      refine Z.if_eqB B dX12_keeps_11 (tgt := 28) rfl (fun h11 => ?_) (fun h11 => by cases h11)
      refine Z.aload_n B dX12_keeps_28 (v := .ref 62) rfl rfl ?_
      refine Z.iload B dX12_keeps_29 (x := nI 52) rfl ?_
      refine Z.iload B dX12_keeps_31 (x := nI i) rfl ?_
      refine Z.iaddN B dX12_keeps_33 (a := 52) (b := i) ?_
      refine Z.aload_n B dX12_keeps_34 (v := .ref 49) rfl rfl ?_
      refine Z.iload B dX12_keeps_35 (x := nI i) rfl ?_
      refine Z.iald (σ := (zuX σ 62 (va_cpy (zX σ 49) (zX σ 62) 0 52 i))) B dX12_keeps_37 (n := 4) (hl.n (k := 49) (by decide)) (hl.k (k := 49) (by decide)) (hl.l (k := 49) (by decide)) (by decide) (j := i) rfl (by omega) (v := (zX σ 49 i)) rfl ?_
      refine Z.iast (σ := (zuX σ 62 (va_cpy (zX σ 49) (zX σ 62) 0 52 i))) B dX12_keeps_38 (n := 90) (hl.n (k := 62) (by decide)) (hl.k (k := 62) (by decide)) (hl.l (k := 62) (by decide)) (by decide) (j := 52 + i) rfl (by omega) (τ := (zuX σ 62 (va_cpy (zX σ 49) (zX σ 62) 0 52 (i + 1)))) (by rw [zX_self, zuX_uX, cpy_s (by rw [Nat.zero_add])]) ?_
      refine Z.iincN B dX12_keeps_39 (by decide) (a := i) rfl (L' := [(0, .ref 45), (1, .ref 49), (2, .int (nI 4)), (3, .ref 62), (4, .int (nI 52)), (5, .int (zb false)), (6, .int (nI (i + 1)))]) rfl ?_
      refine Z.goto B dX12_keeps_42 (tgt := 3) rfl ?_
      exact ih (i + 1) (by omega) (by omega)
  have h0 := hloop3 0 (Nat.zero_le _)
  rw [cpy_0, zuX_id] at h0
  exact h0

theorem t_keeps_b_49_62 {σ : zSt} (hl : Lay σ) : Dt mX12_keeps [.ref 45, .ref 49, .int (nI 4), .ref 62, .int (nI 52), .int (zb true)] σ (some (.int (nI (52 + 4)))) (zuX σ 49 (va_cpy (zX σ 62) (zX σ 49) 52 0 4)) := by
  refine Dt.of (by decide) (Nat.le_of_ble_eq_true rfl) fun κ B Rt => ?_
  show Z κ 0 0 σ 0 [(0, .ref 45), (1, .ref 49), (2, .int (nI 4)), (3, .ref 62), (4, .int (nI 52)), (5, .int (zb true))] []
  refine Z.iconst B dX12_keeps_0 (v := nI 0) rfl ?_
  refine Z.istore B dX12_keeps_1 (by decide) (L' := [(0, .ref 45), (1, .ref 49), (2, .int (nI 4)), (3, .ref 62), (4, .int (nI 52)), (5, .int (zb true)), (6, .int (nI 0))]) rfl ?_
  have hloop3 : ∀ i : Nat, i ≤ 4 → Z κ 0 0 (zuX σ 49 (va_cpy (zX σ 62) (zX σ 49) 52 0 i)) 3 [(0, .ref 45), (1, .ref 49), (2, .int (nI 4)), (3, .ref 62), (4, .int (nI 52)), (5, .int (zb true)), (6, .int (nI i))] [] := by
    refine z_loop (fun i => 4 - i) (fun i ih hi => ?_)
    refine Z.iload B dX12_keeps_3 (x := nI i) rfl ?_
    refine Z.iload_n B dX12_keeps_5 (x := nI 4) rfl ?_
    refine Z.icmp_geN B dX12_keeps_6 (tgt := 45) rfl (by omega) (by omega) (fun h6 => ?_) (fun h6 => ?_)
    · skip
      obtain rfl : 4 = i := by omega
      refine Z.iload B dX12_keeps_45 (x := nI 52) rfl ?_
      refine Z.iload_n B dX12_keeps_47 (x := nI 4) rfl ?_
      refine Z.iaddN B dX12_keeps_48 (a := 52) (b := 4) ?_
      refine Z.iret B Rt dX12_keeps_49 (ty := .int) rfl rfl (by decide) (by decide) ?_
      exact ⟨rfl, rfl⟩
    · skip
      refine Z.iload B dX12_keeps_9 (x := zb true) rfl ?_
      refine Z.if_eqB B dX12_keeps_11 (tgt := 28) rfl (fun h11 => by cases h11) (fun h11 => ?_)
      refine Z.aload_n B dX12_keeps_14 (v := .ref 49) rfl rfl ?_
      refine Z.iload B dX12_keeps_15 (x := nI i) rfl ?_
      refine Z.aload_n B dX12_keeps_17 (v := .ref 62) rfl rfl ?_
      refine Z.iload B dX12_keeps_18 (x := nI 52) rfl ?_
      refine Z.iload B dX12_keeps_20 (x := nI i) rfl ?_
      refine Z.iaddN B dX12_keeps_22 (a := 52) (b := i) ?_
      refine Z.iald (σ := (zuX σ 49 (va_cpy (zX σ 62) (zX σ 49) 52 0 i))) B dX12_keeps_23 (n := 90) (hl.n (k := 62) (by decide)) (hl.k (k := 62) (by decide)) (hl.l (k := 62) (by decide)) (by decide) (j := 52 + i) rfl (by omega) (v := (zX σ 62 (52 + i))) rfl ?_
      refine Z.iast (σ := (zuX σ 49 (va_cpy (zX σ 62) (zX σ 49) 52 0 i))) B dX12_keeps_24 (n := 4) (hl.n (k := 49) (by decide)) (hl.k (k := 49) (by decide)) (hl.l (k := 49) (by decide)) (by decide) (j := 0 + i) (by rw [Nat.zero_add]) (by omega) (τ := (zuX σ 49 (va_cpy (zX σ 62) (zX σ 49) 52 0 (i + 1)))) (by rw [zX_self, zuX_uX, cpy_s rfl]) ?_
      refine Z.goto B dX12_keeps_25 (tgt := 39) rfl ?_
      refine Z.iincN B dX12_keeps_39 (by decide) (a := i) rfl (L' := [(0, .ref 45), (1, .ref 49), (2, .int (nI 4)), (3, .ref 62), (4, .int (nI 52)), (5, .int (zb true)), (6, .int (nI (i + 1)))]) rfl ?_
      refine Z.goto B dX12_keeps_42 (tgt := 3) rfl ?_
      exact ih (i + 1) (by omega) (by omega)
  have h0 := hloop3 0 (Nat.zero_le _)
  rw [cpy_0, zuX_id] at h0
  exact h0

theorem t_keeps_s_50_62 {σ : zSt} (hl : Lay σ) : Dt mX12_keeps [.ref 45, .ref 50, .int (nI 4), .ref 62, .int (nI 56), .int (zb false)] σ (some (.int (nI (56 + 4)))) (zuX σ 62 (va_cpy (zX σ 50) (zX σ 62) 0 56 4)) := by
  refine Dt.of (by decide) (Nat.le_of_ble_eq_true rfl) fun κ B Rt => ?_
  show Z κ 0 0 σ 0 [(0, .ref 45), (1, .ref 50), (2, .int (nI 4)), (3, .ref 62), (4, .int (nI 56)), (5, .int (zb false))] []
  refine Z.iconst B dX12_keeps_0 (v := nI 0) rfl ?_
  refine Z.istore B dX12_keeps_1 (by decide) (L' := [(0, .ref 45), (1, .ref 50), (2, .int (nI 4)), (3, .ref 62), (4, .int (nI 56)), (5, .int (zb false)), (6, .int (nI 0))]) rfl ?_
  have hloop3 : ∀ i : Nat, i ≤ 4 → Z κ 0 0 (zuX σ 62 (va_cpy (zX σ 50) (zX σ 62) 0 56 i)) 3 [(0, .ref 45), (1, .ref 50), (2, .int (nI 4)), (3, .ref 62), (4, .int (nI 56)), (5, .int (zb false)), (6, .int (nI i))] [] := by
    refine z_loop (fun i => 4 - i) (fun i ih hi => ?_)
    refine Z.iload B dX12_keeps_3 (x := nI i) rfl ?_
    refine Z.iload_n B dX12_keeps_5 (x := nI 4) rfl ?_
    refine Z.icmp_geN B dX12_keeps_6 (tgt := 45) rfl (by omega) (by omega) (fun h6 => ?_) (fun h6 => ?_)
    · skip
      obtain rfl : 4 = i := by omega
      refine Z.iload B dX12_keeps_45 (x := nI 56) rfl ?_
      refine Z.iload_n B dX12_keeps_47 (x := nI 4) rfl ?_
      refine Z.iaddN B dX12_keeps_48 (a := 56) (b := 4) ?_
      refine Z.iret B Rt dX12_keeps_49 (ty := .int) rfl rfl (by decide) (by decide) ?_
      exact ⟨rfl, rfl⟩
    · skip
      refine Z.iload B dX12_keeps_9 (x := zb false) rfl ?_
      refine Z.if_eqB B dX12_keeps_11 (tgt := 28) rfl (fun h11 => ?_) (fun h11 => by cases h11)
      refine Z.aload_n B dX12_keeps_28 (v := .ref 62) rfl rfl ?_
      refine Z.iload B dX12_keeps_29 (x := nI 56) rfl ?_
      refine Z.iload B dX12_keeps_31 (x := nI i) rfl ?_
      refine Z.iaddN B dX12_keeps_33 (a := 56) (b := i) ?_
      refine Z.aload_n B dX12_keeps_34 (v := .ref 50) rfl rfl ?_
      refine Z.iload B dX12_keeps_35 (x := nI i) rfl ?_
      refine Z.iald (σ := (zuX σ 62 (va_cpy (zX σ 50) (zX σ 62) 0 56 i))) B dX12_keeps_37 (n := 4) (hl.n (k := 50) (by decide)) (hl.k (k := 50) (by decide)) (hl.l (k := 50) (by decide)) (by decide) (j := i) rfl (by omega) (v := (zX σ 50 i)) rfl ?_
      refine Z.iast (σ := (zuX σ 62 (va_cpy (zX σ 50) (zX σ 62) 0 56 i))) B dX12_keeps_38 (n := 90) (hl.n (k := 62) (by decide)) (hl.k (k := 62) (by decide)) (hl.l (k := 62) (by decide)) (by decide) (j := 56 + i) rfl (by omega) (τ := (zuX σ 62 (va_cpy (zX σ 50) (zX σ 62) 0 56 (i + 1)))) (by rw [zX_self, zuX_uX, cpy_s (by rw [Nat.zero_add])]) ?_
      refine Z.iincN B dX12_keeps_39 (by decide) (a := i) rfl (L' := [(0, .ref 45), (1, .ref 50), (2, .int (nI 4)), (3, .ref 62), (4, .int (nI 56)), (5, .int (zb false)), (6, .int (nI (i + 1)))]) rfl ?_
      refine Z.goto B dX12_keeps_42 (tgt := 3) rfl ?_
      exact ih (i + 1) (by omega) (by omega)
  have h0 := hloop3 0 (Nat.zero_le _)
  rw [cpy_0, zuX_id] at h0
  exact h0

theorem t_keeps_b_50_62 {σ : zSt} (hl : Lay σ) : Dt mX12_keeps [.ref 45, .ref 50, .int (nI 4), .ref 62, .int (nI 56), .int (zb true)] σ (some (.int (nI (56 + 4)))) (zuX σ 50 (va_cpy (zX σ 62) (zX σ 50) 56 0 4)) := by
  refine Dt.of (by decide) (Nat.le_of_ble_eq_true rfl) fun κ B Rt => ?_
  show Z κ 0 0 σ 0 [(0, .ref 45), (1, .ref 50), (2, .int (nI 4)), (3, .ref 62), (4, .int (nI 56)), (5, .int (zb true))] []
  refine Z.iconst B dX12_keeps_0 (v := nI 0) rfl ?_
  refine Z.istore B dX12_keeps_1 (by decide) (L' := [(0, .ref 45), (1, .ref 50), (2, .int (nI 4)), (3, .ref 62), (4, .int (nI 56)), (5, .int (zb true)), (6, .int (nI 0))]) rfl ?_
  have hloop3 : ∀ i : Nat, i ≤ 4 → Z κ 0 0 (zuX σ 50 (va_cpy (zX σ 62) (zX σ 50) 56 0 i)) 3 [(0, .ref 45), (1, .ref 50), (2, .int (nI 4)), (3, .ref 62), (4, .int (nI 56)), (5, .int (zb true)), (6, .int (nI i))] [] := by
    refine z_loop (fun i => 4 - i) (fun i ih hi => ?_)
    refine Z.iload B dX12_keeps_3 (x := nI i) rfl ?_
    refine Z.iload_n B dX12_keeps_5 (x := nI 4) rfl ?_
    refine Z.icmp_geN B dX12_keeps_6 (tgt := 45) rfl (by omega) (by omega) (fun h6 => ?_) (fun h6 => ?_)
    · skip
      obtain rfl : 4 = i := by omega
      refine Z.iload B dX12_keeps_45 (x := nI 56) rfl ?_
      refine Z.iload_n B dX12_keeps_47 (x := nI 4) rfl ?_
      refine Z.iaddN B dX12_keeps_48 (a := 56) (b := 4) ?_
      refine Z.iret B Rt dX12_keeps_49 (ty := .int) rfl rfl (by decide) (by decide) ?_
      exact ⟨rfl, rfl⟩
    · skip
      refine Z.iload B dX12_keeps_9 (x := zb true) rfl ?_
      refine Z.if_eqB B dX12_keeps_11 (tgt := 28) rfl (fun h11 => by cases h11) (fun h11 => ?_)
      refine Z.aload_n B dX12_keeps_14 (v := .ref 50) rfl rfl ?_
      refine Z.iload B dX12_keeps_15 (x := nI i) rfl ?_
      refine Z.aload_n B dX12_keeps_17 (v := .ref 62) rfl rfl ?_
      refine Z.iload B dX12_keeps_18 (x := nI 56) rfl ?_
      refine Z.iload B dX12_keeps_20 (x := nI i) rfl ?_
      refine Z.iaddN B dX12_keeps_22 (a := 56) (b := i) ?_
      refine Z.iald (σ := (zuX σ 50 (va_cpy (zX σ 62) (zX σ 50) 56 0 i))) B dX12_keeps_23 (n := 90) (hl.n (k := 62) (by decide)) (hl.k (k := 62) (by decide)) (hl.l (k := 62) (by decide)) (by decide) (j := 56 + i) rfl (by omega) (v := (zX σ 62 (56 + i))) rfl ?_
      refine Z.iast (σ := (zuX σ 50 (va_cpy (zX σ 62) (zX σ 50) 56 0 i))) B dX12_keeps_24 (n := 4) (hl.n (k := 50) (by decide)) (hl.k (k := 50) (by decide)) (hl.l (k := 50) (by decide)) (by decide) (j := 0 + i) (by rw [Nat.zero_add]) (by omega) (τ := (zuX σ 50 (va_cpy (zX σ 62) (zX σ 50) 56 0 (i + 1)))) (by rw [zX_self, zuX_uX, cpy_s rfl]) ?_
      refine Z.goto B dX12_keeps_25 (tgt := 39) rfl ?_
      refine Z.iincN B dX12_keeps_39 (by decide) (a := i) rfl (L' := [(0, .ref 45), (1, .ref 50), (2, .int (nI 4)), (3, .ref 62), (4, .int (nI 56)), (5, .int (zb true)), (6, .int (nI (i + 1)))]) rfl ?_
      refine Z.goto B dX12_keeps_42 (tgt := 3) rfl ?_
      exact ih (i + 1) (by omega) (by omega)
  have h0 := hloop3 0 (Nat.zero_le _)
  rw [cpy_0, zuX_id] at h0
  exact h0

theorem t_keeps_s_51_62 {σ : zSt} (hl : Lay σ) : Dt mX12_keeps [.ref 45, .ref 51, .int (nI 4), .ref 62, .int (nI 60), .int (zb false)] σ (some (.int (nI (60 + 4)))) (zuX σ 62 (va_cpy (zX σ 51) (zX σ 62) 0 60 4)) := by
  refine Dt.of (by decide) (Nat.le_of_ble_eq_true rfl) fun κ B Rt => ?_
  show Z κ 0 0 σ 0 [(0, .ref 45), (1, .ref 51), (2, .int (nI 4)), (3, .ref 62), (4, .int (nI 60)), (5, .int (zb false))] []
  refine Z.iconst B dX12_keeps_0 (v := nI 0) rfl ?_
  refine Z.istore B dX12_keeps_1 (by decide) (L' := [(0, .ref 45), (1, .ref 51), (2, .int (nI 4)), (3, .ref 62), (4, .int (nI 60)), (5, .int (zb false)), (6, .int (nI 0))]) rfl ?_
  have hloop3 : ∀ i : Nat, i ≤ 4 → Z κ 0 0 (zuX σ 62 (va_cpy (zX σ 51) (zX σ 62) 0 60 i)) 3 [(0, .ref 45), (1, .ref 51), (2, .int (nI 4)), (3, .ref 62), (4, .int (nI 60)), (5, .int (zb false)), (6, .int (nI i))] [] := by
    refine z_loop (fun i => 4 - i) (fun i ih hi => ?_)
    refine Z.iload B dX12_keeps_3 (x := nI i) rfl ?_
    refine Z.iload_n B dX12_keeps_5 (x := nI 4) rfl ?_
    refine Z.icmp_geN B dX12_keeps_6 (tgt := 45) rfl (by omega) (by omega) (fun h6 => ?_) (fun h6 => ?_)
    · skip
      obtain rfl : 4 = i := by omega
      refine Z.iload B dX12_keeps_45 (x := nI 60) rfl ?_
      refine Z.iload_n B dX12_keeps_47 (x := nI 4) rfl ?_
      refine Z.iaddN B dX12_keeps_48 (a := 60) (b := 4) ?_
      refine Z.iret B Rt dX12_keeps_49 (ty := .int) rfl rfl (by decide) (by decide) ?_
      exact ⟨rfl, rfl⟩
    · skip
      refine Z.iload B dX12_keeps_9 (x := zb false) rfl ?_
      refine Z.if_eqB B dX12_keeps_11 (tgt := 28) rfl (fun h11 => ?_) (fun h11 => by cases h11)
      refine Z.aload_n B dX12_keeps_28 (v := .ref 62) rfl rfl ?_
      refine Z.iload B dX12_keeps_29 (x := nI 60) rfl ?_
      refine Z.iload B dX12_keeps_31 (x := nI i) rfl ?_
      refine Z.iaddN B dX12_keeps_33 (a := 60) (b := i) ?_
      refine Z.aload_n B dX12_keeps_34 (v := .ref 51) rfl rfl ?_
      refine Z.iload B dX12_keeps_35 (x := nI i) rfl ?_
      refine Z.iald (σ := (zuX σ 62 (va_cpy (zX σ 51) (zX σ 62) 0 60 i))) B dX12_keeps_37 (n := 4) (hl.n (k := 51) (by decide)) (hl.k (k := 51) (by decide)) (hl.l (k := 51) (by decide)) (by decide) (j := i) rfl (by omega) (v := (zX σ 51 i)) rfl ?_
      refine Z.iast (σ := (zuX σ 62 (va_cpy (zX σ 51) (zX σ 62) 0 60 i))) B dX12_keeps_38 (n := 90) (hl.n (k := 62) (by decide)) (hl.k (k := 62) (by decide)) (hl.l (k := 62) (by decide)) (by decide) (j := 60 + i) rfl (by omega) (τ := (zuX σ 62 (va_cpy (zX σ 51) (zX σ 62) 0 60 (i + 1)))) (by rw [zX_self, zuX_uX, cpy_s (by rw [Nat.zero_add])]) ?_
      refine Z.iincN B dX12_keeps_39 (by decide) (a := i) rfl (L' := [(0, .ref 45), (1, .ref 51), (2, .int (nI 4)), (3, .ref 62), (4, .int (nI 60)), (5, .int (zb false)), (6, .int (nI (i + 1)))]) rfl ?_
      refine Z.goto B dX12_keeps_42 (tgt := 3) rfl ?_
      exact ih (i + 1) (by omega) (by omega)
  have h0 := hloop3 0 (Nat.zero_le _)
  rw [cpy_0, zuX_id] at h0
  exact h0

theorem t_keeps_b_51_62 {σ : zSt} (hl : Lay σ) : Dt mX12_keeps [.ref 45, .ref 51, .int (nI 4), .ref 62, .int (nI 60), .int (zb true)] σ (some (.int (nI (60 + 4)))) (zuX σ 51 (va_cpy (zX σ 62) (zX σ 51) 60 0 4)) := by
  refine Dt.of (by decide) (Nat.le_of_ble_eq_true rfl) fun κ B Rt => ?_
  show Z κ 0 0 σ 0 [(0, .ref 45), (1, .ref 51), (2, .int (nI 4)), (3, .ref 62), (4, .int (nI 60)), (5, .int (zb true))] []
  refine Z.iconst B dX12_keeps_0 (v := nI 0) rfl ?_
  refine Z.istore B dX12_keeps_1 (by decide) (L' := [(0, .ref 45), (1, .ref 51), (2, .int (nI 4)), (3, .ref 62), (4, .int (nI 60)), (5, .int (zb true)), (6, .int (nI 0))]) rfl ?_
  have hloop3 : ∀ i : Nat, i ≤ 4 → Z κ 0 0 (zuX σ 51 (va_cpy (zX σ 62) (zX σ 51) 60 0 i)) 3 [(0, .ref 45), (1, .ref 51), (2, .int (nI 4)), (3, .ref 62), (4, .int (nI 60)), (5, .int (zb true)), (6, .int (nI i))] [] := by
    refine z_loop (fun i => 4 - i) (fun i ih hi => ?_)
    refine Z.iload B dX12_keeps_3 (x := nI i) rfl ?_
    refine Z.iload_n B dX12_keeps_5 (x := nI 4) rfl ?_
    refine Z.icmp_geN B dX12_keeps_6 (tgt := 45) rfl (by omega) (by omega) (fun h6 => ?_) (fun h6 => ?_)
    · skip
      obtain rfl : 4 = i := by omega
      refine Z.iload B dX12_keeps_45 (x := nI 60) rfl ?_
      refine Z.iload_n B dX12_keeps_47 (x := nI 4) rfl ?_
      refine Z.iaddN B dX12_keeps_48 (a := 60) (b := 4) ?_
      refine Z.iret B Rt dX12_keeps_49 (ty := .int) rfl rfl (by decide) (by decide) ?_
      exact ⟨rfl, rfl⟩
    · skip
      refine Z.iload B dX12_keeps_9 (x := zb true) rfl ?_
      refine Z.if_eqB B dX12_keeps_11 (tgt := 28) rfl (fun h11 => by cases h11) (fun h11 => ?_)
      refine Z.aload_n B dX12_keeps_14 (v := .ref 51) rfl rfl ?_
      refine Z.iload B dX12_keeps_15 (x := nI i) rfl ?_
      refine Z.aload_n B dX12_keeps_17 (v := .ref 62) rfl rfl ?_
      refine Z.iload B dX12_keeps_18 (x := nI 60) rfl ?_
      refine Z.iload B dX12_keeps_20 (x := nI i) rfl ?_
      refine Z.iaddN B dX12_keeps_22 (a := 60) (b := i) ?_
      refine Z.iald (σ := (zuX σ 51 (va_cpy (zX σ 62) (zX σ 51) 60 0 i))) B dX12_keeps_23 (n := 90) (hl.n (k := 62) (by decide)) (hl.k (k := 62) (by decide)) (hl.l (k := 62) (by decide)) (by decide) (j := 60 + i) rfl (by omega) (v := (zX σ 62 (60 + i))) rfl ?_
      refine Z.iast (σ := (zuX σ 51 (va_cpy (zX σ 62) (zX σ 51) 60 0 i))) B dX12_keeps_24 (n := 4) (hl.n (k := 51) (by decide)) (hl.k (k := 51) (by decide)) (hl.l (k := 51) (by decide)) (by decide) (j := 0 + i) (by rw [Nat.zero_add]) (by omega) (τ := (zuX σ 51 (va_cpy (zX σ 62) (zX σ 51) 60 0 (i + 1)))) (by rw [zX_self, zuX_uX, cpy_s rfl]) ?_
      refine Z.goto B dX12_keeps_25 (tgt := 39) rfl ?_
      refine Z.iincN B dX12_keeps_39 (by decide) (a := i) rfl (L' := [(0, .ref 45), (1, .ref 51), (2, .int (nI 4)), (3, .ref 62), (4, .int (nI 60)), (5, .int (zb true)), (6, .int (nI (i + 1)))]) rfl ?_
      refine Z.goto B dX12_keeps_42 (tgt := 3) rfl ?_
      exact ih (i + 1) (by omega) (by omega)
  have h0 := hloop3 0 (Nat.zero_le _)
  rw [cpy_0, zuX_id] at h0
  exact h0

theorem t_keeps_s_52_62 {σ : zSt} (hl : Lay σ) : Dt mX12_keeps [.ref 45, .ref 52, .int (nI 8), .ref 62, .int (nI 64), .int (zb false)] σ (some (.int (nI (64 + 8)))) (zuX σ 62 (va_cpy (zX σ 52) (zX σ 62) 0 64 8)) := by
  refine Dt.of (by decide) (Nat.le_of_ble_eq_true rfl) fun κ B Rt => ?_
  show Z κ 0 0 σ 0 [(0, .ref 45), (1, .ref 52), (2, .int (nI 8)), (3, .ref 62), (4, .int (nI 64)), (5, .int (zb false))] []
  refine Z.iconst B dX12_keeps_0 (v := nI 0) rfl ?_
  refine Z.istore B dX12_keeps_1 (by decide) (L' := [(0, .ref 45), (1, .ref 52), (2, .int (nI 8)), (3, .ref 62), (4, .int (nI 64)), (5, .int (zb false)), (6, .int (nI 0))]) rfl ?_
  have hloop3 : ∀ i : Nat, i ≤ 8 → Z κ 0 0 (zuX σ 62 (va_cpy (zX σ 52) (zX σ 62) 0 64 i)) 3 [(0, .ref 45), (1, .ref 52), (2, .int (nI 8)), (3, .ref 62), (4, .int (nI 64)), (5, .int (zb false)), (6, .int (nI i))] [] := by
    refine z_loop (fun i => 8 - i) (fun i ih hi => ?_)
    refine Z.iload B dX12_keeps_3 (x := nI i) rfl ?_
    refine Z.iload_n B dX12_keeps_5 (x := nI 8) rfl ?_
    refine Z.icmp_geN B dX12_keeps_6 (tgt := 45) rfl (by omega) (by omega) (fun h6 => ?_) (fun h6 => ?_)
    · skip
      obtain rfl : 8 = i := by omega
      refine Z.iload B dX12_keeps_45 (x := nI 64) rfl ?_
      refine Z.iload_n B dX12_keeps_47 (x := nI 8) rfl ?_
      refine Z.iaddN B dX12_keeps_48 (a := 64) (b := 8) ?_
      refine Z.iret B Rt dX12_keeps_49 (ty := .int) rfl rfl (by decide) (by decide) ?_
      exact ⟨rfl, rfl⟩
    · skip
      refine Z.iload B dX12_keeps_9 (x := zb false) rfl ?_
      refine Z.if_eqB B dX12_keeps_11 (tgt := 28) rfl (fun h11 => ?_) (fun h11 => by cases h11)
      refine Z.aload_n B dX12_keeps_28 (v := .ref 62) rfl rfl ?_
      refine Z.iload B dX12_keeps_29 (x := nI 64) rfl ?_
      refine Z.iload B dX12_keeps_31 (x := nI i) rfl ?_
      refine Z.iaddN B dX12_keeps_33 (a := 64) (b := i) ?_
      refine Z.aload_n B dX12_keeps_34 (v := .ref 52) rfl rfl ?_
      refine Z.iload B dX12_keeps_35 (x := nI i) rfl ?_
      refine Z.iald (σ := (zuX σ 62 (va_cpy (zX σ 52) (zX σ 62) 0 64 i))) B dX12_keeps_37 (n := 8) (hl.n (k := 52) (by decide)) (hl.k (k := 52) (by decide)) (hl.l (k := 52) (by decide)) (by decide) (j := i) rfl (by omega) (v := (zX σ 52 i)) rfl ?_
      refine Z.iast (σ := (zuX σ 62 (va_cpy (zX σ 52) (zX σ 62) 0 64 i))) B dX12_keeps_38 (n := 90) (hl.n (k := 62) (by decide)) (hl.k (k := 62) (by decide)) (hl.l (k := 62) (by decide)) (by decide) (j := 64 + i) rfl (by omega) (τ := (zuX σ 62 (va_cpy (zX σ 52) (zX σ 62) 0 64 (i + 1)))) (by rw [zX_self, zuX_uX, cpy_s (by rw [Nat.zero_add])]) ?_
      refine Z.iincN B dX12_keeps_39 (by decide) (a := i) rfl (L' := [(0, .ref 45), (1, .ref 52), (2, .int (nI 8)), (3, .ref 62), (4, .int (nI 64)), (5, .int (zb false)), (6, .int (nI (i + 1)))]) rfl ?_
      refine Z.goto B dX12_keeps_42 (tgt := 3) rfl ?_
      exact ih (i + 1) (by omega) (by omega)
  have h0 := hloop3 0 (Nat.zero_le _)
  rw [cpy_0, zuX_id] at h0
  exact h0

theorem t_keeps_b_52_62 {σ : zSt} (hl : Lay σ) : Dt mX12_keeps [.ref 45, .ref 52, .int (nI 8), .ref 62, .int (nI 64), .int (zb true)] σ (some (.int (nI (64 + 8)))) (zuX σ 52 (va_cpy (zX σ 62) (zX σ 52) 64 0 8)) := by
  refine Dt.of (by decide) (Nat.le_of_ble_eq_true rfl) fun κ B Rt => ?_
  show Z κ 0 0 σ 0 [(0, .ref 45), (1, .ref 52), (2, .int (nI 8)), (3, .ref 62), (4, .int (nI 64)), (5, .int (zb true))] []
  refine Z.iconst B dX12_keeps_0 (v := nI 0) rfl ?_
  refine Z.istore B dX12_keeps_1 (by decide) (L' := [(0, .ref 45), (1, .ref 52), (2, .int (nI 8)), (3, .ref 62), (4, .int (nI 64)), (5, .int (zb true)), (6, .int (nI 0))]) rfl ?_
  have hloop3 : ∀ i : Nat, i ≤ 8 → Z κ 0 0 (zuX σ 52 (va_cpy (zX σ 62) (zX σ 52) 64 0 i)) 3 [(0, .ref 45), (1, .ref 52), (2, .int (nI 8)), (3, .ref 62), (4, .int (nI 64)), (5, .int (zb true)), (6, .int (nI i))] [] := by
    refine z_loop (fun i => 8 - i) (fun i ih hi => ?_)
    refine Z.iload B dX12_keeps_3 (x := nI i) rfl ?_
    refine Z.iload_n B dX12_keeps_5 (x := nI 8) rfl ?_
    refine Z.icmp_geN B dX12_keeps_6 (tgt := 45) rfl (by omega) (by omega) (fun h6 => ?_) (fun h6 => ?_)
    · skip
      obtain rfl : 8 = i := by omega
      refine Z.iload B dX12_keeps_45 (x := nI 64) rfl ?_
      refine Z.iload_n B dX12_keeps_47 (x := nI 8) rfl ?_
      refine Z.iaddN B dX12_keeps_48 (a := 64) (b := 8) ?_
      refine Z.iret B Rt dX12_keeps_49 (ty := .int) rfl rfl (by decide) (by decide) ?_
      exact ⟨rfl, rfl⟩
    · skip
      refine Z.iload B dX12_keeps_9 (x := zb true) rfl ?_
      refine Z.if_eqB B dX12_keeps_11 (tgt := 28) rfl (fun h11 => by cases h11) (fun h11 => ?_)
      refine Z.aload_n B dX12_keeps_14 (v := .ref 52) rfl rfl ?_
      refine Z.iload B dX12_keeps_15 (x := nI i) rfl ?_
      refine Z.aload_n B dX12_keeps_17 (v := .ref 62) rfl rfl ?_
      refine Z.iload B dX12_keeps_18 (x := nI 64) rfl ?_
      refine Z.iload B dX12_keeps_20 (x := nI i) rfl ?_
      refine Z.iaddN B dX12_keeps_22 (a := 64) (b := i) ?_
      refine Z.iald (σ := (zuX σ 52 (va_cpy (zX σ 62) (zX σ 52) 64 0 i))) B dX12_keeps_23 (n := 90) (hl.n (k := 62) (by decide)) (hl.k (k := 62) (by decide)) (hl.l (k := 62) (by decide)) (by decide) (j := 64 + i) rfl (by omega) (v := (zX σ 62 (64 + i))) rfl ?_
      refine Z.iast (σ := (zuX σ 52 (va_cpy (zX σ 62) (zX σ 52) 64 0 i))) B dX12_keeps_24 (n := 8) (hl.n (k := 52) (by decide)) (hl.k (k := 52) (by decide)) (hl.l (k := 52) (by decide)) (by decide) (j := 0 + i) (by rw [Nat.zero_add]) (by omega) (τ := (zuX σ 52 (va_cpy (zX σ 62) (zX σ 52) 64 0 (i + 1)))) (by rw [zX_self, zuX_uX, cpy_s rfl]) ?_
      refine Z.goto B dX12_keeps_25 (tgt := 39) rfl ?_
      refine Z.iincN B dX12_keeps_39 (by decide) (a := i) rfl (L' := [(0, .ref 45), (1, .ref 52), (2, .int (nI 8)), (3, .ref 62), (4, .int (nI 64)), (5, .int (zb true)), (6, .int (nI (i + 1)))]) rfl ?_
      refine Z.goto B dX12_keeps_42 (tgt := 3) rfl ?_
      exact ih (i + 1) (by omega) (by omega)
  have h0 := hloop3 0 (Nat.zero_le _)
  rw [cpy_0, zuX_id] at h0
  exact h0

theorem t_keeps_s_53_62 {σ : zSt} (hl : Lay σ) : Dt mX12_keeps [.ref 45, .ref 53, .int (nI 8), .ref 62, .int (nI 72), .int (zb false)] σ (some (.int (nI (72 + 8)))) (zuX σ 62 (va_cpy (zX σ 53) (zX σ 62) 0 72 8)) := by
  refine Dt.of (by decide) (Nat.le_of_ble_eq_true rfl) fun κ B Rt => ?_
  show Z κ 0 0 σ 0 [(0, .ref 45), (1, .ref 53), (2, .int (nI 8)), (3, .ref 62), (4, .int (nI 72)), (5, .int (zb false))] []
  refine Z.iconst B dX12_keeps_0 (v := nI 0) rfl ?_
  refine Z.istore B dX12_keeps_1 (by decide) (L' := [(0, .ref 45), (1, .ref 53), (2, .int (nI 8)), (3, .ref 62), (4, .int (nI 72)), (5, .int (zb false)), (6, .int (nI 0))]) rfl ?_
  have hloop3 : ∀ i : Nat, i ≤ 8 → Z κ 0 0 (zuX σ 62 (va_cpy (zX σ 53) (zX σ 62) 0 72 i)) 3 [(0, .ref 45), (1, .ref 53), (2, .int (nI 8)), (3, .ref 62), (4, .int (nI 72)), (5, .int (zb false)), (6, .int (nI i))] [] := by
    refine z_loop (fun i => 8 - i) (fun i ih hi => ?_)
    refine Z.iload B dX12_keeps_3 (x := nI i) rfl ?_
    refine Z.iload_n B dX12_keeps_5 (x := nI 8) rfl ?_
    refine Z.icmp_geN B dX12_keeps_6 (tgt := 45) rfl (by omega) (by omega) (fun h6 => ?_) (fun h6 => ?_)
    · skip
      obtain rfl : 8 = i := by omega
      refine Z.iload B dX12_keeps_45 (x := nI 72) rfl ?_
      refine Z.iload_n B dX12_keeps_47 (x := nI 8) rfl ?_
      refine Z.iaddN B dX12_keeps_48 (a := 72) (b := 8) ?_
      refine Z.iret B Rt dX12_keeps_49 (ty := .int) rfl rfl (by decide) (by decide) ?_
      exact ⟨rfl, rfl⟩
    · skip
      refine Z.iload B dX12_keeps_9 (x := zb false) rfl ?_
      refine Z.if_eqB B dX12_keeps_11 (tgt := 28) rfl (fun h11 => ?_) (fun h11 => by cases h11)
      refine Z.aload_n B dX12_keeps_28 (v := .ref 62) rfl rfl ?_
      refine Z.iload B dX12_keeps_29 (x := nI 72) rfl ?_
      refine Z.iload B dX12_keeps_31 (x := nI i) rfl ?_
      refine Z.iaddN B dX12_keeps_33 (a := 72) (b := i) ?_
      refine Z.aload_n B dX12_keeps_34 (v := .ref 53) rfl rfl ?_
      refine Z.iload B dX12_keeps_35 (x := nI i) rfl ?_
      refine Z.iald (σ := (zuX σ 62 (va_cpy (zX σ 53) (zX σ 62) 0 72 i))) B dX12_keeps_37 (n := 8) (hl.n (k := 53) (by decide)) (hl.k (k := 53) (by decide)) (hl.l (k := 53) (by decide)) (by decide) (j := i) rfl (by omega) (v := (zX σ 53 i)) rfl ?_
      refine Z.iast (σ := (zuX σ 62 (va_cpy (zX σ 53) (zX σ 62) 0 72 i))) B dX12_keeps_38 (n := 90) (hl.n (k := 62) (by decide)) (hl.k (k := 62) (by decide)) (hl.l (k := 62) (by decide)) (by decide) (j := 72 + i) rfl (by omega) (τ := (zuX σ 62 (va_cpy (zX σ 53) (zX σ 62) 0 72 (i + 1)))) (by rw [zX_self, zuX_uX, cpy_s (by rw [Nat.zero_add])]) ?_
      refine Z.iincN B dX12_keeps_39 (by decide) (a := i) rfl (L' := [(0, .ref 45), (1, .ref 53), (2, .int (nI 8)), (3, .ref 62), (4, .int (nI 72)), (5, .int (zb false)), (6, .int (nI (i + 1)))]) rfl ?_
      refine Z.goto B dX12_keeps_42 (tgt := 3) rfl ?_
      exact ih (i + 1) (by omega) (by omega)
  have h0 := hloop3 0 (Nat.zero_le _)
  rw [cpy_0, zuX_id] at h0
  exact h0

theorem t_keeps_b_53_62 {σ : zSt} (hl : Lay σ) : Dt mX12_keeps [.ref 45, .ref 53, .int (nI 8), .ref 62, .int (nI 72), .int (zb true)] σ (some (.int (nI (72 + 8)))) (zuX σ 53 (va_cpy (zX σ 62) (zX σ 53) 72 0 8)) := by
  refine Dt.of (by decide) (Nat.le_of_ble_eq_true rfl) fun κ B Rt => ?_
  show Z κ 0 0 σ 0 [(0, .ref 45), (1, .ref 53), (2, .int (nI 8)), (3, .ref 62), (4, .int (nI 72)), (5, .int (zb true))] []
  refine Z.iconst B dX12_keeps_0 (v := nI 0) rfl ?_
  refine Z.istore B dX12_keeps_1 (by decide) (L' := [(0, .ref 45), (1, .ref 53), (2, .int (nI 8)), (3, .ref 62), (4, .int (nI 72)), (5, .int (zb true)), (6, .int (nI 0))]) rfl ?_
  have hloop3 : ∀ i : Nat, i ≤ 8 → Z κ 0 0 (zuX σ 53 (va_cpy (zX σ 62) (zX σ 53) 72 0 i)) 3 [(0, .ref 45), (1, .ref 53), (2, .int (nI 8)), (3, .ref 62), (4, .int (nI 72)), (5, .int (zb true)), (6, .int (nI i))] [] := by
    refine z_loop (fun i => 8 - i) (fun i ih hi => ?_)
    refine Z.iload B dX12_keeps_3 (x := nI i) rfl ?_
    refine Z.iload_n B dX12_keeps_5 (x := nI 8) rfl ?_
    refine Z.icmp_geN B dX12_keeps_6 (tgt := 45) rfl (by omega) (by omega) (fun h6 => ?_) (fun h6 => ?_)
    · skip
      obtain rfl : 8 = i := by omega
      refine Z.iload B dX12_keeps_45 (x := nI 72) rfl ?_
      refine Z.iload_n B dX12_keeps_47 (x := nI 8) rfl ?_
      refine Z.iaddN B dX12_keeps_48 (a := 72) (b := 8) ?_
      refine Z.iret B Rt dX12_keeps_49 (ty := .int) rfl rfl (by decide) (by decide) ?_
      exact ⟨rfl, rfl⟩
    · skip
      refine Z.iload B dX12_keeps_9 (x := zb true) rfl ?_
      refine Z.if_eqB B dX12_keeps_11 (tgt := 28) rfl (fun h11 => by cases h11) (fun h11 => ?_)
      refine Z.aload_n B dX12_keeps_14 (v := .ref 53) rfl rfl ?_
      refine Z.iload B dX12_keeps_15 (x := nI i) rfl ?_
      refine Z.aload_n B dX12_keeps_17 (v := .ref 62) rfl rfl ?_
      refine Z.iload B dX12_keeps_18 (x := nI 72) rfl ?_
      refine Z.iload B dX12_keeps_20 (x := nI i) rfl ?_
      refine Z.iaddN B dX12_keeps_22 (a := 72) (b := i) ?_
      refine Z.iald (σ := (zuX σ 53 (va_cpy (zX σ 62) (zX σ 53) 72 0 i))) B dX12_keeps_23 (n := 90) (hl.n (k := 62) (by decide)) (hl.k (k := 62) (by decide)) (hl.l (k := 62) (by decide)) (by decide) (j := 72 + i) rfl (by omega) (v := (zX σ 62 (72 + i))) rfl ?_
      refine Z.iast (σ := (zuX σ 53 (va_cpy (zX σ 62) (zX σ 53) 72 0 i))) B dX12_keeps_24 (n := 8) (hl.n (k := 53) (by decide)) (hl.k (k := 53) (by decide)) (hl.l (k := 53) (by decide)) (by decide) (j := 0 + i) (by rw [Nat.zero_add]) (by omega) (τ := (zuX σ 53 (va_cpy (zX σ 62) (zX σ 53) 72 0 (i + 1)))) (by rw [zX_self, zuX_uX, cpy_s rfl]) ?_
      refine Z.goto B dX12_keeps_25 (tgt := 39) rfl ?_
      refine Z.iincN B dX12_keeps_39 (by decide) (a := i) rfl (L' := [(0, .ref 45), (1, .ref 53), (2, .int (nI 8)), (3, .ref 62), (4, .int (nI 72)), (5, .int (zb true)), (6, .int (nI (i + 1)))]) rfl ?_
      refine Z.goto B dX12_keeps_42 (tgt := 3) rfl ?_
      exact ih (i + 1) (by omega) (by omega)
  have h0 := hloop3 0 (Nat.zero_le _)
  rw [cpy_0, zuX_id] at h0
  exact h0

theorem t_M_all_s_62 {σ : zSt} (hl : Lay σ) {n a y : Nat} (H : zMd σ n a y)  : Dt mX12_all [.ref 45, .ref 62, .int (zb false)] σ (none) (zuX σ 62 (upd (upd (upd (upd (va_cpy (zX σ 53) (va_cpy (zX σ 52) (va_cpy (zX σ 51) (va_cpy (zX σ 50) (va_cpy (zX σ 49) (va_cpy (zX σ 48) (va_cpy (zX σ 47) (zX σ 62) 0 0 48) 0 48 4) 0 52 4) 0 56 4) 0 60 4) 0 64 8) 0 72 8) 80 (nI n)) (80 + 1) (nI a)) (80 + 2) (nI y)) (80 + 3) (zX σ 45 3))) := by
  obtain ⟨-, hn, hn8, ha, ha4, hy, hy8⟩ := id H
  refine Dt.of (by decide) (Nat.le_of_ble_eq_true rfl) fun κ B Rt => ?_
  show Z κ 0 0 σ 0 [(0, .ref 45), (1, .ref 62), (2, .int (zb false))] []
  refine Z.aload_n B dX12_all_0 (v := .ref 45) rfl rfl ?_
  refine Z.aload_n B dX12_all_1 (v := .ref 45) rfl rfl ?_
  refine Z.getR (σ := σ) B fX12_20_12 dX12_all_2 (hl.n (k := 45) (by decide)) (hl.k (k := 45) (by decide)) (by decide) (j := 47) (hl.r (k := 45) (f := 6) (by decide) (by decide)) ?_
  refine Z.bipush B dX12_all_5 (v := nI 48) rfl ?_
  refine Z.aload_n B dX12_all_7 (v := .ref 62) rfl rfl ?_
  refine Z.iconst B dX12_all_8 (v := nI 0) rfl ?_
  refine Z.iload_n B dX12_all_9 (x := zb false) rfl ?_
  refine Z.callVI (σ := σ) B (M' := mX12_keeps) (as := [.ref 47, .int (nI 48), .ref 62, .int (nI 0), .int (zb false)]) (st := []) (v := .int (nI (0 + 48))) dX12_all_10 wX12_keeps iX12_keeps sX12_keeps kX12_175 (hl.n (k := 45) (by decide)) (hl.k (k := 45) (by decide)) (by decide) rfl rfl (t_keeps_s_47_62 (σ := σ) hl) rfl rfl (by decide) (by decide) (Nat.le_of_ble_eq_true rfl) (by decide) (by decide) ?_
  refine Z.eqσ (τ := (zuX σ 62 (va_cpy (zX σ 47) (zX σ 62) 0 0 48))) rfl ?_
  refine Z.eqS (st' := [.int (nI 48)]) rfl ?_
  refine Z.istore_n B dX12_all_13 (by decide) (L' := [(0, .ref 45), (1, .ref 62), (2, .int (zb false)), (3, .int (nI 48))]) rfl ?_
  refine Z.aload_n B dX12_all_14 (v := .ref 45) rfl rfl ?_
  refine Z.aload_n B dX12_all_15 (v := .ref 45) rfl rfl ?_
  refine Z.getR (σ := (zuX σ 62 (va_cpy (zX σ 47) (zX σ 62) 0 0 48))) B fX12_23_12 dX12_all_16 (hl.n (k := 45) (by decide)) (hl.k (k := 45) (by decide)) (by decide) (j := 48) (hl.r (k := 45) (f := 7) (by decide) (by decide)) ?_
  refine Z.iconst B dX12_all_19 (v := nI 4) rfl ?_
  refine Z.aload_n B dX12_all_20 (v := .ref 62) rfl rfl ?_
  refine Z.iload_n B dX12_all_21 (x := nI 48) rfl ?_
  refine Z.iload_n B dX12_all_22 (x := zb false) rfl ?_
  refine Z.callVI (σ := (zuX σ 62 (va_cpy (zX σ 47) (zX σ 62) 0 0 48))) B (M' := mX12_keeps) (as := [.ref 48, .int (nI 4), .ref 62, .int (nI 48), .int (zb false)]) (st := []) (v := .int (nI (48 + 4))) dX12_all_23 wX12_keeps iX12_keeps sX12_keeps kX12_175 (hl.n (k := 45) (by decide)) (hl.k (k := 45) (by decide)) (by decide) rfl rfl (t_keeps_s_48_62 (σ := (zuX σ 62 (va_cpy (zX σ 47) (zX σ 62) 0 0 48))) hl) rfl rfl (by decide) (by decide) (Nat.le_of_ble_eq_true rfl) (by decide) (by decide) ?_
  refine Z.eqσ (τ := (zuX σ 62 (va_cpy (zX σ 48) (va_cpy (zX σ 47) (zX σ 62) 0 0 48) 0 48 4))) (by rw [zX_self, zuX_uX]; rfl) ?_
  refine Z.eqS (st' := [.int (nI 52)]) rfl ?_
  refine Z.istore_n B dX12_all_26 (by decide) (L' := [(0, .ref 45), (1, .ref 62), (2, .int (zb false)), (3, .int (nI 52))]) rfl ?_
  refine Z.aload_n B dX12_all_27 (v := .ref 45) rfl rfl ?_
  refine Z.aload_n B dX12_all_28 (v := .ref 45) rfl rfl ?_
  refine Z.getR (σ := (zuX σ 62 (va_cpy (zX σ 48) (va_cpy (zX σ 47) (zX σ 62) 0 0 48) 0 48 4))) B fX12_26_12 dX12_all_29 (hl.n (k := 45) (by decide)) (hl.k (k := 45) (by decide)) (by decide) (j := 49) (hl.r (k := 45) (f := 8) (by decide) (by decide)) ?_
  refine Z.iconst B dX12_all_32 (v := nI 4) rfl ?_
  refine Z.aload_n B dX12_all_33 (v := .ref 62) rfl rfl ?_
  refine Z.iload_n B dX12_all_34 (x := nI 52) rfl ?_
  refine Z.iload_n B dX12_all_35 (x := zb false) rfl ?_
  refine Z.callVI (σ := (zuX σ 62 (va_cpy (zX σ 48) (va_cpy (zX σ 47) (zX σ 62) 0 0 48) 0 48 4))) B (M' := mX12_keeps) (as := [.ref 49, .int (nI 4), .ref 62, .int (nI 52), .int (zb false)]) (st := []) (v := .int (nI (52 + 4))) dX12_all_36 wX12_keeps iX12_keeps sX12_keeps kX12_175 (hl.n (k := 45) (by decide)) (hl.k (k := 45) (by decide)) (by decide) rfl rfl (t_keeps_s_49_62 (σ := (zuX σ 62 (va_cpy (zX σ 48) (va_cpy (zX σ 47) (zX σ 62) 0 0 48) 0 48 4))) hl) rfl rfl (by decide) (by decide) (Nat.le_of_ble_eq_true rfl) (by decide) (by decide) ?_
  refine Z.eqσ (τ := (zuX σ 62 (va_cpy (zX σ 49) (va_cpy (zX σ 48) (va_cpy (zX σ 47) (zX σ 62) 0 0 48) 0 48 4) 0 52 4))) (by rw [zX_self, zuX_uX]; rfl) ?_
  refine Z.eqS (st' := [.int (nI 56)]) rfl ?_
  refine Z.istore_n B dX12_all_39 (by decide) (L' := [(0, .ref 45), (1, .ref 62), (2, .int (zb false)), (3, .int (nI 56))]) rfl ?_
  refine Z.aload_n B dX12_all_40 (v := .ref 45) rfl rfl ?_
  refine Z.aload_n B dX12_all_41 (v := .ref 45) rfl rfl ?_
  refine Z.getR (σ := (zuX σ 62 (va_cpy (zX σ 49) (va_cpy (zX σ 48) (va_cpy (zX σ 47) (zX σ 62) 0 0 48) 0 48 4) 0 52 4))) B fX12_29_12 dX12_all_42 (hl.n (k := 45) (by decide)) (hl.k (k := 45) (by decide)) (by decide) (j := 50) (hl.r (k := 45) (f := 9) (by decide) (by decide)) ?_
  refine Z.iconst B dX12_all_45 (v := nI 4) rfl ?_
  refine Z.aload_n B dX12_all_46 (v := .ref 62) rfl rfl ?_
  refine Z.iload_n B dX12_all_47 (x := nI 56) rfl ?_
  refine Z.iload_n B dX12_all_48 (x := zb false) rfl ?_
  refine Z.callVI (σ := (zuX σ 62 (va_cpy (zX σ 49) (va_cpy (zX σ 48) (va_cpy (zX σ 47) (zX σ 62) 0 0 48) 0 48 4) 0 52 4))) B (M' := mX12_keeps) (as := [.ref 50, .int (nI 4), .ref 62, .int (nI 56), .int (zb false)]) (st := []) (v := .int (nI (56 + 4))) dX12_all_49 wX12_keeps iX12_keeps sX12_keeps kX12_175 (hl.n (k := 45) (by decide)) (hl.k (k := 45) (by decide)) (by decide) rfl rfl (t_keeps_s_50_62 (σ := (zuX σ 62 (va_cpy (zX σ 49) (va_cpy (zX σ 48) (va_cpy (zX σ 47) (zX σ 62) 0 0 48) 0 48 4) 0 52 4))) hl) rfl rfl (by decide) (by decide) (Nat.le_of_ble_eq_true rfl) (by decide) (by decide) ?_
  refine Z.eqσ (τ := (zuX σ 62 (va_cpy (zX σ 50) (va_cpy (zX σ 49) (va_cpy (zX σ 48) (va_cpy (zX σ 47) (zX σ 62) 0 0 48) 0 48 4) 0 52 4) 0 56 4))) (by rw [zX_self, zuX_uX]; rfl) ?_
  refine Z.eqS (st' := [.int (nI 60)]) rfl ?_
  refine Z.istore_n B dX12_all_52 (by decide) (L' := [(0, .ref 45), (1, .ref 62), (2, .int (zb false)), (3, .int (nI 60))]) rfl ?_
  refine Z.aload_n B dX12_all_53 (v := .ref 45) rfl rfl ?_
  refine Z.aload_n B dX12_all_54 (v := .ref 45) rfl rfl ?_
  refine Z.getR (σ := (zuX σ 62 (va_cpy (zX σ 50) (va_cpy (zX σ 49) (va_cpy (zX σ 48) (va_cpy (zX σ 47) (zX σ 62) 0 0 48) 0 48 4) 0 52 4) 0 56 4))) B fX12_32_12 dX12_all_55 (hl.n (k := 45) (by decide)) (hl.k (k := 45) (by decide)) (by decide) (j := 51) (hl.r (k := 45) (f := 10) (by decide) (by decide)) ?_
  refine Z.iconst B dX12_all_58 (v := nI 4) rfl ?_
  refine Z.aload_n B dX12_all_59 (v := .ref 62) rfl rfl ?_
  refine Z.iload_n B dX12_all_60 (x := nI 60) rfl ?_
  refine Z.iload_n B dX12_all_61 (x := zb false) rfl ?_
  refine Z.callVI (σ := (zuX σ 62 (va_cpy (zX σ 50) (va_cpy (zX σ 49) (va_cpy (zX σ 48) (va_cpy (zX σ 47) (zX σ 62) 0 0 48) 0 48 4) 0 52 4) 0 56 4))) B (M' := mX12_keeps) (as := [.ref 51, .int (nI 4), .ref 62, .int (nI 60), .int (zb false)]) (st := []) (v := .int (nI (60 + 4))) dX12_all_62 wX12_keeps iX12_keeps sX12_keeps kX12_175 (hl.n (k := 45) (by decide)) (hl.k (k := 45) (by decide)) (by decide) rfl rfl (t_keeps_s_51_62 (σ := (zuX σ 62 (va_cpy (zX σ 50) (va_cpy (zX σ 49) (va_cpy (zX σ 48) (va_cpy (zX σ 47) (zX σ 62) 0 0 48) 0 48 4) 0 52 4) 0 56 4))) hl) rfl rfl (by decide) (by decide) (Nat.le_of_ble_eq_true rfl) (by decide) (by decide) ?_
  refine Z.eqσ (τ := (zuX σ 62 (va_cpy (zX σ 51) (va_cpy (zX σ 50) (va_cpy (zX σ 49) (va_cpy (zX σ 48) (va_cpy (zX σ 47) (zX σ 62) 0 0 48) 0 48 4) 0 52 4) 0 56 4) 0 60 4))) (by rw [zX_self, zuX_uX]; rfl) ?_
  refine Z.eqS (st' := [.int (nI 64)]) rfl ?_
  refine Z.istore_n B dX12_all_65 (by decide) (L' := [(0, .ref 45), (1, .ref 62), (2, .int (zb false)), (3, .int (nI 64))]) rfl ?_
  refine Z.aload_n B dX12_all_66 (v := .ref 45) rfl rfl ?_
  refine Z.aload_n B dX12_all_67 (v := .ref 45) rfl rfl ?_
  refine Z.getR (σ := (zuX σ 62 (va_cpy (zX σ 51) (va_cpy (zX σ 50) (va_cpy (zX σ 49) (va_cpy (zX σ 48) (va_cpy (zX σ 47) (zX σ 62) 0 0 48) 0 48 4) 0 52 4) 0 56 4) 0 60 4))) B fX12_35_12 dX12_all_68 (hl.n (k := 45) (by decide)) (hl.k (k := 45) (by decide)) (by decide) (j := 52) (hl.r (k := 45) (f := 11) (by decide) (by decide)) ?_
  refine Z.bipush B dX12_all_71 (v := nI 8) rfl ?_
  refine Z.aload_n B dX12_all_73 (v := .ref 62) rfl rfl ?_
  refine Z.iload_n B dX12_all_74 (x := nI 64) rfl ?_
  refine Z.iload_n B dX12_all_75 (x := zb false) rfl ?_
  refine Z.callVI (σ := (zuX σ 62 (va_cpy (zX σ 51) (va_cpy (zX σ 50) (va_cpy (zX σ 49) (va_cpy (zX σ 48) (va_cpy (zX σ 47) (zX σ 62) 0 0 48) 0 48 4) 0 52 4) 0 56 4) 0 60 4))) B (M' := mX12_keeps) (as := [.ref 52, .int (nI 8), .ref 62, .int (nI 64), .int (zb false)]) (st := []) (v := .int (nI (64 + 8))) dX12_all_76 wX12_keeps iX12_keeps sX12_keeps kX12_175 (hl.n (k := 45) (by decide)) (hl.k (k := 45) (by decide)) (by decide) rfl rfl (t_keeps_s_52_62 (σ := (zuX σ 62 (va_cpy (zX σ 51) (va_cpy (zX σ 50) (va_cpy (zX σ 49) (va_cpy (zX σ 48) (va_cpy (zX σ 47) (zX σ 62) 0 0 48) 0 48 4) 0 52 4) 0 56 4) 0 60 4))) hl) rfl rfl (by decide) (by decide) (Nat.le_of_ble_eq_true rfl) (by decide) (by decide) ?_
  refine Z.eqσ (τ := (zuX σ 62 (va_cpy (zX σ 52) (va_cpy (zX σ 51) (va_cpy (zX σ 50) (va_cpy (zX σ 49) (va_cpy (zX σ 48) (va_cpy (zX σ 47) (zX σ 62) 0 0 48) 0 48 4) 0 52 4) 0 56 4) 0 60 4) 0 64 8))) (by rw [zX_self, zuX_uX]; rfl) ?_
  refine Z.eqS (st' := [.int (nI 72)]) rfl ?_
  refine Z.istore_n B dX12_all_79 (by decide) (L' := [(0, .ref 45), (1, .ref 62), (2, .int (zb false)), (3, .int (nI 72))]) rfl ?_
  refine Z.aload_n B dX12_all_80 (v := .ref 45) rfl rfl ?_
  refine Z.aload_n B dX12_all_81 (v := .ref 45) rfl rfl ?_
  refine Z.getR (σ := (zuX σ 62 (va_cpy (zX σ 52) (va_cpy (zX σ 51) (va_cpy (zX σ 50) (va_cpy (zX σ 49) (va_cpy (zX σ 48) (va_cpy (zX σ 47) (zX σ 62) 0 0 48) 0 48 4) 0 52 4) 0 56 4) 0 60 4) 0 64 8))) B fX12_38_12 dX12_all_82 (hl.n (k := 45) (by decide)) (hl.k (k := 45) (by decide)) (by decide) (j := 53) (hl.r (k := 45) (f := 12) (by decide) (by decide)) ?_
  refine Z.bipush B dX12_all_85 (v := nI 8) rfl ?_
  refine Z.aload_n B dX12_all_87 (v := .ref 62) rfl rfl ?_
  refine Z.iload_n B dX12_all_88 (x := nI 72) rfl ?_
  refine Z.iload_n B dX12_all_89 (x := zb false) rfl ?_
  refine Z.callVI (σ := (zuX σ 62 (va_cpy (zX σ 52) (va_cpy (zX σ 51) (va_cpy (zX σ 50) (va_cpy (zX σ 49) (va_cpy (zX σ 48) (va_cpy (zX σ 47) (zX σ 62) 0 0 48) 0 48 4) 0 52 4) 0 56 4) 0 60 4) 0 64 8))) B (M' := mX12_keeps) (as := [.ref 53, .int (nI 8), .ref 62, .int (nI 72), .int (zb false)]) (st := []) (v := .int (nI (72 + 8))) dX12_all_90 wX12_keeps iX12_keeps sX12_keeps kX12_175 (hl.n (k := 45) (by decide)) (hl.k (k := 45) (by decide)) (by decide) rfl rfl (t_keeps_s_53_62 (σ := (zuX σ 62 (va_cpy (zX σ 52) (va_cpy (zX σ 51) (va_cpy (zX σ 50) (va_cpy (zX σ 49) (va_cpy (zX σ 48) (va_cpy (zX σ 47) (zX σ 62) 0 0 48) 0 48 4) 0 52 4) 0 56 4) 0 60 4) 0 64 8))) hl) rfl rfl (by decide) (by decide) (Nat.le_of_ble_eq_true rfl) (by decide) (by decide) ?_
  refine Z.eqσ (τ := (zuX σ 62 (va_cpy (zX σ 53) (va_cpy (zX σ 52) (va_cpy (zX σ 51) (va_cpy (zX σ 50) (va_cpy (zX σ 49) (va_cpy (zX σ 48) (va_cpy (zX σ 47) (zX σ 62) 0 0 48) 0 48 4) 0 52 4) 0 56 4) 0 60 4) 0 64 8) 0 72 8))) (by rw [zX_self, zuX_uX]; rfl) ?_
  refine Z.eqS (st' := [.int (nI 80)]) rfl ?_
  refine Z.istore_n B dX12_all_93 (by decide) (L' := [(0, .ref 45), (1, .ref 62), (2, .int (zb false)), (3, .int (nI 80))]) rfl ?_
  refine Z.iload_n B dX12_all_94 (x := zb false) rfl ?_
  refine Z.if_eqB B dX12_all_95 (tgt := 135) rfl (fun h95 => ?_) (fun h95 => by cases h95)
  refine Z.aload_n B dX12_all_135 (v := .ref 62) rfl rfl ?_
  refine Z.iload_n B dX12_all_136 (x := nI 80) rfl ?_
  refine Z.aload_n B dX12_all_137 (v := .ref 45) rfl rfl ?_
  refine Z.getI (σ := (zuX σ 62 (va_cpy (zX σ 53) (va_cpy (zX σ 52) (va_cpy (zX σ 51) (va_cpy (zX σ 50) (va_cpy (zX σ 49) (va_cpy (zX σ 48) (va_cpy (zX σ 47) (zX σ 62) 0 0 48) 0 48 4) 0 52 4) 0 56 4) 0 60 4) 0 64 8) 0 72 8))) B fX12_81_12 dX12_all_138 (hl.n (k := 45) (by decide)) (hl.k (k := 45) (by decide)) (by decide) (v := nI n) hn ?_
  refine Z.iast (σ := (zuX σ 62 (va_cpy (zX σ 53) (va_cpy (zX σ 52) (va_cpy (zX σ 51) (va_cpy (zX σ 50) (va_cpy (zX σ 49) (va_cpy (zX σ 48) (va_cpy (zX σ 47) (zX σ 62) 0 0 48) 0 48 4) 0 52 4) 0 56 4) 0 60 4) 0 64 8) 0 72 8))) B dX12_all_141 (n := 90) (hl.n (k := 62) (by decide)) (hl.k (k := 62) (by decide)) (hl.l (k := 62) (by decide)) (by decide) (j := 80) rfl (by omega) (τ := (zuX σ 62 (upd (va_cpy (zX σ 53) (va_cpy (zX σ 52) (va_cpy (zX σ 51) (va_cpy (zX σ 50) (va_cpy (zX σ 49) (va_cpy (zX σ 48) (va_cpy (zX σ 47) (zX σ 62) 0 0 48) 0 48 4) 0 52 4) 0 56 4) 0 60 4) 0 64 8) 0 72 8) 80 (nI n)))) (by simp only [zX_self, zuX_uX]) ?_
  refine Z.aload_n B dX12_all_142 (v := .ref 62) rfl rfl ?_
  refine Z.iload_n B dX12_all_143 (x := nI 80) rfl ?_
  refine Z.iconst B dX12_all_144 (v := nI 1) rfl ?_
  refine Z.iaddN B dX12_all_145 (a := 80) (b := 1) ?_
  refine Z.aload_n B dX12_all_146 (v := .ref 45) rfl rfl ?_
  refine Z.getI (σ := (zuX σ 62 (upd (va_cpy (zX σ 53) (va_cpy (zX σ 52) (va_cpy (zX σ 51) (va_cpy (zX σ 50) (va_cpy (zX σ 49) (va_cpy (zX σ 48) (va_cpy (zX σ 47) (zX σ 62) 0 0 48) 0 48 4) 0 52 4) 0 56 4) 0 60 4) 0 64 8) 0 72 8) 80 (nI n)))) B fX12_84_12 dX12_all_147 (hl.n (k := 45) (by decide)) (hl.k (k := 45) (by decide)) (by decide) (v := nI a) ha ?_
  refine Z.iast (σ := (zuX σ 62 (upd (va_cpy (zX σ 53) (va_cpy (zX σ 52) (va_cpy (zX σ 51) (va_cpy (zX σ 50) (va_cpy (zX σ 49) (va_cpy (zX σ 48) (va_cpy (zX σ 47) (zX σ 62) 0 0 48) 0 48 4) 0 52 4) 0 56 4) 0 60 4) 0 64 8) 0 72 8) 80 (nI n)))) B dX12_all_150 (n := 90) (hl.n (k := 62) (by decide)) (hl.k (k := 62) (by decide)) (hl.l (k := 62) (by decide)) (by decide) (j := 80 + 1) rfl (by omega) (τ := (zuX σ 62 (upd (upd (va_cpy (zX σ 53) (va_cpy (zX σ 52) (va_cpy (zX σ 51) (va_cpy (zX σ 50) (va_cpy (zX σ 49) (va_cpy (zX σ 48) (va_cpy (zX σ 47) (zX σ 62) 0 0 48) 0 48 4) 0 52 4) 0 56 4) 0 60 4) 0 64 8) 0 72 8) 80 (nI n)) (80 + 1) (nI a)))) (by simp only [zX_self, zuX_uX]) ?_
  refine Z.aload_n B dX12_all_151 (v := .ref 62) rfl rfl ?_
  refine Z.iload_n B dX12_all_152 (x := nI 80) rfl ?_
  refine Z.iconst B dX12_all_153 (v := nI 2) rfl ?_
  refine Z.iaddN B dX12_all_154 (a := 80) (b := 2) ?_
  refine Z.aload_n B dX12_all_155 (v := .ref 45) rfl rfl ?_
  refine Z.getI (σ := (zuX σ 62 (upd (upd (va_cpy (zX σ 53) (va_cpy (zX σ 52) (va_cpy (zX σ 51) (va_cpy (zX σ 50) (va_cpy (zX σ 49) (va_cpy (zX σ 48) (va_cpy (zX σ 47) (zX σ 62) 0 0 48) 0 48 4) 0 52 4) 0 56 4) 0 60 4) 0 64 8) 0 72 8) 80 (nI n)) (80 + 1) (nI a)))) B fX12_87_12 dX12_all_156 (hl.n (k := 45) (by decide)) (hl.k (k := 45) (by decide)) (by decide) (v := nI y) hy ?_
  refine Z.iast (σ := (zuX σ 62 (upd (upd (va_cpy (zX σ 53) (va_cpy (zX σ 52) (va_cpy (zX σ 51) (va_cpy (zX σ 50) (va_cpy (zX σ 49) (va_cpy (zX σ 48) (va_cpy (zX σ 47) (zX σ 62) 0 0 48) 0 48 4) 0 52 4) 0 56 4) 0 60 4) 0 64 8) 0 72 8) 80 (nI n)) (80 + 1) (nI a)))) B dX12_all_159 (n := 90) (hl.n (k := 62) (by decide)) (hl.k (k := 62) (by decide)) (hl.l (k := 62) (by decide)) (by decide) (j := 80 + 2) rfl (by omega) (τ := (zuX σ 62 (upd (upd (upd (va_cpy (zX σ 53) (va_cpy (zX σ 52) (va_cpy (zX σ 51) (va_cpy (zX σ 50) (va_cpy (zX σ 49) (va_cpy (zX σ 48) (va_cpy (zX σ 47) (zX σ 62) 0 0 48) 0 48 4) 0 52 4) 0 56 4) 0 60 4) 0 64 8) 0 72 8) 80 (nI n)) (80 + 1) (nI a)) (80 + 2) (nI y)))) (by simp only [zX_self, zuX_uX]) ?_
  refine Z.aload_n B dX12_all_160 (v := .ref 62) rfl rfl ?_
  refine Z.iload_n B dX12_all_161 (x := nI 80) rfl ?_
  refine Z.iconst B dX12_all_162 (v := nI 3) rfl ?_
  refine Z.iaddN B dX12_all_163 (a := 80) (b := 3) ?_
  refine Z.aload_n B dX12_all_164 (v := .ref 45) rfl rfl ?_
  refine Z.getI (σ := (zuX σ 62 (upd (upd (upd (va_cpy (zX σ 53) (va_cpy (zX σ 52) (va_cpy (zX σ 51) (va_cpy (zX σ 50) (va_cpy (zX σ 49) (va_cpy (zX σ 48) (va_cpy (zX σ 47) (zX σ 62) 0 0 48) 0 48 4) 0 52 4) 0 56 4) 0 60 4) 0 64 8) 0 72 8) 80 (nI n)) (80 + 1) (nI a)) (80 + 2) (nI y)))) B fX12_7_12 dX12_all_165 (hl.n (k := 45) (by decide)) (hl.k (k := 45) (by decide)) (by decide) (v := (zX σ 45 3)) rfl ?_
  refine Z.iast (σ := (zuX σ 62 (upd (upd (upd (va_cpy (zX σ 53) (va_cpy (zX σ 52) (va_cpy (zX σ 51) (va_cpy (zX σ 50) (va_cpy (zX σ 49) (va_cpy (zX σ 48) (va_cpy (zX σ 47) (zX σ 62) 0 0 48) 0 48 4) 0 52 4) 0 56 4) 0 60 4) 0 64 8) 0 72 8) 80 (nI n)) (80 + 1) (nI a)) (80 + 2) (nI y)))) B dX12_all_168 (n := 90) (hl.n (k := 62) (by decide)) (hl.k (k := 62) (by decide)) (hl.l (k := 62) (by decide)) (by decide) (j := 80 + 3) rfl (by omega) (τ := (zuX σ 62 (upd (upd (upd (upd (va_cpy (zX σ 53) (va_cpy (zX σ 52) (va_cpy (zX σ 51) (va_cpy (zX σ 50) (va_cpy (zX σ 49) (va_cpy (zX σ 48) (va_cpy (zX σ 47) (zX σ 62) 0 0 48) 0 48 4) 0 52 4) 0 56 4) 0 60 4) 0 64 8) 0 72 8) 80 (nI n)) (80 + 1) (nI a)) (80 + 2) (nI y)) (80 + 3) (zX σ 45 3)))) (by simp only [zX_self, zuX_uX]) ?_
  refine Z.vret B Rt dX12_all_169 rfl (by decide) (by decide) ?_
  exact ⟨rfl, rfl⟩

theorem t_M_all_b_62 {σ : zSt} (hl : Lay σ)  : Dt mX12_all [.ref 45, .ref 62, .int (zb true)] σ (none) (zuX (zuX (zuX (zuX (zuX (zuX (zuX (zuX σ 47 (va_cpy (zX σ 62) (zX σ 47) 0 0 48)) 48 (va_cpy (zX σ 62) (zX σ 48) 48 0 4)) 49 (va_cpy (zX σ 62) (zX σ 49) 52 0 4)) 50 (va_cpy (zX σ 62) (zX σ 50) 56 0 4)) 51 (va_cpy (zX σ 62) (zX σ 51) 60 0 4)) 52 (va_cpy (zX σ 62) (zX σ 52) 64 0 8)) 53 (va_cpy (zX σ 62) (zX σ 53) 72 0 8)) 45 (upd (upd (upd (upd (zX σ 45) 0 (zX σ 62 80)) 1 (zX σ 62 (80 + 1))) 2 (zX σ 62 (80 + 2))) 3 (zX σ 62 (80 + 3)))) := by
  refine Dt.of (by decide) (Nat.le_of_ble_eq_true rfl) fun κ B Rt => ?_
  show Z κ 0 0 σ 0 [(0, .ref 45), (1, .ref 62), (2, .int (zb true))] []
  refine Z.aload_n B dX12_all_0 (v := .ref 45) rfl rfl ?_
  refine Z.aload_n B dX12_all_1 (v := .ref 45) rfl rfl ?_
  refine Z.getR (σ := σ) B fX12_20_12 dX12_all_2 (hl.n (k := 45) (by decide)) (hl.k (k := 45) (by decide)) (by decide) (j := 47) (hl.r (k := 45) (f := 6) (by decide) (by decide)) ?_
  refine Z.bipush B dX12_all_5 (v := nI 48) rfl ?_
  refine Z.aload_n B dX12_all_7 (v := .ref 62) rfl rfl ?_
  refine Z.iconst B dX12_all_8 (v := nI 0) rfl ?_
  refine Z.iload_n B dX12_all_9 (x := zb true) rfl ?_
  refine Z.callVI (σ := σ) B (M' := mX12_keeps) (as := [.ref 47, .int (nI 48), .ref 62, .int (nI 0), .int (zb true)]) (st := []) (v := .int (nI (0 + 48))) dX12_all_10 wX12_keeps iX12_keeps sX12_keeps kX12_175 (hl.n (k := 45) (by decide)) (hl.k (k := 45) (by decide)) (by decide) rfl rfl (t_keeps_b_47_62 (σ := σ) hl) rfl rfl (by decide) (by decide) (Nat.le_of_ble_eq_true rfl) (by decide) (by decide) ?_
  refine Z.eqσ (τ := (zuX σ 47 (va_cpy (zX σ 62) (zX σ 47) 0 0 48))) rfl ?_
  refine Z.eqS (st' := [.int (nI 48)]) rfl ?_
  refine Z.istore_n B dX12_all_13 (by decide) (L' := [(0, .ref 45), (1, .ref 62), (2, .int (zb true)), (3, .int (nI 48))]) rfl ?_
  refine Z.aload_n B dX12_all_14 (v := .ref 45) rfl rfl ?_
  refine Z.aload_n B dX12_all_15 (v := .ref 45) rfl rfl ?_
  refine Z.getR (σ := (zuX σ 47 (va_cpy (zX σ 62) (zX σ 47) 0 0 48))) B fX12_23_12 dX12_all_16 (hl.n (k := 45) (by decide)) (hl.k (k := 45) (by decide)) (by decide) (j := 48) (hl.r (k := 45) (f := 7) (by decide) (by decide)) ?_
  refine Z.iconst B dX12_all_19 (v := nI 4) rfl ?_
  refine Z.aload_n B dX12_all_20 (v := .ref 62) rfl rfl ?_
  refine Z.iload_n B dX12_all_21 (x := nI 48) rfl ?_
  refine Z.iload_n B dX12_all_22 (x := zb true) rfl ?_
  refine Z.callVI (σ := (zuX σ 47 (va_cpy (zX σ 62) (zX σ 47) 0 0 48))) B (M' := mX12_keeps) (as := [.ref 48, .int (nI 4), .ref 62, .int (nI 48), .int (zb true)]) (st := []) (v := .int (nI (48 + 4))) dX12_all_23 wX12_keeps iX12_keeps sX12_keeps kX12_175 (hl.n (k := 45) (by decide)) (hl.k (k := 45) (by decide)) (by decide) rfl rfl (t_keeps_b_48_62 (σ := (zuX σ 47 (va_cpy (zX σ 62) (zX σ 47) 0 0 48))) hl) rfl rfl (by decide) (by decide) (Nat.le_of_ble_eq_true rfl) (by decide) (by decide) ?_
  refine Z.eqσ (τ := (zuX (zuX σ 47 (va_cpy (zX σ 62) (zX σ 47) 0 0 48)) 48 (va_cpy (zX σ 62) (zX σ 48) 48 0 4))) rfl ?_
  refine Z.eqS (st' := [.int (nI 52)]) rfl ?_
  refine Z.istore_n B dX12_all_26 (by decide) (L' := [(0, .ref 45), (1, .ref 62), (2, .int (zb true)), (3, .int (nI 52))]) rfl ?_
  refine Z.aload_n B dX12_all_27 (v := .ref 45) rfl rfl ?_
  refine Z.aload_n B dX12_all_28 (v := .ref 45) rfl rfl ?_
  refine Z.getR (σ := (zuX (zuX σ 47 (va_cpy (zX σ 62) (zX σ 47) 0 0 48)) 48 (va_cpy (zX σ 62) (zX σ 48) 48 0 4))) B fX12_26_12 dX12_all_29 (hl.n (k := 45) (by decide)) (hl.k (k := 45) (by decide)) (by decide) (j := 49) (hl.r (k := 45) (f := 8) (by decide) (by decide)) ?_
  refine Z.iconst B dX12_all_32 (v := nI 4) rfl ?_
  refine Z.aload_n B dX12_all_33 (v := .ref 62) rfl rfl ?_
  refine Z.iload_n B dX12_all_34 (x := nI 52) rfl ?_
  refine Z.iload_n B dX12_all_35 (x := zb true) rfl ?_
  refine Z.callVI (σ := (zuX (zuX σ 47 (va_cpy (zX σ 62) (zX σ 47) 0 0 48)) 48 (va_cpy (zX σ 62) (zX σ 48) 48 0 4))) B (M' := mX12_keeps) (as := [.ref 49, .int (nI 4), .ref 62, .int (nI 52), .int (zb true)]) (st := []) (v := .int (nI (52 + 4))) dX12_all_36 wX12_keeps iX12_keeps sX12_keeps kX12_175 (hl.n (k := 45) (by decide)) (hl.k (k := 45) (by decide)) (by decide) rfl rfl (t_keeps_b_49_62 (σ := (zuX (zuX σ 47 (va_cpy (zX σ 62) (zX σ 47) 0 0 48)) 48 (va_cpy (zX σ 62) (zX σ 48) 48 0 4))) hl) rfl rfl (by decide) (by decide) (Nat.le_of_ble_eq_true rfl) (by decide) (by decide) ?_
  refine Z.eqσ (τ := (zuX (zuX (zuX σ 47 (va_cpy (zX σ 62) (zX σ 47) 0 0 48)) 48 (va_cpy (zX σ 62) (zX σ 48) 48 0 4)) 49 (va_cpy (zX σ 62) (zX σ 49) 52 0 4))) rfl ?_
  refine Z.eqS (st' := [.int (nI 56)]) rfl ?_
  refine Z.istore_n B dX12_all_39 (by decide) (L' := [(0, .ref 45), (1, .ref 62), (2, .int (zb true)), (3, .int (nI 56))]) rfl ?_
  refine Z.aload_n B dX12_all_40 (v := .ref 45) rfl rfl ?_
  refine Z.aload_n B dX12_all_41 (v := .ref 45) rfl rfl ?_
  refine Z.getR (σ := (zuX (zuX (zuX σ 47 (va_cpy (zX σ 62) (zX σ 47) 0 0 48)) 48 (va_cpy (zX σ 62) (zX σ 48) 48 0 4)) 49 (va_cpy (zX σ 62) (zX σ 49) 52 0 4))) B fX12_29_12 dX12_all_42 (hl.n (k := 45) (by decide)) (hl.k (k := 45) (by decide)) (by decide) (j := 50) (hl.r (k := 45) (f := 9) (by decide) (by decide)) ?_
  refine Z.iconst B dX12_all_45 (v := nI 4) rfl ?_
  refine Z.aload_n B dX12_all_46 (v := .ref 62) rfl rfl ?_
  refine Z.iload_n B dX12_all_47 (x := nI 56) rfl ?_
  refine Z.iload_n B dX12_all_48 (x := zb true) rfl ?_
  refine Z.callVI (σ := (zuX (zuX (zuX σ 47 (va_cpy (zX σ 62) (zX σ 47) 0 0 48)) 48 (va_cpy (zX σ 62) (zX σ 48) 48 0 4)) 49 (va_cpy (zX σ 62) (zX σ 49) 52 0 4))) B (M' := mX12_keeps) (as := [.ref 50, .int (nI 4), .ref 62, .int (nI 56), .int (zb true)]) (st := []) (v := .int (nI (56 + 4))) dX12_all_49 wX12_keeps iX12_keeps sX12_keeps kX12_175 (hl.n (k := 45) (by decide)) (hl.k (k := 45) (by decide)) (by decide) rfl rfl (t_keeps_b_50_62 (σ := (zuX (zuX (zuX σ 47 (va_cpy (zX σ 62) (zX σ 47) 0 0 48)) 48 (va_cpy (zX σ 62) (zX σ 48) 48 0 4)) 49 (va_cpy (zX σ 62) (zX σ 49) 52 0 4))) hl) rfl rfl (by decide) (by decide) (Nat.le_of_ble_eq_true rfl) (by decide) (by decide) ?_
  refine Z.eqσ (τ := (zuX (zuX (zuX (zuX σ 47 (va_cpy (zX σ 62) (zX σ 47) 0 0 48)) 48 (va_cpy (zX σ 62) (zX σ 48) 48 0 4)) 49 (va_cpy (zX σ 62) (zX σ 49) 52 0 4)) 50 (va_cpy (zX σ 62) (zX σ 50) 56 0 4))) rfl ?_
  refine Z.eqS (st' := [.int (nI 60)]) rfl ?_
  refine Z.istore_n B dX12_all_52 (by decide) (L' := [(0, .ref 45), (1, .ref 62), (2, .int (zb true)), (3, .int (nI 60))]) rfl ?_
  refine Z.aload_n B dX12_all_53 (v := .ref 45) rfl rfl ?_
  refine Z.aload_n B dX12_all_54 (v := .ref 45) rfl rfl ?_
  refine Z.getR (σ := (zuX (zuX (zuX (zuX σ 47 (va_cpy (zX σ 62) (zX σ 47) 0 0 48)) 48 (va_cpy (zX σ 62) (zX σ 48) 48 0 4)) 49 (va_cpy (zX σ 62) (zX σ 49) 52 0 4)) 50 (va_cpy (zX σ 62) (zX σ 50) 56 0 4))) B fX12_32_12 dX12_all_55 (hl.n (k := 45) (by decide)) (hl.k (k := 45) (by decide)) (by decide) (j := 51) (hl.r (k := 45) (f := 10) (by decide) (by decide)) ?_
  refine Z.iconst B dX12_all_58 (v := nI 4) rfl ?_
  refine Z.aload_n B dX12_all_59 (v := .ref 62) rfl rfl ?_
  refine Z.iload_n B dX12_all_60 (x := nI 60) rfl ?_
  refine Z.iload_n B dX12_all_61 (x := zb true) rfl ?_
  refine Z.callVI (σ := (zuX (zuX (zuX (zuX σ 47 (va_cpy (zX σ 62) (zX σ 47) 0 0 48)) 48 (va_cpy (zX σ 62) (zX σ 48) 48 0 4)) 49 (va_cpy (zX σ 62) (zX σ 49) 52 0 4)) 50 (va_cpy (zX σ 62) (zX σ 50) 56 0 4))) B (M' := mX12_keeps) (as := [.ref 51, .int (nI 4), .ref 62, .int (nI 60), .int (zb true)]) (st := []) (v := .int (nI (60 + 4))) dX12_all_62 wX12_keeps iX12_keeps sX12_keeps kX12_175 (hl.n (k := 45) (by decide)) (hl.k (k := 45) (by decide)) (by decide) rfl rfl (t_keeps_b_51_62 (σ := (zuX (zuX (zuX (zuX σ 47 (va_cpy (zX σ 62) (zX σ 47) 0 0 48)) 48 (va_cpy (zX σ 62) (zX σ 48) 48 0 4)) 49 (va_cpy (zX σ 62) (zX σ 49) 52 0 4)) 50 (va_cpy (zX σ 62) (zX σ 50) 56 0 4))) hl) rfl rfl (by decide) (by decide) (Nat.le_of_ble_eq_true rfl) (by decide) (by decide) ?_
  refine Z.eqσ (τ := (zuX (zuX (zuX (zuX (zuX σ 47 (va_cpy (zX σ 62) (zX σ 47) 0 0 48)) 48 (va_cpy (zX σ 62) (zX σ 48) 48 0 4)) 49 (va_cpy (zX σ 62) (zX σ 49) 52 0 4)) 50 (va_cpy (zX σ 62) (zX σ 50) 56 0 4)) 51 (va_cpy (zX σ 62) (zX σ 51) 60 0 4))) rfl ?_
  refine Z.eqS (st' := [.int (nI 64)]) rfl ?_
  refine Z.istore_n B dX12_all_65 (by decide) (L' := [(0, .ref 45), (1, .ref 62), (2, .int (zb true)), (3, .int (nI 64))]) rfl ?_
  refine Z.aload_n B dX12_all_66 (v := .ref 45) rfl rfl ?_
  refine Z.aload_n B dX12_all_67 (v := .ref 45) rfl rfl ?_
  refine Z.getR (σ := (zuX (zuX (zuX (zuX (zuX σ 47 (va_cpy (zX σ 62) (zX σ 47) 0 0 48)) 48 (va_cpy (zX σ 62) (zX σ 48) 48 0 4)) 49 (va_cpy (zX σ 62) (zX σ 49) 52 0 4)) 50 (va_cpy (zX σ 62) (zX σ 50) 56 0 4)) 51 (va_cpy (zX σ 62) (zX σ 51) 60 0 4))) B fX12_35_12 dX12_all_68 (hl.n (k := 45) (by decide)) (hl.k (k := 45) (by decide)) (by decide) (j := 52) (hl.r (k := 45) (f := 11) (by decide) (by decide)) ?_
  refine Z.bipush B dX12_all_71 (v := nI 8) rfl ?_
  refine Z.aload_n B dX12_all_73 (v := .ref 62) rfl rfl ?_
  refine Z.iload_n B dX12_all_74 (x := nI 64) rfl ?_
  refine Z.iload_n B dX12_all_75 (x := zb true) rfl ?_
  refine Z.callVI (σ := (zuX (zuX (zuX (zuX (zuX σ 47 (va_cpy (zX σ 62) (zX σ 47) 0 0 48)) 48 (va_cpy (zX σ 62) (zX σ 48) 48 0 4)) 49 (va_cpy (zX σ 62) (zX σ 49) 52 0 4)) 50 (va_cpy (zX σ 62) (zX σ 50) 56 0 4)) 51 (va_cpy (zX σ 62) (zX σ 51) 60 0 4))) B (M' := mX12_keeps) (as := [.ref 52, .int (nI 8), .ref 62, .int (nI 64), .int (zb true)]) (st := []) (v := .int (nI (64 + 8))) dX12_all_76 wX12_keeps iX12_keeps sX12_keeps kX12_175 (hl.n (k := 45) (by decide)) (hl.k (k := 45) (by decide)) (by decide) rfl rfl (t_keeps_b_52_62 (σ := (zuX (zuX (zuX (zuX (zuX σ 47 (va_cpy (zX σ 62) (zX σ 47) 0 0 48)) 48 (va_cpy (zX σ 62) (zX σ 48) 48 0 4)) 49 (va_cpy (zX σ 62) (zX σ 49) 52 0 4)) 50 (va_cpy (zX σ 62) (zX σ 50) 56 0 4)) 51 (va_cpy (zX σ 62) (zX σ 51) 60 0 4))) hl) rfl rfl (by decide) (by decide) (Nat.le_of_ble_eq_true rfl) (by decide) (by decide) ?_
  refine Z.eqσ (τ := (zuX (zuX (zuX (zuX (zuX (zuX σ 47 (va_cpy (zX σ 62) (zX σ 47) 0 0 48)) 48 (va_cpy (zX σ 62) (zX σ 48) 48 0 4)) 49 (va_cpy (zX σ 62) (zX σ 49) 52 0 4)) 50 (va_cpy (zX σ 62) (zX σ 50) 56 0 4)) 51 (va_cpy (zX σ 62) (zX σ 51) 60 0 4)) 52 (va_cpy (zX σ 62) (zX σ 52) 64 0 8))) rfl ?_
  refine Z.eqS (st' := [.int (nI 72)]) rfl ?_
  refine Z.istore_n B dX12_all_79 (by decide) (L' := [(0, .ref 45), (1, .ref 62), (2, .int (zb true)), (3, .int (nI 72))]) rfl ?_
  refine Z.aload_n B dX12_all_80 (v := .ref 45) rfl rfl ?_
  refine Z.aload_n B dX12_all_81 (v := .ref 45) rfl rfl ?_
  refine Z.getR (σ := (zuX (zuX (zuX (zuX (zuX (zuX σ 47 (va_cpy (zX σ 62) (zX σ 47) 0 0 48)) 48 (va_cpy (zX σ 62) (zX σ 48) 48 0 4)) 49 (va_cpy (zX σ 62) (zX σ 49) 52 0 4)) 50 (va_cpy (zX σ 62) (zX σ 50) 56 0 4)) 51 (va_cpy (zX σ 62) (zX σ 51) 60 0 4)) 52 (va_cpy (zX σ 62) (zX σ 52) 64 0 8))) B fX12_38_12 dX12_all_82 (hl.n (k := 45) (by decide)) (hl.k (k := 45) (by decide)) (by decide) (j := 53) (hl.r (k := 45) (f := 12) (by decide) (by decide)) ?_
  refine Z.bipush B dX12_all_85 (v := nI 8) rfl ?_
  refine Z.aload_n B dX12_all_87 (v := .ref 62) rfl rfl ?_
  refine Z.iload_n B dX12_all_88 (x := nI 72) rfl ?_
  refine Z.iload_n B dX12_all_89 (x := zb true) rfl ?_
  refine Z.callVI (σ := (zuX (zuX (zuX (zuX (zuX (zuX σ 47 (va_cpy (zX σ 62) (zX σ 47) 0 0 48)) 48 (va_cpy (zX σ 62) (zX σ 48) 48 0 4)) 49 (va_cpy (zX σ 62) (zX σ 49) 52 0 4)) 50 (va_cpy (zX σ 62) (zX σ 50) 56 0 4)) 51 (va_cpy (zX σ 62) (zX σ 51) 60 0 4)) 52 (va_cpy (zX σ 62) (zX σ 52) 64 0 8))) B (M' := mX12_keeps) (as := [.ref 53, .int (nI 8), .ref 62, .int (nI 72), .int (zb true)]) (st := []) (v := .int (nI (72 + 8))) dX12_all_90 wX12_keeps iX12_keeps sX12_keeps kX12_175 (hl.n (k := 45) (by decide)) (hl.k (k := 45) (by decide)) (by decide) rfl rfl (t_keeps_b_53_62 (σ := (zuX (zuX (zuX (zuX (zuX (zuX σ 47 (va_cpy (zX σ 62) (zX σ 47) 0 0 48)) 48 (va_cpy (zX σ 62) (zX σ 48) 48 0 4)) 49 (va_cpy (zX σ 62) (zX σ 49) 52 0 4)) 50 (va_cpy (zX σ 62) (zX σ 50) 56 0 4)) 51 (va_cpy (zX σ 62) (zX σ 51) 60 0 4)) 52 (va_cpy (zX σ 62) (zX σ 52) 64 0 8))) hl) rfl rfl (by decide) (by decide) (Nat.le_of_ble_eq_true rfl) (by decide) (by decide) ?_
  refine Z.eqσ (τ := (zuX (zuX (zuX (zuX (zuX (zuX (zuX σ 47 (va_cpy (zX σ 62) (zX σ 47) 0 0 48)) 48 (va_cpy (zX σ 62) (zX σ 48) 48 0 4)) 49 (va_cpy (zX σ 62) (zX σ 49) 52 0 4)) 50 (va_cpy (zX σ 62) (zX σ 50) 56 0 4)) 51 (va_cpy (zX σ 62) (zX σ 51) 60 0 4)) 52 (va_cpy (zX σ 62) (zX σ 52) 64 0 8)) 53 (va_cpy (zX σ 62) (zX σ 53) 72 0 8))) rfl ?_
  refine Z.eqS (st' := [.int (nI 80)]) rfl ?_
  refine Z.istore_n B dX12_all_93 (by decide) (L' := [(0, .ref 45), (1, .ref 62), (2, .int (zb true)), (3, .int (nI 80))]) rfl ?_
  refine Z.iload_n B dX12_all_94 (x := zb true) rfl ?_
  refine Z.if_eqB B dX12_all_95 (tgt := 135) rfl (fun h95 => by cases h95) (fun h95 => ?_)
  refine Z.aload_n B dX12_all_98 (v := .ref 45) rfl rfl ?_
  refine Z.aload_n B dX12_all_99 (v := .ref 62) rfl rfl ?_
  refine Z.iload_n B dX12_all_100 (x := nI 80) rfl ?_
  refine Z.iald (σ := (zuX (zuX (zuX (zuX (zuX (zuX (zuX σ 47 (va_cpy (zX σ 62) (zX σ 47) 0 0 48)) 48 (va_cpy (zX σ 62) (zX σ 48) 48 0 4)) 49 (va_cpy (zX σ 62) (zX σ 49) 52 0 4)) 50 (va_cpy (zX σ 62) (zX σ 50) 56 0 4)) 51 (va_cpy (zX σ 62) (zX σ 51) 60 0 4)) 52 (va_cpy (zX σ 62) (zX σ 52) 64 0 8)) 53 (va_cpy (zX σ 62) (zX σ 53) 72 0 8))) B dX12_all_101 (n := 90) (hl.n (k := 62) (by decide)) (hl.k (k := 62) (by decide)) (hl.l (k := 62) (by decide)) (by decide) (j := 80) rfl (by omega) (v := (zX σ 62 80)) rfl ?_
  refine Z.putI (σ := (zuX (zuX (zuX (zuX (zuX (zuX (zuX σ 47 (va_cpy (zX σ 62) (zX σ 47) 0 0 48)) 48 (va_cpy (zX σ 62) (zX σ 48) 48 0 4)) 49 (va_cpy (zX σ 62) (zX σ 49) 52 0 4)) 50 (va_cpy (zX σ 62) (zX σ 50) 56 0 4)) 51 (va_cpy (zX σ 62) (zX σ 51) 60 0 4)) 52 (va_cpy (zX σ 62) (zX σ 52) 64 0 8)) 53 (va_cpy (zX σ 62) (zX σ 53) 72 0 8))) B fX12_81_12 (ty := .int) ⟨_, _, _, rfl, rfl, by decide +kernel⟩ dX12_all_102 (hl.n (k := 45) (by decide)) (hl.k (k := 45) (by decide)) (by decide) rfl rfl (τ := (zuX (zuX (zuX (zuX (zuX (zuX (zuX (zuX σ 47 (va_cpy (zX σ 62) (zX σ 47) 0 0 48)) 48 (va_cpy (zX σ 62) (zX σ 48) 48 0 4)) 49 (va_cpy (zX σ 62) (zX σ 49) 52 0 4)) 50 (va_cpy (zX σ 62) (zX σ 50) 56 0 4)) 51 (va_cpy (zX σ 62) (zX σ 51) 60 0 4)) 52 (va_cpy (zX σ 62) (zX σ 52) 64 0 8)) 53 (va_cpy (zX σ 62) (zX σ 53) 72 0 8)) 45 (upd (zX σ 45) 0 (zX σ 62 80)))) rfl ?_
  refine Z.aload_n B dX12_all_105 (v := .ref 45) rfl rfl ?_
  refine Z.aload_n B dX12_all_106 (v := .ref 62) rfl rfl ?_
  refine Z.iload_n B dX12_all_107 (x := nI 80) rfl ?_
  refine Z.iconst B dX12_all_108 (v := nI 1) rfl ?_
  refine Z.iaddN B dX12_all_109 (a := 80) (b := 1) ?_
  refine Z.iald (σ := (zuX (zuX (zuX (zuX (zuX (zuX (zuX (zuX σ 47 (va_cpy (zX σ 62) (zX σ 47) 0 0 48)) 48 (va_cpy (zX σ 62) (zX σ 48) 48 0 4)) 49 (va_cpy (zX σ 62) (zX σ 49) 52 0 4)) 50 (va_cpy (zX σ 62) (zX σ 50) 56 0 4)) 51 (va_cpy (zX σ 62) (zX σ 51) 60 0 4)) 52 (va_cpy (zX σ 62) (zX σ 52) 64 0 8)) 53 (va_cpy (zX σ 62) (zX σ 53) 72 0 8)) 45 (upd (zX σ 45) 0 (zX σ 62 80)))) B dX12_all_110 (n := 90) (hl.n (k := 62) (by decide)) (hl.k (k := 62) (by decide)) (hl.l (k := 62) (by decide)) (by decide) (j := 80 + 1) rfl (by omega) (v := (zX σ 62 (80 + 1))) rfl ?_
  refine Z.putI (σ := (zuX (zuX (zuX (zuX (zuX (zuX (zuX (zuX σ 47 (va_cpy (zX σ 62) (zX σ 47) 0 0 48)) 48 (va_cpy (zX σ 62) (zX σ 48) 48 0 4)) 49 (va_cpy (zX σ 62) (zX σ 49) 52 0 4)) 50 (va_cpy (zX σ 62) (zX σ 50) 56 0 4)) 51 (va_cpy (zX σ 62) (zX σ 51) 60 0 4)) 52 (va_cpy (zX σ 62) (zX σ 52) 64 0 8)) 53 (va_cpy (zX σ 62) (zX σ 53) 72 0 8)) 45 (upd (zX σ 45) 0 (zX σ 62 80)))) B fX12_84_12 (ty := .int) ⟨_, _, _, rfl, rfl, by decide +kernel⟩ dX12_all_111 (hl.n (k := 45) (by decide)) (hl.k (k := 45) (by decide)) (by decide) rfl rfl (τ := (zuX (zuX (zuX (zuX (zuX (zuX (zuX (zuX σ 47 (va_cpy (zX σ 62) (zX σ 47) 0 0 48)) 48 (va_cpy (zX σ 62) (zX σ 48) 48 0 4)) 49 (va_cpy (zX σ 62) (zX σ 49) 52 0 4)) 50 (va_cpy (zX σ 62) (zX σ 50) 56 0 4)) 51 (va_cpy (zX σ 62) (zX σ 51) 60 0 4)) 52 (va_cpy (zX σ 62) (zX σ 52) 64 0 8)) 53 (va_cpy (zX σ 62) (zX σ 53) 72 0 8)) 45 (upd (upd (zX σ 45) 0 (zX σ 62 80)) 1 (zX σ 62 (80 + 1))))) (by simp only [zX_self, zuX_uX]) ?_
  refine Z.aload_n B dX12_all_114 (v := .ref 45) rfl rfl ?_
  refine Z.aload_n B dX12_all_115 (v := .ref 62) rfl rfl ?_
  refine Z.iload_n B dX12_all_116 (x := nI 80) rfl ?_
  refine Z.iconst B dX12_all_117 (v := nI 2) rfl ?_
  refine Z.iaddN B dX12_all_118 (a := 80) (b := 2) ?_
  refine Z.iald (σ := (zuX (zuX (zuX (zuX (zuX (zuX (zuX (zuX σ 47 (va_cpy (zX σ 62) (zX σ 47) 0 0 48)) 48 (va_cpy (zX σ 62) (zX σ 48) 48 0 4)) 49 (va_cpy (zX σ 62) (zX σ 49) 52 0 4)) 50 (va_cpy (zX σ 62) (zX σ 50) 56 0 4)) 51 (va_cpy (zX σ 62) (zX σ 51) 60 0 4)) 52 (va_cpy (zX σ 62) (zX σ 52) 64 0 8)) 53 (va_cpy (zX σ 62) (zX σ 53) 72 0 8)) 45 (upd (upd (zX σ 45) 0 (zX σ 62 80)) 1 (zX σ 62 (80 + 1))))) B dX12_all_119 (n := 90) (hl.n (k := 62) (by decide)) (hl.k (k := 62) (by decide)) (hl.l (k := 62) (by decide)) (by decide) (j := 80 + 2) rfl (by omega) (v := (zX σ 62 (80 + 2))) rfl ?_
  refine Z.putI (σ := (zuX (zuX (zuX (zuX (zuX (zuX (zuX (zuX σ 47 (va_cpy (zX σ 62) (zX σ 47) 0 0 48)) 48 (va_cpy (zX σ 62) (zX σ 48) 48 0 4)) 49 (va_cpy (zX σ 62) (zX σ 49) 52 0 4)) 50 (va_cpy (zX σ 62) (zX σ 50) 56 0 4)) 51 (va_cpy (zX σ 62) (zX σ 51) 60 0 4)) 52 (va_cpy (zX σ 62) (zX σ 52) 64 0 8)) 53 (va_cpy (zX σ 62) (zX σ 53) 72 0 8)) 45 (upd (upd (zX σ 45) 0 (zX σ 62 80)) 1 (zX σ 62 (80 + 1))))) B fX12_87_12 (ty := .int) ⟨_, _, _, rfl, rfl, by decide +kernel⟩ dX12_all_120 (hl.n (k := 45) (by decide)) (hl.k (k := 45) (by decide)) (by decide) rfl rfl (τ := (zuX (zuX (zuX (zuX (zuX (zuX (zuX (zuX σ 47 (va_cpy (zX σ 62) (zX σ 47) 0 0 48)) 48 (va_cpy (zX σ 62) (zX σ 48) 48 0 4)) 49 (va_cpy (zX σ 62) (zX σ 49) 52 0 4)) 50 (va_cpy (zX σ 62) (zX σ 50) 56 0 4)) 51 (va_cpy (zX σ 62) (zX σ 51) 60 0 4)) 52 (va_cpy (zX σ 62) (zX σ 52) 64 0 8)) 53 (va_cpy (zX σ 62) (zX σ 53) 72 0 8)) 45 (upd (upd (upd (zX σ 45) 0 (zX σ 62 80)) 1 (zX σ 62 (80 + 1))) 2 (zX σ 62 (80 + 2))))) (by simp only [zX_self, zuX_uX]) ?_
  refine Z.aload_n B dX12_all_123 (v := .ref 45) rfl rfl ?_
  refine Z.aload_n B dX12_all_124 (v := .ref 62) rfl rfl ?_
  refine Z.iload_n B dX12_all_125 (x := nI 80) rfl ?_
  refine Z.iconst B dX12_all_126 (v := nI 3) rfl ?_
  refine Z.iaddN B dX12_all_127 (a := 80) (b := 3) ?_
  refine Z.iald (σ := (zuX (zuX (zuX (zuX (zuX (zuX (zuX (zuX σ 47 (va_cpy (zX σ 62) (zX σ 47) 0 0 48)) 48 (va_cpy (zX σ 62) (zX σ 48) 48 0 4)) 49 (va_cpy (zX σ 62) (zX σ 49) 52 0 4)) 50 (va_cpy (zX σ 62) (zX σ 50) 56 0 4)) 51 (va_cpy (zX σ 62) (zX σ 51) 60 0 4)) 52 (va_cpy (zX σ 62) (zX σ 52) 64 0 8)) 53 (va_cpy (zX σ 62) (zX σ 53) 72 0 8)) 45 (upd (upd (upd (zX σ 45) 0 (zX σ 62 80)) 1 (zX σ 62 (80 + 1))) 2 (zX σ 62 (80 + 2))))) B dX12_all_128 (n := 90) (hl.n (k := 62) (by decide)) (hl.k (k := 62) (by decide)) (hl.l (k := 62) (by decide)) (by decide) (j := 80 + 3) rfl (by omega) (v := (zX σ 62 (80 + 3))) rfl ?_
  refine Z.putI (σ := (zuX (zuX (zuX (zuX (zuX (zuX (zuX (zuX σ 47 (va_cpy (zX σ 62) (zX σ 47) 0 0 48)) 48 (va_cpy (zX σ 62) (zX σ 48) 48 0 4)) 49 (va_cpy (zX σ 62) (zX σ 49) 52 0 4)) 50 (va_cpy (zX σ 62) (zX σ 50) 56 0 4)) 51 (va_cpy (zX σ 62) (zX σ 51) 60 0 4)) 52 (va_cpy (zX σ 62) (zX σ 52) 64 0 8)) 53 (va_cpy (zX σ 62) (zX σ 53) 72 0 8)) 45 (upd (upd (upd (zX σ 45) 0 (zX σ 62 80)) 1 (zX σ 62 (80 + 1))) 2 (zX σ 62 (80 + 2))))) B fX12_7_12 (ty := .int) ⟨_, _, _, rfl, rfl, by decide +kernel⟩ dX12_all_129 (hl.n (k := 45) (by decide)) (hl.k (k := 45) (by decide)) (by decide) rfl rfl (τ := (zuX (zuX (zuX (zuX (zuX (zuX (zuX (zuX σ 47 (va_cpy (zX σ 62) (zX σ 47) 0 0 48)) 48 (va_cpy (zX σ 62) (zX σ 48) 48 0 4)) 49 (va_cpy (zX σ 62) (zX σ 49) 52 0 4)) 50 (va_cpy (zX σ 62) (zX σ 50) 56 0 4)) 51 (va_cpy (zX σ 62) (zX σ 51) 60 0 4)) 52 (va_cpy (zX σ 62) (zX σ 52) 64 0 8)) 53 (va_cpy (zX σ 62) (zX σ 53) 72 0 8)) 45 (upd (upd (upd (upd (zX σ 45) 0 (zX σ 62 80)) 1 (zX σ 62 (80 + 1))) 2 (zX σ 62 (80 + 2))) 3 (zX σ 62 (80 + 3))))) (by simp only [zX_self, zuX_uX]) ?_
  refine Z.goto B dX12_all_132 (tgt := 169) rfl ?_
  refine Z.vret B Rt dX12_all_169 rfl (by decide) (by decide) ?_
  exact ⟨rfl, rfl⟩

theorem t_keeps_s_47_63 {σ : zSt} (hl : Lay σ) : Dt mX12_keeps [.ref 45, .ref 47, .int (nI 48), .ref 63, .int (nI 0), .int (zb false)] σ (some (.int (nI (0 + 48)))) (zuX σ 63 (va_cpy (zX σ 47) (zX σ 63) 0 0 48)) := by
  refine Dt.of (by decide) (Nat.le_of_ble_eq_true rfl) fun κ B Rt => ?_
  show Z κ 0 0 σ 0 [(0, .ref 45), (1, .ref 47), (2, .int (nI 48)), (3, .ref 63), (4, .int (nI 0)), (5, .int (zb false))] []
  refine Z.iconst B dX12_keeps_0 (v := nI 0) rfl ?_
  refine Z.istore B dX12_keeps_1 (by decide) (L' := [(0, .ref 45), (1, .ref 47), (2, .int (nI 48)), (3, .ref 63), (4, .int (nI 0)), (5, .int (zb false)), (6, .int (nI 0))]) rfl ?_
  have hloop3 : ∀ i : Nat, i ≤ 48 → Z κ 0 0 (zuX σ 63 (va_cpy (zX σ 47) (zX σ 63) 0 0 i)) 3 [(0, .ref 45), (1, .ref 47), (2, .int (nI 48)), (3, .ref 63), (4, .int (nI 0)), (5, .int (zb false)), (6, .int (nI i))] [] := by
    refine z_loop (fun i => 48 - i) (fun i ih hi => ?_)
    refine Z.iload B dX12_keeps_3 (x := nI i) rfl ?_
    refine Z.iload_n B dX12_keeps_5 (x := nI 48) rfl ?_
    refine Z.icmp_geN B dX12_keeps_6 (tgt := 45) rfl (by omega) (by omega) (fun h6 => ?_) (fun h6 => ?_)
    · skip
      obtain rfl : 48 = i := by omega
      refine Z.iload B dX12_keeps_45 (x := nI 0) rfl ?_
      refine Z.iload_n B dX12_keeps_47 (x := nI 48) rfl ?_
      refine Z.iaddN B dX12_keeps_48 (a := 0) (b := 48) ?_
      refine Z.iret B Rt dX12_keeps_49 (ty := .int) rfl rfl (by decide) (by decide) ?_
      exact ⟨rfl, rfl⟩
    · skip
      refine Z.iload B dX12_keeps_9 (x := zb false) rfl ?_
      refine Z.if_eqB B dX12_keeps_11 (tgt := 28) rfl (fun h11 => ?_) (fun h11 => by cases h11)
      refine Z.aload_n B dX12_keeps_28 (v := .ref 63) rfl rfl ?_
      refine Z.iload B dX12_keeps_29 (x := nI 0) rfl ?_
      refine Z.iload B dX12_keeps_31 (x := nI i) rfl ?_
      refine Z.iaddN B dX12_keeps_33 (a := 0) (b := i) ?_
      refine Z.aload_n B dX12_keeps_34 (v := .ref 47) rfl rfl ?_
      refine Z.iload B dX12_keeps_35 (x := nI i) rfl ?_
      refine Z.iald (σ := (zuX σ 63 (va_cpy (zX σ 47) (zX σ 63) 0 0 i))) B dX12_keeps_37 (n := 48) (hl.n (k := 47) (by decide)) (hl.k (k := 47) (by decide)) (hl.l (k := 47) (by decide)) (by decide) (j := i) rfl (by omega) (v := (zX σ 47 i)) rfl ?_
      refine Z.iast (σ := (zuX σ 63 (va_cpy (zX σ 47) (zX σ 63) 0 0 i))) B dX12_keeps_38 (n := 90) (hl.n (k := 63) (by decide)) (hl.k (k := 63) (by decide)) (hl.l (k := 63) (by decide)) (by decide) (j := 0 + i) rfl (by omega) (τ := (zuX σ 63 (va_cpy (zX σ 47) (zX σ 63) 0 0 (i + 1)))) (by rw [zX_self, zuX_uX, cpy_s (by rw [Nat.zero_add])]) ?_
      refine Z.iincN B dX12_keeps_39 (by decide) (a := i) rfl (L' := [(0, .ref 45), (1, .ref 47), (2, .int (nI 48)), (3, .ref 63), (4, .int (nI 0)), (5, .int (zb false)), (6, .int (nI (i + 1)))]) rfl ?_
      refine Z.goto B dX12_keeps_42 (tgt := 3) rfl ?_
      exact ih (i + 1) (by omega) (by omega)
  have h0 := hloop3 0 (Nat.zero_le _)
  rw [cpy_0, zuX_id] at h0
  exact h0

theorem t_keeps_b_47_63 {σ : zSt} (hl : Lay σ) : Dt mX12_keeps [.ref 45, .ref 47, .int (nI 48), .ref 63, .int (nI 0), .int (zb true)] σ (some (.int (nI (0 + 48)))) (zuX σ 47 (va_cpy (zX σ 63) (zX σ 47) 0 0 48)) := by
  refine Dt.of (by decide) (Nat.le_of_ble_eq_true rfl) fun κ B Rt => ?_
  show Z κ 0 0 σ 0 [(0, .ref 45), (1, .ref 47), (2, .int (nI 48)), (3, .ref 63), (4, .int (nI 0)), (5, .int (zb true))] []
  refine Z.iconst B dX12_keeps_0 (v := nI 0) rfl ?_
  refine Z.istore B dX12_keeps_1 (by decide) (L' := [(0, .ref 45), (1, .ref 47), (2, .int (nI 48)), (3, .ref 63), (4, .int (nI 0)), (5, .int (zb true)), (6, .int (nI 0))]) rfl ?_
  have hloop3 : ∀ i : Nat, i ≤ 48 → Z κ 0 0 (zuX σ 47 (va_cpy (zX σ 63) (zX σ 47) 0 0 i)) 3 [(0, .ref 45), (1, .ref 47), (2, .int (nI 48)), (3, .ref 63), (4, .int (nI 0)), (5, .int (zb true)), (6, .int (nI i))] [] := by
    refine z_loop (fun i => 48 - i) (fun i ih hi => ?_)
    refine Z.iload B dX12_keeps_3 (x := nI i) rfl ?_
    refine Z.iload_n B dX12_keeps_5 (x := nI 48) rfl ?_
    refine Z.icmp_geN B dX12_keeps_6 (tgt := 45) rfl (by omega) (by omega) (fun h6 => ?_) (fun h6 => ?_)
    · skip
      obtain rfl : 48 = i := by omega
      refine Z.iload B dX12_keeps_45 (x := nI 0) rfl ?_
      refine Z.iload_n B dX12_keeps_47 (x := nI 48) rfl ?_
      refine Z.iaddN B dX12_keeps_48 (a := 0) (b := 48) ?_
      refine Z.iret B Rt dX12_keeps_49 (ty := .int) rfl rfl (by decide) (by decide) ?_
      exact ⟨rfl, rfl⟩
    · skip
      refine Z.iload B dX12_keeps_9 (x := zb true) rfl ?_
      refine Z.if_eqB B dX12_keeps_11 (tgt := 28) rfl (fun h11 => by cases h11) (fun h11 => ?_)
      refine Z.aload_n B dX12_keeps_14 (v := .ref 47) rfl rfl ?_
      refine Z.iload B dX12_keeps_15 (x := nI i) rfl ?_
      refine Z.aload_n B dX12_keeps_17 (v := .ref 63) rfl rfl ?_
      refine Z.iload B dX12_keeps_18 (x := nI 0) rfl ?_
      refine Z.iload B dX12_keeps_20 (x := nI i) rfl ?_
      refine Z.iaddN B dX12_keeps_22 (a := 0) (b := i) ?_
      refine Z.iald (σ := (zuX σ 47 (va_cpy (zX σ 63) (zX σ 47) 0 0 i))) B dX12_keeps_23 (n := 90) (hl.n (k := 63) (by decide)) (hl.k (k := 63) (by decide)) (hl.l (k := 63) (by decide)) (by decide) (j := 0 + i) rfl (by omega) (v := (zX σ 63 (0 + i))) rfl ?_
      refine Z.iast (σ := (zuX σ 47 (va_cpy (zX σ 63) (zX σ 47) 0 0 i))) B dX12_keeps_24 (n := 48) (hl.n (k := 47) (by decide)) (hl.k (k := 47) (by decide)) (hl.l (k := 47) (by decide)) (by decide) (j := 0 + i) (by rw [Nat.zero_add]) (by omega) (τ := (zuX σ 47 (va_cpy (zX σ 63) (zX σ 47) 0 0 (i + 1)))) (by rw [zX_self, zuX_uX, cpy_s rfl]) ?_
      refine Z.goto B dX12_keeps_25 (tgt := 39) rfl ?_
      refine Z.iincN B dX12_keeps_39 (by decide) (a := i) rfl (L' := [(0, .ref 45), (1, .ref 47), (2, .int (nI 48)), (3, .ref 63), (4, .int (nI 0)), (5, .int (zb true)), (6, .int (nI (i + 1)))]) rfl ?_
      refine Z.goto B dX12_keeps_42 (tgt := 3) rfl ?_
      exact ih (i + 1) (by omega) (by omega)
  have h0 := hloop3 0 (Nat.zero_le _)
  rw [cpy_0, zuX_id] at h0
  exact h0

theorem t_keeps_s_48_63 {σ : zSt} (hl : Lay σ) : Dt mX12_keeps [.ref 45, .ref 48, .int (nI 4), .ref 63, .int (nI 48), .int (zb false)] σ (some (.int (nI (48 + 4)))) (zuX σ 63 (va_cpy (zX σ 48) (zX σ 63) 0 48 4)) := by
  refine Dt.of (by decide) (Nat.le_of_ble_eq_true rfl) fun κ B Rt => ?_
  show Z κ 0 0 σ 0 [(0, .ref 45), (1, .ref 48), (2, .int (nI 4)), (3, .ref 63), (4, .int (nI 48)), (5, .int (zb false))] []
  refine Z.iconst B dX12_keeps_0 (v := nI 0) rfl ?_
  refine Z.istore B dX12_keeps_1 (by decide) (L' := [(0, .ref 45), (1, .ref 48), (2, .int (nI 4)), (3, .ref 63), (4, .int (nI 48)), (5, .int (zb false)), (6, .int (nI 0))]) rfl ?_
  have hloop3 : ∀ i : Nat, i ≤ 4 → Z κ 0 0 (zuX σ 63 (va_cpy (zX σ 48) (zX σ 63) 0 48 i)) 3 [(0, .ref 45), (1, .ref 48), (2, .int (nI 4)), (3, .ref 63), (4, .int (nI 48)), (5, .int (zb false)), (6, .int (nI i))] [] := by
    refine z_loop (fun i => 4 - i) (fun i ih hi => ?_)
    refine Z.iload B dX12_keeps_3 (x := nI i) rfl ?_
    refine Z.iload_n B dX12_keeps_5 (x := nI 4) rfl ?_
    refine Z.icmp_geN B dX12_keeps_6 (tgt := 45) rfl (by omega) (by omega) (fun h6 => ?_) (fun h6 => ?_)
    · skip
      obtain rfl : 4 = i := by omega
      refine Z.iload B dX12_keeps_45 (x := nI 48) rfl ?_
      refine Z.iload_n B dX12_keeps_47 (x := nI 4) rfl ?_
      refine Z.iaddN B dX12_keeps_48 (a := 48) (b := 4) ?_
      refine Z.iret B Rt dX12_keeps_49 (ty := .int) rfl rfl (by decide) (by decide) ?_
      exact ⟨rfl, rfl⟩
    · skip
      refine Z.iload B dX12_keeps_9 (x := zb false) rfl ?_
      refine Z.if_eqB B dX12_keeps_11 (tgt := 28) rfl (fun h11 => ?_) (fun h11 => by cases h11)
      refine Z.aload_n B dX12_keeps_28 (v := .ref 63) rfl rfl ?_
      refine Z.iload B dX12_keeps_29 (x := nI 48) rfl ?_
      refine Z.iload B dX12_keeps_31 (x := nI i) rfl ?_
      refine Z.iaddN B dX12_keeps_33 (a := 48) (b := i) ?_
      refine Z.aload_n B dX12_keeps_34 (v := .ref 48) rfl rfl ?_
      refine Z.iload B dX12_keeps_35 (x := nI i) rfl ?_
      refine Z.iald (σ := (zuX σ 63 (va_cpy (zX σ 48) (zX σ 63) 0 48 i))) B dX12_keeps_37 (n := 4) (hl.n (k := 48) (by decide)) (hl.k (k := 48) (by decide)) (hl.l (k := 48) (by decide)) (by decide) (j := i) rfl (by omega) (v := (zX σ 48 i)) rfl ?_
      refine Z.iast (σ := (zuX σ 63 (va_cpy (zX σ 48) (zX σ 63) 0 48 i))) B dX12_keeps_38 (n := 90) (hl.n (k := 63) (by decide)) (hl.k (k := 63) (by decide)) (hl.l (k := 63) (by decide)) (by decide) (j := 48 + i) rfl (by omega) (τ := (zuX σ 63 (va_cpy (zX σ 48) (zX σ 63) 0 48 (i + 1)))) (by rw [zX_self, zuX_uX, cpy_s (by rw [Nat.zero_add])]) ?_
      refine Z.iincN B dX12_keeps_39 (by decide) (a := i) rfl (L' := [(0, .ref 45), (1, .ref 48), (2, .int (nI 4)), (3, .ref 63), (4, .int (nI 48)), (5, .int (zb false)), (6, .int (nI (i + 1)))]) rfl ?_
      refine Z.goto B dX12_keeps_42 (tgt := 3) rfl ?_
      exact ih (i + 1) (by omega) (by omega)
  have h0 := hloop3 0 (Nat.zero_le _)
  rw [cpy_0, zuX_id] at h0
  exact h0

theorem t_keeps_b_48_63 {σ : zSt} (hl : Lay σ) : Dt mX12_keeps [.ref 45, .ref 48, .int (nI 4), .ref 63, .int (nI 48), .int (zb true)] σ (some (.int (nI (48 + 4)))) (zuX σ 48 (va_cpy (zX σ 63) (zX σ 48) 48 0 4)) := by
  refine Dt.of (by decide) (Nat.le_of_ble_eq_true rfl) fun κ B Rt => ?_
  show Z κ 0 0 σ 0 [(0, .ref 45), (1, .ref 48), (2, .int (nI 4)), (3, .ref 63), (4, .int (nI 48)), (5, .int (zb true))] []
  refine Z.iconst B dX12_keeps_0 (v := nI 0) rfl ?_
  refine Z.istore B dX12_keeps_1 (by decide) (L' := [(0, .ref 45), (1, .ref 48), (2, .int (nI 4)), (3, .ref 63), (4, .int (nI 48)), (5, .int (zb true)), (6, .int (nI 0))]) rfl ?_
  have hloop3 : ∀ i : Nat, i ≤ 4 → Z κ 0 0 (zuX σ 48 (va_cpy (zX σ 63) (zX σ 48) 48 0 i)) 3 [(0, .ref 45), (1, .ref 48), (2, .int (nI 4)), (3, .ref 63), (4, .int (nI 48)), (5, .int (zb true)), (6, .int (nI i))] [] := by
    refine z_loop (fun i => 4 - i) (fun i ih hi => ?_)
    refine Z.iload B dX12_keeps_3 (x := nI i) rfl ?_
    refine Z.iload_n B dX12_keeps_5 (x := nI 4) rfl ?_
    refine Z.icmp_geN B dX12_keeps_6 (tgt := 45) rfl (by omega) (by omega) (fun h6 => ?_) (fun h6 => ?_)
    · skip
      obtain rfl : 4 = i := by omega
      refine Z.iload B dX12_keeps_45 (x := nI 48) rfl ?_
      refine Z.iload_n B dX12_keeps_47 (x := nI 4) rfl ?_
      refine Z.iaddN B dX12_keeps_48 (a := 48) (b := 4) ?_
      refine Z.iret B Rt dX12_keeps_49 (ty := .int) rfl rfl (by decide) (by decide) ?_
      exact ⟨rfl, rfl⟩
    · skip
      refine Z.iload B dX12_keeps_9 (x := zb true) rfl ?_
      refine Z.if_eqB B dX12_keeps_11 (tgt := 28) rfl (fun h11 => by cases h11) (fun h11 => ?_)
      refine Z.aload_n B dX12_keeps_14 (v := .ref 48) rfl rfl ?_
      refine Z.iload B dX12_keeps_15 (x := nI i) rfl ?_
      refine Z.aload_n B dX12_keeps_17 (v := .ref 63) rfl rfl ?_
      refine Z.iload B dX12_keeps_18 (x := nI 48) rfl ?_
      refine Z.iload B dX12_keeps_20 (x := nI i) rfl ?_
      refine Z.iaddN B dX12_keeps_22 (a := 48) (b := i) ?_
      refine Z.iald (σ := (zuX σ 48 (va_cpy (zX σ 63) (zX σ 48) 48 0 i))) B dX12_keeps_23 (n := 90) (hl.n (k := 63) (by decide)) (hl.k (k := 63) (by decide)) (hl.l (k := 63) (by decide)) (by decide) (j := 48 + i) rfl (by omega) (v := (zX σ 63 (48 + i))) rfl ?_
      refine Z.iast (σ := (zuX σ 48 (va_cpy (zX σ 63) (zX σ 48) 48 0 i))) B dX12_keeps_24 (n := 4) (hl.n (k := 48) (by decide)) (hl.k (k := 48) (by decide)) (hl.l (k := 48) (by decide)) (by decide) (j := 0 + i) (by rw [Nat.zero_add]) (by omega) (τ := (zuX σ 48 (va_cpy (zX σ 63) (zX σ 48) 48 0 (i + 1)))) (by rw [zX_self, zuX_uX, cpy_s rfl]) ?_
      refine Z.goto B dX12_keeps_25 (tgt := 39) rfl ?_
      refine Z.iincN B dX12_keeps_39 (by decide) (a := i) rfl (L' := [(0, .ref 45), (1, .ref 48), (2, .int (nI 4)), (3, .ref 63), (4, .int (nI 48)), (5, .int (zb true)), (6, .int (nI (i + 1)))]) rfl ?_
      refine Z.goto B dX12_keeps_42 (tgt := 3) rfl ?_
      exact ih (i + 1) (by omega) (by omega)
  have h0 := hloop3 0 (Nat.zero_le _)
  rw [cpy_0, zuX_id] at h0
  exact h0

theorem t_keeps_s_49_63 {σ : zSt} (hl : Lay σ) : Dt mX12_keeps [.ref 45, .ref 49, .int (nI 4), .ref 63, .int (nI 52), .int (zb false)] σ (some (.int (nI (52 + 4)))) (zuX σ 63 (va_cpy (zX σ 49) (zX σ 63) 0 52 4)) := by
  refine Dt.of (by decide) (Nat.le_of_ble_eq_true rfl) fun κ B Rt => ?_
  show Z κ 0 0 σ 0 [(0, .ref 45), (1, .ref 49), (2, .int (nI 4)), (3, .ref 63), (4, .int (nI 52)), (5, .int (zb false))] []
  refine Z.iconst B dX12_keeps_0 (v := nI 0) rfl ?_
  refine Z.istore B dX12_keeps_1 (by decide) (L' := [(0, .ref 45), (1, .ref 49), (2, .int (nI 4)), (3, .ref 63), (4, .int (nI 52)), (5, .int (zb false)), (6, .int (nI 0))]) rfl ?_
  have hloop3 : ∀ i : Nat, i ≤ 4 → Z κ 0 0 (zuX σ 63 (va_cpy (zX σ 49) (zX σ 63) 0 52 i)) 3 [(0, .ref 45), (1, .ref 49), (2, .int (nI 4)), (3, .ref 63), (4, .int (nI 52)), (5, .int (zb false)), (6, .int (nI i))] [] := by
    refine z_loop (fun i => 4 - i) (fun i ih hi => ?_)
    refine Z.iload B dX12_keeps_3 (x := nI i) rfl ?_
    refine Z.iload_n B dX12_keeps_5 (x := nI 4) rfl ?_
    refine Z.icmp_geN B dX12_keeps_6 (tgt := 45) rfl (by omega) (by omega) (fun h6 => ?_) (fun h6 => ?_)
    · skip
      obtain rfl : 4 = i := by omega
      refine Z.iload B dX12_keeps_45 (x := nI 52) rfl ?_
      refine Z.iload_n B dX12_keeps_47 (x := nI 4) rfl ?_
      refine Z.iaddN B dX12_keeps_48 (a := 52) (b := 4) ?_
      refine Z.iret B Rt dX12_keeps_49 (ty := .int) rfl rfl (by decide) (by decide) ?_
      exact ⟨rfl, rfl⟩
    · skip
      refine Z.iload B dX12_keeps_9 (x := zb false) rfl ?_
      refine Z.if_eqB B dX12_keeps_11 (tgt := 28) rfl (fun h11 => ?_) (fun h11 => by cases h11)
      refine Z.aload_n B dX12_keeps_28 (v := .ref 63) rfl rfl ?_
      refine Z.iload B dX12_keeps_29 (x := nI 52) rfl ?_
      refine Z.iload B dX12_keeps_31 (x := nI i) rfl ?_
      refine Z.iaddN B dX12_keeps_33 (a := 52) (b := i) ?_
      refine Z.aload_n B dX12_keeps_34 (v := .ref 49) rfl rfl ?_
      refine Z.iload B dX12_keeps_35 (x := nI i) rfl ?_
      refine Z.iald (σ := (zuX σ 63 (va_cpy (zX σ 49) (zX σ 63) 0 52 i))) B dX12_keeps_37 (n := 4) (hl.n (k := 49) (by decide)) (hl.k (k := 49) (by decide)) (hl.l (k := 49) (by decide)) (by decide) (j := i) rfl (by omega) (v := (zX σ 49 i)) rfl ?_
      refine Z.iast (σ := (zuX σ 63 (va_cpy (zX σ 49) (zX σ 63) 0 52 i))) B dX12_keeps_38 (n := 90) (hl.n (k := 63) (by decide)) (hl.k (k := 63) (by decide)) (hl.l (k := 63) (by decide)) (by decide) (j := 52 + i) rfl (by omega) (τ := (zuX σ 63 (va_cpy (zX σ 49) (zX σ 63) 0 52 (i + 1)))) (by rw [zX_self, zuX_uX, cpy_s (by rw [Nat.zero_add])]) ?_
      refine Z.iincN B dX12_keeps_39 (by decide) (a := i) rfl (L' := [(0, .ref 45), (1, .ref 49), (2, .int (nI 4)), (3, .ref 63), (4, .int (nI 52)), (5, .int (zb false)), (6, .int (nI (i + 1)))]) rfl ?_
      refine Z.goto B dX12_keeps_42 (tgt := 3) rfl ?_
      exact ih (i + 1) (by omega) (by omega)
  have h0 := hloop3 0 (Nat.zero_le _)
  rw [cpy_0, zuX_id] at h0
  exact h0

theorem t_keeps_b_49_63 {σ : zSt} (hl : Lay σ) : Dt mX12_keeps [.ref 45, .ref 49, .int (nI 4), .ref 63, .int (nI 52), .int (zb true)] σ (some (.int (nI (52 + 4)))) (zuX σ 49 (va_cpy (zX σ 63) (zX σ 49) 52 0 4)) := by
  refine Dt.of (by decide) (Nat.le_of_ble_eq_true rfl) fun κ B Rt => ?_
  show Z κ 0 0 σ 0 [(0, .ref 45), (1, .ref 49), (2, .int (nI 4)), (3, .ref 63), (4, .int (nI 52)), (5, .int (zb true))] []
  refine Z.iconst B dX12_keeps_0 (v := nI 0) rfl ?_
  refine Z.istore B dX12_keeps_1 (by decide) (L' := [(0, .ref 45), (1, .ref 49), (2, .int (nI 4)), (3, .ref 63), (4, .int (nI 52)), (5, .int (zb true)), (6, .int (nI 0))]) rfl ?_
  have hloop3 : ∀ i : Nat, i ≤ 4 → Z κ 0 0 (zuX σ 49 (va_cpy (zX σ 63) (zX σ 49) 52 0 i)) 3 [(0, .ref 45), (1, .ref 49), (2, .int (nI 4)), (3, .ref 63), (4, .int (nI 52)), (5, .int (zb true)), (6, .int (nI i))] [] := by
    refine z_loop (fun i => 4 - i) (fun i ih hi => ?_)
    refine Z.iload B dX12_keeps_3 (x := nI i) rfl ?_
    refine Z.iload_n B dX12_keeps_5 (x := nI 4) rfl ?_
    refine Z.icmp_geN B dX12_keeps_6 (tgt := 45) rfl (by omega) (by omega) (fun h6 => ?_) (fun h6 => ?_)
    · skip
      obtain rfl : 4 = i := by omega
      refine Z.iload B dX12_keeps_45 (x := nI 52) rfl ?_
      refine Z.iload_n B dX12_keeps_47 (x := nI 4) rfl ?_
      refine Z.iaddN B dX12_keeps_48 (a := 52) (b := 4) ?_
      refine Z.iret B Rt dX12_keeps_49 (ty := .int) rfl rfl (by decide) (by decide) ?_
      exact ⟨rfl, rfl⟩
    · skip
      refine Z.iload B dX12_keeps_9 (x := zb true) rfl ?_
      refine Z.if_eqB B dX12_keeps_11 (tgt := 28) rfl (fun h11 => by cases h11) (fun h11 => ?_)
      refine Z.aload_n B dX12_keeps_14 (v := .ref 49) rfl rfl ?_
      refine Z.iload B dX12_keeps_15 (x := nI i) rfl ?_
      refine Z.aload_n B dX12_keeps_17 (v := .ref 63) rfl rfl ?_
      refine Z.iload B dX12_keeps_18 (x := nI 52) rfl ?_
      refine Z.iload B dX12_keeps_20 (x := nI i) rfl ?_
      refine Z.iaddN B dX12_keeps_22 (a := 52) (b := i) ?_
      refine Z.iald (σ := (zuX σ 49 (va_cpy (zX σ 63) (zX σ 49) 52 0 i))) B dX12_keeps_23 (n := 90) (hl.n (k := 63) (by decide)) (hl.k (k := 63) (by decide)) (hl.l (k := 63) (by decide)) (by decide) (j := 52 + i) rfl (by omega) (v := (zX σ 63 (52 + i))) rfl ?_
      refine Z.iast (σ := (zuX σ 49 (va_cpy (zX σ 63) (zX σ 49) 52 0 i))) B dX12_keeps_24 (n := 4) (hl.n (k := 49) (by decide)) (hl.k (k := 49) (by decide)) (hl.l (k := 49) (by decide)) (by decide) (j := 0 + i) (by rw [Nat.zero_add]) (by omega) (τ := (zuX σ 49 (va_cpy (zX σ 63) (zX σ 49) 52 0 (i + 1)))) (by rw [zX_self, zuX_uX, cpy_s rfl]) ?_
      refine Z.goto B dX12_keeps_25 (tgt := 39) rfl ?_
      refine Z.iincN B dX12_keeps_39 (by decide) (a := i) rfl (L' := [(0, .ref 45), (1, .ref 49), (2, .int (nI 4)), (3, .ref 63), (4, .int (nI 52)), (5, .int (zb true)), (6, .int (nI (i + 1)))]) rfl ?_
      refine Z.goto B dX12_keeps_42 (tgt := 3) rfl ?_
      exact ih (i + 1) (by omega) (by omega)
  have h0 := hloop3 0 (Nat.zero_le _)
  rw [cpy_0, zuX_id] at h0
  exact h0

theorem t_keeps_s_50_63 {σ : zSt} (hl : Lay σ) : Dt mX12_keeps [.ref 45, .ref 50, .int (nI 4), .ref 63, .int (nI 56), .int (zb false)] σ (some (.int (nI (56 + 4)))) (zuX σ 63 (va_cpy (zX σ 50) (zX σ 63) 0 56 4)) := by
  refine Dt.of (by decide) (Nat.le_of_ble_eq_true rfl) fun κ B Rt => ?_
  show Z κ 0 0 σ 0 [(0, .ref 45), (1, .ref 50), (2, .int (nI 4)), (3, .ref 63), (4, .int (nI 56)), (5, .int (zb false))] []
  refine Z.iconst B dX12_keeps_0 (v := nI 0) rfl ?_
  refine Z.istore B dX12_keeps_1 (by decide) (L' := [(0, .ref 45), (1, .ref 50), (2, .int (nI 4)), (3, .ref 63), (4, .int (nI 56)), (5, .int (zb false)), (6, .int (nI 0))]) rfl ?_
  have hloop3 : ∀ i : Nat, i ≤ 4 → Z κ 0 0 (zuX σ 63 (va_cpy (zX σ 50) (zX σ 63) 0 56 i)) 3 [(0, .ref 45), (1, .ref 50), (2, .int (nI 4)), (3, .ref 63), (4, .int (nI 56)), (5, .int (zb false)), (6, .int (nI i))] [] := by
    refine z_loop (fun i => 4 - i) (fun i ih hi => ?_)
    refine Z.iload B dX12_keeps_3 (x := nI i) rfl ?_
    refine Z.iload_n B dX12_keeps_5 (x := nI 4) rfl ?_
    refine Z.icmp_geN B dX12_keeps_6 (tgt := 45) rfl (by omega) (by omega) (fun h6 => ?_) (fun h6 => ?_)
    · skip
      obtain rfl : 4 = i := by omega
      refine Z.iload B dX12_keeps_45 (x := nI 56) rfl ?_
      refine Z.iload_n B dX12_keeps_47 (x := nI 4) rfl ?_
      refine Z.iaddN B dX12_keeps_48 (a := 56) (b := 4) ?_
      refine Z.iret B Rt dX12_keeps_49 (ty := .int) rfl rfl (by decide) (by decide) ?_
      exact ⟨rfl, rfl⟩
    · skip
      refine Z.iload B dX12_keeps_9 (x := zb false) rfl ?_
      refine Z.if_eqB B dX12_keeps_11 (tgt := 28) rfl (fun h11 => ?_) (fun h11 => by cases h11)
      refine Z.aload_n B dX12_keeps_28 (v := .ref 63) rfl rfl ?_
      refine Z.iload B dX12_keeps_29 (x := nI 56) rfl ?_
      refine Z.iload B dX12_keeps_31 (x := nI i) rfl ?_
      refine Z.iaddN B dX12_keeps_33 (a := 56) (b := i) ?_
      refine Z.aload_n B dX12_keeps_34 (v := .ref 50) rfl rfl ?_
      refine Z.iload B dX12_keeps_35 (x := nI i) rfl ?_
      refine Z.iald (σ := (zuX σ 63 (va_cpy (zX σ 50) (zX σ 63) 0 56 i))) B dX12_keeps_37 (n := 4) (hl.n (k := 50) (by decide)) (hl.k (k := 50) (by decide)) (hl.l (k := 50) (by decide)) (by decide) (j := i) rfl (by omega) (v := (zX σ 50 i)) rfl ?_
      refine Z.iast (σ := (zuX σ 63 (va_cpy (zX σ 50) (zX σ 63) 0 56 i))) B dX12_keeps_38 (n := 90) (hl.n (k := 63) (by decide)) (hl.k (k := 63) (by decide)) (hl.l (k := 63) (by decide)) (by decide) (j := 56 + i) rfl (by omega) (τ := (zuX σ 63 (va_cpy (zX σ 50) (zX σ 63) 0 56 (i + 1)))) (by rw [zX_self, zuX_uX, cpy_s (by rw [Nat.zero_add])]) ?_
      refine Z.iincN B dX12_keeps_39 (by decide) (a := i) rfl (L' := [(0, .ref 45), (1, .ref 50), (2, .int (nI 4)), (3, .ref 63), (4, .int (nI 56)), (5, .int (zb false)), (6, .int (nI (i + 1)))]) rfl ?_
      refine Z.goto B dX12_keeps_42 (tgt := 3) rfl ?_
      exact ih (i + 1) (by omega) (by omega)
  have h0 := hloop3 0 (Nat.zero_le _)
  rw [cpy_0, zuX_id] at h0
  exact h0

theorem t_keeps_b_50_63 {σ : zSt} (hl : Lay σ) : Dt mX12_keeps [.ref 45, .ref 50, .int (nI 4), .ref 63, .int (nI 56), .int (zb true)] σ (some (.int (nI (56 + 4)))) (zuX σ 50 (va_cpy (zX σ 63) (zX σ 50) 56 0 4)) := by
  refine Dt.of (by decide) (Nat.le_of_ble_eq_true rfl) fun κ B Rt => ?_
  show Z κ 0 0 σ 0 [(0, .ref 45), (1, .ref 50), (2, .int (nI 4)), (3, .ref 63), (4, .int (nI 56)), (5, .int (zb true))] []
  refine Z.iconst B dX12_keeps_0 (v := nI 0) rfl ?_
  refine Z.istore B dX12_keeps_1 (by decide) (L' := [(0, .ref 45), (1, .ref 50), (2, .int (nI 4)), (3, .ref 63), (4, .int (nI 56)), (5, .int (zb true)), (6, .int (nI 0))]) rfl ?_
  have hloop3 : ∀ i : Nat, i ≤ 4 → Z κ 0 0 (zuX σ 50 (va_cpy (zX σ 63) (zX σ 50) 56 0 i)) 3 [(0, .ref 45), (1, .ref 50), (2, .int (nI 4)), (3, .ref 63), (4, .int (nI 56)), (5, .int (zb true)), (6, .int (nI i))] [] := by
    refine z_loop (fun i => 4 - i) (fun i ih hi => ?_)
    refine Z.iload B dX12_keeps_3 (x := nI i) rfl ?_
    refine Z.iload_n B dX12_keeps_5 (x := nI 4) rfl ?_
    refine Z.icmp_geN B dX12_keeps_6 (tgt := 45) rfl (by omega) (by omega) (fun h6 => ?_) (fun h6 => ?_)
    · skip
      obtain rfl : 4 = i := by omega
      refine Z.iload B dX12_keeps_45 (x := nI 56) rfl ?_
      refine Z.iload_n B dX12_keeps_47 (x := nI 4) rfl ?_
      refine Z.iaddN B dX12_keeps_48 (a := 56) (b := 4) ?_
      refine Z.iret B Rt dX12_keeps_49 (ty := .int) rfl rfl (by decide) (by decide) ?_
      exact ⟨rfl, rfl⟩
    · skip
      refine Z.iload B dX12_keeps_9 (x := zb true) rfl ?_
      refine Z.if_eqB B dX12_keeps_11 (tgt := 28) rfl (fun h11 => by cases h11) (fun h11 => ?_)
      refine Z.aload_n B dX12_keeps_14 (v := .ref 50) rfl rfl ?_
      refine Z.iload B dX12_keeps_15 (x := nI i) rfl ?_
      refine Z.aload_n B dX12_keeps_17 (v := .ref 63) rfl rfl ?_
      refine Z.iload B dX12_keeps_18 (x := nI 56) rfl ?_
      refine Z.iload B dX12_keeps_20 (x := nI i) rfl ?_
      refine Z.iaddN B dX12_keeps_22 (a := 56) (b := i) ?_
      refine Z.iald (σ := (zuX σ 50 (va_cpy (zX σ 63) (zX σ 50) 56 0 i))) B dX12_keeps_23 (n := 90) (hl.n (k := 63) (by decide)) (hl.k (k := 63) (by decide)) (hl.l (k := 63) (by decide)) (by decide) (j := 56 + i) rfl (by omega) (v := (zX σ 63 (56 + i))) rfl ?_
      refine Z.iast (σ := (zuX σ 50 (va_cpy (zX σ 63) (zX σ 50) 56 0 i))) B dX12_keeps_24 (n := 4) (hl.n (k := 50) (by decide)) (hl.k (k := 50) (by decide)) (hl.l (k := 50) (by decide)) (by decide) (j := 0 + i) (by rw [Nat.zero_add]) (by omega) (τ := (zuX σ 50 (va_cpy (zX σ 63) (zX σ 50) 56 0 (i + 1)))) (by rw [zX_self, zuX_uX, cpy_s rfl]) ?_
      refine Z.goto B dX12_keeps_25 (tgt := 39) rfl ?_
      refine Z.iincN B dX12_keeps_39 (by decide) (a := i) rfl (L' := [(0, .ref 45), (1, .ref 50), (2, .int (nI 4)), (3, .ref 63), (4, .int (nI 56)), (5, .int (zb true)), (6, .int (nI (i + 1)))]) rfl ?_
      refine Z.goto B dX12_keeps_42 (tgt := 3) rfl ?_
      exact ih (i + 1) (by omega) (by omega)
  have h0 := hloop3 0 (Nat.zero_le _)
  rw [cpy_0, zuX_id] at h0
  exact h0

theorem t_keeps_s_51_63 {σ : zSt} (hl : Lay σ) : Dt mX12_keeps [.ref 45, .ref 51, .int (nI 4), .ref 63, .int (nI 60), .int (zb false)] σ (some (.int (nI (60 + 4)))) (zuX σ 63 (va_cpy (zX σ 51) (zX σ 63) 0 60 4)) := by
  refine Dt.of (by decide) (Nat.le_of_ble_eq_true rfl) fun κ B Rt => ?_
  show Z κ 0 0 σ 0 [(0, .ref 45), (1, .ref 51), (2, .int (nI 4)), (3, .ref 63), (4, .int (nI 60)), (5, .int (zb false))] []
  refine Z.iconst B dX12_keeps_0 (v := nI 0) rfl ?_
  refine Z.istore B dX12_keeps_1 (by decide) (L' := [(0, .ref 45), (1, .ref 51), (2, .int (nI 4)), (3, .ref 63), (4, .int (nI 60)), (5, .int (zb false)), (6, .int (nI 0))]) rfl ?_
  have hloop3 : ∀ i : Nat, i ≤ 4 → Z κ 0 0 (zuX σ 63 (va_cpy (zX σ 51) (zX σ 63) 0 60 i)) 3 [(0, .ref 45), (1, .ref 51), (2, .int (nI 4)), (3, .ref 63), (4, .int (nI 60)), (5, .int (zb false)), (6, .int (nI i))] [] := by
    refine z_loop (fun i => 4 - i) (fun i ih hi => ?_)
    refine Z.iload B dX12_keeps_3 (x := nI i) rfl ?_
    refine Z.iload_n B dX12_keeps_5 (x := nI 4) rfl ?_
    refine Z.icmp_geN B dX12_keeps_6 (tgt := 45) rfl (by omega) (by omega) (fun h6 => ?_) (fun h6 => ?_)
    · skip
      obtain rfl : 4 = i := by omega
      refine Z.iload B dX12_keeps_45 (x := nI 60) rfl ?_
      refine Z.iload_n B dX12_keeps_47 (x := nI 4) rfl ?_
      refine Z.iaddN B dX12_keeps_48 (a := 60) (b := 4) ?_
      refine Z.iret B Rt dX12_keeps_49 (ty := .int) rfl rfl (by decide) (by decide) ?_
      exact ⟨rfl, rfl⟩
    · skip
      refine Z.iload B dX12_keeps_9 (x := zb false) rfl ?_
      refine Z.if_eqB B dX12_keeps_11 (tgt := 28) rfl (fun h11 => ?_) (fun h11 => by cases h11)
      refine Z.aload_n B dX12_keeps_28 (v := .ref 63) rfl rfl ?_
      refine Z.iload B dX12_keeps_29 (x := nI 60) rfl ?_
      refine Z.iload B dX12_keeps_31 (x := nI i) rfl ?_
      refine Z.iaddN B dX12_keeps_33 (a := 60) (b := i) ?_
      refine Z.aload_n B dX12_keeps_34 (v := .ref 51) rfl rfl ?_
      refine Z.iload B dX12_keeps_35 (x := nI i) rfl ?_
      refine Z.iald (σ := (zuX σ 63 (va_cpy (zX σ 51) (zX σ 63) 0 60 i))) B dX12_keeps_37 (n := 4) (hl.n (k := 51) (by decide)) (hl.k (k := 51) (by decide)) (hl.l (k := 51) (by decide)) (by decide) (j := i) rfl (by omega) (v := (zX σ 51 i)) rfl ?_
      refine Z.iast (σ := (zuX σ 63 (va_cpy (zX σ 51) (zX σ 63) 0 60 i))) B dX12_keeps_38 (n := 90) (hl.n (k := 63) (by decide)) (hl.k (k := 63) (by decide)) (hl.l (k := 63) (by decide)) (by decide) (j := 60 + i) rfl (by omega) (τ := (zuX σ 63 (va_cpy (zX σ 51) (zX σ 63) 0 60 (i + 1)))) (by rw [zX_self, zuX_uX, cpy_s (by rw [Nat.zero_add])]) ?_
      refine Z.iincN B dX12_keeps_39 (by decide) (a := i) rfl (L' := [(0, .ref 45), (1, .ref 51), (2, .int (nI 4)), (3, .ref 63), (4, .int (nI 60)), (5, .int (zb false)), (6, .int (nI (i + 1)))]) rfl ?_
      refine Z.goto B dX12_keeps_42 (tgt := 3) rfl ?_
      exact ih (i + 1) (by omega) (by omega)
  have h0 := hloop3 0 (Nat.zero_le _)
  rw [cpy_0, zuX_id] at h0
  exact h0

theorem t_keeps_b_51_63 {σ : zSt} (hl : Lay σ) : Dt mX12_keeps [.ref 45, .ref 51, .int (nI 4), .ref 63, .int (nI 60), .int (zb true)] σ (some (.int (nI (60 + 4)))) (zuX σ 51 (va_cpy (zX σ 63) (zX σ 51) 60 0 4)) := by
  refine Dt.of (by decide) (Nat.le_of_ble_eq_true rfl) fun κ B Rt => ?_
  show Z κ 0 0 σ 0 [(0, .ref 45), (1, .ref 51), (2, .int (nI 4)), (3, .ref 63), (4, .int (nI 60)), (5, .int (zb true))] []
  refine Z.iconst B dX12_keeps_0 (v := nI 0) rfl ?_
  refine Z.istore B dX12_keeps_1 (by decide) (L' := [(0, .ref 45), (1, .ref 51), (2, .int (nI 4)), (3, .ref 63), (4, .int (nI 60)), (5, .int (zb true)), (6, .int (nI 0))]) rfl ?_
  have hloop3 : ∀ i : Nat, i ≤ 4 → Z κ 0 0 (zuX σ 51 (va_cpy (zX σ 63) (zX σ 51) 60 0 i)) 3 [(0, .ref 45), (1, .ref 51), (2, .int (nI 4)), (3, .ref 63), (4, .int (nI 60)), (5, .int (zb true)), (6, .int (nI i))] [] := by
    refine z_loop (fun i => 4 - i) (fun i ih hi => ?_)
    refine Z.iload B dX12_keeps_3 (x := nI i) rfl ?_
    refine Z.iload_n B dX12_keeps_5 (x := nI 4) rfl ?_
    refine Z.icmp_geN B dX12_keeps_6 (tgt := 45) rfl (by omega) (by omega) (fun h6 => ?_) (fun h6 => ?_)
    · skip
      obtain rfl : 4 = i := by omega
      refine Z.iload B dX12_keeps_45 (x := nI 60) rfl ?_
      refine Z.iload_n B dX12_keeps_47 (x := nI 4) rfl ?_
      refine Z.iaddN B dX12_keeps_48 (a := 60) (b := 4) ?_
      refine Z.iret B Rt dX12_keeps_49 (ty := .int) rfl rfl (by decide) (by decide) ?_
      exact ⟨rfl, rfl⟩
    · skip
      refine Z.iload B dX12_keeps_9 (x := zb true) rfl ?_
      refine Z.if_eqB B dX12_keeps_11 (tgt := 28) rfl (fun h11 => by cases h11) (fun h11 => ?_)
      refine Z.aload_n B dX12_keeps_14 (v := .ref 51) rfl rfl ?_
      refine Z.iload B dX12_keeps_15 (x := nI i) rfl ?_
      refine Z.aload_n B dX12_keeps_17 (v := .ref 63) rfl rfl ?_
      refine Z.iload B dX12_keeps_18 (x := nI 60) rfl ?_
      refine Z.iload B dX12_keeps_20 (x := nI i) rfl ?_
      refine Z.iaddN B dX12_keeps_22 (a := 60) (b := i) ?_
      refine Z.iald (σ := (zuX σ 51 (va_cpy (zX σ 63) (zX σ 51) 60 0 i))) B dX12_keeps_23 (n := 90) (hl.n (k := 63) (by decide)) (hl.k (k := 63) (by decide)) (hl.l (k := 63) (by decide)) (by decide) (j := 60 + i) rfl (by omega) (v := (zX σ 63 (60 + i))) rfl ?_
      refine Z.iast (σ := (zuX σ 51 (va_cpy (zX σ 63) (zX σ 51) 60 0 i))) B dX12_keeps_24 (n := 4) (hl.n (k := 51) (by decide)) (hl.k (k := 51) (by decide)) (hl.l (k := 51) (by decide)) (by decide) (j := 0 + i) (by rw [Nat.zero_add]) (by omega) (τ := (zuX σ 51 (va_cpy (zX σ 63) (zX σ 51) 60 0 (i + 1)))) (by rw [zX_self, zuX_uX, cpy_s rfl]) ?_
      refine Z.goto B dX12_keeps_25 (tgt := 39) rfl ?_
      refine Z.iincN B dX12_keeps_39 (by decide) (a := i) rfl (L' := [(0, .ref 45), (1, .ref 51), (2, .int (nI 4)), (3, .ref 63), (4, .int (nI 60)), (5, .int (zb true)), (6, .int (nI (i + 1)))]) rfl ?_
      refine Z.goto B dX12_keeps_42 (tgt := 3) rfl ?_
      exact ih (i + 1) (by omega) (by omega)
  have h0 := hloop3 0 (Nat.zero_le _)
  rw [cpy_0, zuX_id] at h0
  exact h0

theorem t_keeps_s_52_63 {σ : zSt} (hl : Lay σ) : Dt mX12_keeps [.ref 45, .ref 52, .int (nI 8), .ref 63, .int (nI 64), .int (zb false)] σ (some (.int (nI (64 + 8)))) (zuX σ 63 (va_cpy (zX σ 52) (zX σ 63) 0 64 8)) := by
  refine Dt.of (by decide) (Nat.le_of_ble_eq_true rfl) fun κ B Rt => ?_
  show Z κ 0 0 σ 0 [(0, .ref 45), (1, .ref 52), (2, .int (nI 8)), (3, .ref 63), (4, .int (nI 64)), (5, .int (zb false))] []
  refine Z.iconst B dX12_keeps_0 (v := nI 0) rfl ?_
  refine Z.istore B dX12_keeps_1 (by decide) (L' := [(0, .ref 45), (1, .ref 52), (2, .int (nI 8)), (3, .ref 63), (4, .int (nI 64)), (5, .int (zb false)), (6, .int (nI 0))]) rfl ?_
  have hloop3 : ∀ i : Nat, i ≤ 8 → Z κ 0 0 (zuX σ 63 (va_cpy (zX σ 52) (zX σ 63) 0 64 i)) 3 [(0, .ref 45), (1, .ref 52), (2, .int (nI 8)), (3, .ref 63), (4, .int (nI 64)), (5, .int (zb false)), (6, .int (nI i))] [] := by
    refine z_loop (fun i => 8 - i) (fun i ih hi => ?_)
    refine Z.iload B dX12_keeps_3 (x := nI i) rfl ?_
    refine Z.iload_n B dX12_keeps_5 (x := nI 8) rfl ?_
    refine Z.icmp_geN B dX12_keeps_6 (tgt := 45) rfl (by omega) (by omega) (fun h6 => ?_) (fun h6 => ?_)
    · skip
      obtain rfl : 8 = i := by omega
      refine Z.iload B dX12_keeps_45 (x := nI 64) rfl ?_
      refine Z.iload_n B dX12_keeps_47 (x := nI 8) rfl ?_
      refine Z.iaddN B dX12_keeps_48 (a := 64) (b := 8) ?_
      refine Z.iret B Rt dX12_keeps_49 (ty := .int) rfl rfl (by decide) (by decide) ?_
      exact ⟨rfl, rfl⟩
    · skip
      refine Z.iload B dX12_keeps_9 (x := zb false) rfl ?_
      refine Z.if_eqB B dX12_keeps_11 (tgt := 28) rfl (fun h11 => ?_) (fun h11 => by cases h11)
      refine Z.aload_n B dX12_keeps_28 (v := .ref 63) rfl rfl ?_
      refine Z.iload B dX12_keeps_29 (x := nI 64) rfl ?_
      refine Z.iload B dX12_keeps_31 (x := nI i) rfl ?_
      refine Z.iaddN B dX12_keeps_33 (a := 64) (b := i) ?_
      refine Z.aload_n B dX12_keeps_34 (v := .ref 52) rfl rfl ?_
      refine Z.iload B dX12_keeps_35 (x := nI i) rfl ?_
      refine Z.iald (σ := (zuX σ 63 (va_cpy (zX σ 52) (zX σ 63) 0 64 i))) B dX12_keeps_37 (n := 8) (hl.n (k := 52) (by decide)) (hl.k (k := 52) (by decide)) (hl.l (k := 52) (by decide)) (by decide) (j := i) rfl (by omega) (v := (zX σ 52 i)) rfl ?_
      refine Z.iast (σ := (zuX σ 63 (va_cpy (zX σ 52) (zX σ 63) 0 64 i))) B dX12_keeps_38 (n := 90) (hl.n (k := 63) (by decide)) (hl.k (k := 63) (by decide)) (hl.l (k := 63) (by decide)) (by decide) (j := 64 + i) rfl (by omega) (τ := (zuX σ 63 (va_cpy (zX σ 52) (zX σ 63) 0 64 (i + 1)))) (by rw [zX_self, zuX_uX, cpy_s (by rw [Nat.zero_add])]) ?_
      refine Z.iincN B dX12_keeps_39 (by decide) (a := i) rfl (L' := [(0, .ref 45), (1, .ref 52), (2, .int (nI 8)), (3, .ref 63), (4, .int (nI 64)), (5, .int (zb false)), (6, .int (nI (i + 1)))]) rfl ?_
      refine Z.goto B dX12_keeps_42 (tgt := 3) rfl ?_
      exact ih (i + 1) (by omega) (by omega)
  have h0 := hloop3 0 (Nat.zero_le _)
  rw [cpy_0, zuX_id] at h0
  exact h0

theorem t_keeps_b_52_63 {σ : zSt} (hl : Lay σ) : Dt mX12_keeps [.ref 45, .ref 52, .int (nI 8), .ref 63, .int (nI 64), .int (zb true)] σ (some (.int (nI (64 + 8)))) (zuX σ 52 (va_cpy (zX σ 63) (zX σ 52) 64 0 8)) := by
  refine Dt.of (by decide) (Nat.le_of_ble_eq_true rfl) fun κ B Rt => ?_
  show Z κ 0 0 σ 0 [(0, .ref 45), (1, .ref 52), (2, .int (nI 8)), (3, .ref 63), (4, .int (nI 64)), (5, .int (zb true))] []
  refine Z.iconst B dX12_keeps_0 (v := nI 0) rfl ?_
  refine Z.istore B dX12_keeps_1 (by decide) (L' := [(0, .ref 45), (1, .ref 52), (2, .int (nI 8)), (3, .ref 63), (4, .int (nI 64)), (5, .int (zb true)), (6, .int (nI 0))]) rfl ?_
  have hloop3 : ∀ i : Nat, i ≤ 8 → Z κ 0 0 (zuX σ 52 (va_cpy (zX σ 63) (zX σ 52) 64 0 i)) 3 [(0, .ref 45), (1, .ref 52), (2, .int (nI 8)), (3, .ref 63), (4, .int (nI 64)), (5, .int (zb true)), (6, .int (nI i))] [] := by
    refine z_loop (fun i => 8 - i) (fun i ih hi => ?_)
    refine Z.iload B dX12_keeps_3 (x := nI i) rfl ?_
    refine Z.iload_n B dX12_keeps_5 (x := nI 8) rfl ?_
    refine Z.icmp_geN B dX12_keeps_6 (tgt := 45) rfl (by omega) (by omega) (fun h6 => ?_) (fun h6 => ?_)
    · skip
      obtain rfl : 8 = i := by omega
      refine Z.iload B dX12_keeps_45 (x := nI 64) rfl ?_
      refine Z.iload_n B dX12_keeps_47 (x := nI 8) rfl ?_
      refine Z.iaddN B dX12_keeps_48 (a := 64) (b := 8) ?_
      refine Z.iret B Rt dX12_keeps_49 (ty := .int) rfl rfl (by decide) (by decide) ?_
      exact ⟨rfl, rfl⟩
    · skip
      refine Z.iload B dX12_keeps_9 (x := zb true) rfl ?_
      refine Z.if_eqB B dX12_keeps_11 (tgt := 28) rfl (fun h11 => by cases h11) (fun h11 => ?_)
      refine Z.aload_n B dX12_keeps_14 (v := .ref 52) rfl rfl ?_
      refine Z.iload B dX12_keeps_15 (x := nI i) rfl ?_
      refine Z.aload_n B dX12_keeps_17 (v := .ref 63) rfl rfl ?_
      refine Z.iload B dX12_keeps_18 (x := nI 64) rfl ?_
      refine Z.iload B dX12_keeps_20 (x := nI i) rfl ?_
      refine Z.iaddN B dX12_keeps_22 (a := 64) (b := i) ?_
      refine Z.iald (σ := (zuX σ 52 (va_cpy (zX σ 63) (zX σ 52) 64 0 i))) B dX12_keeps_23 (n := 90) (hl.n (k := 63) (by decide)) (hl.k (k := 63) (by decide)) (hl.l (k := 63) (by decide)) (by decide) (j := 64 + i) rfl (by omega) (v := (zX σ 63 (64 + i))) rfl ?_
      refine Z.iast (σ := (zuX σ 52 (va_cpy (zX σ 63) (zX σ 52) 64 0 i))) B dX12_keeps_24 (n := 8) (hl.n (k := 52) (by decide)) (hl.k (k := 52) (by decide)) (hl.l (k := 52) (by decide)) (by decide) (j := 0 + i) (by rw [Nat.zero_add]) (by omega) (τ := (zuX σ 52 (va_cpy (zX σ 63) (zX σ 52) 64 0 (i + 1)))) (by rw [zX_self, zuX_uX, cpy_s rfl]) ?_
      refine Z.goto B dX12_keeps_25 (tgt := 39) rfl ?_
      refine Z.iincN B dX12_keeps_39 (by decide) (a := i) rfl (L' := [(0, .ref 45), (1, .ref 52), (2, .int (nI 8)), (3, .ref 63), (4, .int (nI 64)), (5, .int (zb true)), (6, .int (nI (i + 1)))]) rfl ?_
      refine Z.goto B dX12_keeps_42 (tgt := 3) rfl ?_
      exact ih (i + 1) (by omega) (by omega)
  have h0 := hloop3 0 (Nat.zero_le _)
  rw [cpy_0, zuX_id] at h0
  exact h0

theorem t_keeps_s_53_63 {σ : zSt} (hl : Lay σ) : Dt mX12_keeps [.ref 45, .ref 53, .int (nI 8), .ref 63, .int (nI 72), .int (zb false)] σ (some (.int (nI (72 + 8)))) (zuX σ 63 (va_cpy (zX σ 53) (zX σ 63) 0 72 8)) := by
  refine Dt.of (by decide) (Nat.le_of_ble_eq_true rfl) fun κ B Rt => ?_
  show Z κ 0 0 σ 0 [(0, .ref 45), (1, .ref 53), (2, .int (nI 8)), (3, .ref 63), (4, .int (nI 72)), (5, .int (zb false))] []
  refine Z.iconst B dX12_keeps_0 (v := nI 0) rfl ?_
  refine Z.istore B dX12_keeps_1 (by decide) (L' := [(0, .ref 45), (1, .ref 53), (2, .int (nI 8)), (3, .ref 63), (4, .int (nI 72)), (5, .int (zb false)), (6, .int (nI 0))]) rfl ?_
  have hloop3 : ∀ i : Nat, i ≤ 8 → Z κ 0 0 (zuX σ 63 (va_cpy (zX σ 53) (zX σ 63) 0 72 i)) 3 [(0, .ref 45), (1, .ref 53), (2, .int (nI 8)), (3, .ref 63), (4, .int (nI 72)), (5, .int (zb false)), (6, .int (nI i))] [] := by
    refine z_loop (fun i => 8 - i) (fun i ih hi => ?_)
    refine Z.iload B dX12_keeps_3 (x := nI i) rfl ?_
    refine Z.iload_n B dX12_keeps_5 (x := nI 8) rfl ?_
    refine Z.icmp_geN B dX12_keeps_6 (tgt := 45) rfl (by omega) (by omega) (fun h6 => ?_) (fun h6 => ?_)
    · skip
      obtain rfl : 8 = i := by omega
      refine Z.iload B dX12_keeps_45 (x := nI 72) rfl ?_
      refine Z.iload_n B dX12_keeps_47 (x := nI 8) rfl ?_
      refine Z.iaddN B dX12_keeps_48 (a := 72) (b := 8) ?_
      refine Z.iret B Rt dX12_keeps_49 (ty := .int) rfl rfl (by decide) (by decide) ?_
      exact ⟨rfl, rfl⟩
    · skip
      refine Z.iload B dX12_keeps_9 (x := zb false) rfl ?_
      refine Z.if_eqB B dX12_keeps_11 (tgt := 28) rfl (fun h11 => ?_) (fun h11 => by cases h11)
      refine Z.aload_n B dX12_keeps_28 (v := .ref 63) rfl rfl ?_
      refine Z.iload B dX12_keeps_29 (x := nI 72) rfl ?_
      refine Z.iload B dX12_keeps_31 (x := nI i) rfl ?_
      refine Z.iaddN B dX12_keeps_33 (a := 72) (b := i) ?_
      refine Z.aload_n B dX12_keeps_34 (v := .ref 53) rfl rfl ?_
      refine Z.iload B dX12_keeps_35 (x := nI i) rfl ?_
      refine Z.iald (σ := (zuX σ 63 (va_cpy (zX σ 53) (zX σ 63) 0 72 i))) B dX12_keeps_37 (n := 8) (hl.n (k := 53) (by decide)) (hl.k (k := 53) (by decide)) (hl.l (k := 53) (by decide)) (by decide) (j := i) rfl (by omega) (v := (zX σ 53 i)) rfl ?_
      refine Z.iast (σ := (zuX σ 63 (va_cpy (zX σ 53) (zX σ 63) 0 72 i))) B dX12_keeps_38 (n := 90) (hl.n (k := 63) (by decide)) (hl.k (k := 63) (by decide)) (hl.l (k := 63) (by decide)) (by decide) (j := 72 + i) rfl (by omega) (τ := (zuX σ 63 (va_cpy (zX σ 53) (zX σ 63) 0 72 (i + 1)))) (by rw [zX_self, zuX_uX, cpy_s (by rw [Nat.zero_add])]) ?_
      refine Z.iincN B dX12_keeps_39 (by decide) (a := i) rfl (L' := [(0, .ref 45), (1, .ref 53), (2, .int (nI 8)), (3, .ref 63), (4, .int (nI 72)), (5, .int (zb false)), (6, .int (nI (i + 1)))]) rfl ?_
      refine Z.goto B dX12_keeps_42 (tgt := 3) rfl ?_
      exact ih (i + 1) (by omega) (by omega)
  have h0 := hloop3 0 (Nat.zero_le _)
  rw [cpy_0, zuX_id] at h0
  exact h0

theorem t_keeps_b_53_63 {σ : zSt} (hl : Lay σ) : Dt mX12_keeps [.ref 45, .ref 53, .int (nI 8), .ref 63, .int (nI 72), .int (zb true)] σ (some (.int (nI (72 + 8)))) (zuX σ 53 (va_cpy (zX σ 63) (zX σ 53) 72 0 8)) := by
  refine Dt.of (by decide) (Nat.le_of_ble_eq_true rfl) fun κ B Rt => ?_
  show Z κ 0 0 σ 0 [(0, .ref 45), (1, .ref 53), (2, .int (nI 8)), (3, .ref 63), (4, .int (nI 72)), (5, .int (zb true))] []
  refine Z.iconst B dX12_keeps_0 (v := nI 0) rfl ?_
  refine Z.istore B dX12_keeps_1 (by decide) (L' := [(0, .ref 45), (1, .ref 53), (2, .int (nI 8)), (3, .ref 63), (4, .int (nI 72)), (5, .int (zb true)), (6, .int (nI 0))]) rfl ?_
  have hloop3 : ∀ i : Nat, i ≤ 8 → Z κ 0 0 (zuX σ 53 (va_cpy (zX σ 63) (zX σ 53) 72 0 i)) 3 [(0, .ref 45), (1, .ref 53), (2, .int (nI 8)), (3, .ref 63), (4, .int (nI 72)), (5, .int (zb true)), (6, .int (nI i))] [] := by
    refine z_loop (fun i => 8 - i) (fun i ih hi => ?_)
    refine Z.iload B dX12_keeps_3 (x := nI i) rfl ?_
    refine Z.iload_n B dX12_keeps_5 (x := nI 8) rfl ?_
    refine Z.icmp_geN B dX12_keeps_6 (tgt := 45) rfl (by omega) (by omega) (fun h6 => ?_) (fun h6 => ?_)
    · skip
      obtain rfl : 8 = i := by omega
      refine Z.iload B dX12_keeps_45 (x := nI 72) rfl ?_
      refine Z.iload_n B dX12_keeps_47 (x := nI 8) rfl ?_
      refine Z.iaddN B dX12_keeps_48 (a := 72) (b := 8) ?_
      refine Z.iret B Rt dX12_keeps_49 (ty := .int) rfl rfl (by decide) (by decide) ?_
      exact ⟨rfl, rfl⟩
    · skip
      refine Z.iload B dX12_keeps_9 (x := zb true) rfl ?_
      refine Z.if_eqB B dX12_keeps_11 (tgt := 28) rfl (fun h11 => by cases h11) (fun h11 => ?_)
      refine Z.aload_n B dX12_keeps_14 (v := .ref 53) rfl rfl ?_
      refine Z.iload B dX12_keeps_15 (x := nI i) rfl ?_
      refine Z.aload_n B dX12_keeps_17 (v := .ref 63) rfl rfl ?_
      refine Z.iload B dX12_keeps_18 (x := nI 72) rfl ?_
      refine Z.iload B dX12_keeps_20 (x := nI i) rfl ?_
      refine Z.iaddN B dX12_keeps_22 (a := 72) (b := i) ?_
      refine Z.iald (σ := (zuX σ 53 (va_cpy (zX σ 63) (zX σ 53) 72 0 i))) B dX12_keeps_23 (n := 90) (hl.n (k := 63) (by decide)) (hl.k (k := 63) (by decide)) (hl.l (k := 63) (by decide)) (by decide) (j := 72 + i) rfl (by omega) (v := (zX σ 63 (72 + i))) rfl ?_
      refine Z.iast (σ := (zuX σ 53 (va_cpy (zX σ 63) (zX σ 53) 72 0 i))) B dX12_keeps_24 (n := 8) (hl.n (k := 53) (by decide)) (hl.k (k := 53) (by decide)) (hl.l (k := 53) (by decide)) (by decide) (j := 0 + i) (by rw [Nat.zero_add]) (by omega) (τ := (zuX σ 53 (va_cpy (zX σ 63) (zX σ 53) 72 0 (i + 1)))) (by rw [zX_self, zuX_uX, cpy_s rfl]) ?_
      refine Z.goto B dX12_keeps_25 (tgt := 39) rfl ?_
      refine Z.iincN B dX12_keeps_39 (by decide) (a := i) rfl (L' := [(0, .ref 45), (1, .ref 53), (2, .int (nI 8)), (3, .ref 63), (4, .int (nI 72)), (5, .int (zb true)), (6, .int (nI (i + 1)))]) rfl ?_
      refine Z.goto B dX12_keeps_42 (tgt := 3) rfl ?_
      exact ih (i + 1) (by omega) (by omega)
  have h0 := hloop3 0 (Nat.zero_le _)
  rw [cpy_0, zuX_id] at h0
  exact h0

theorem t_M_all_s_63 {σ : zSt} (hl : Lay σ) {n a y : Nat} (H : zMd σ n a y)  : Dt mX12_all [.ref 45, .ref 63, .int (zb false)] σ (none) (zuX σ 63 (upd (upd (upd (upd (va_cpy (zX σ 53) (va_cpy (zX σ 52) (va_cpy (zX σ 51) (va_cpy (zX σ 50) (va_cpy (zX σ 49) (va_cpy (zX σ 48) (va_cpy (zX σ 47) (zX σ 63) 0 0 48) 0 48 4) 0 52 4) 0 56 4) 0 60 4) 0 64 8) 0 72 8) 80 (nI n)) (80 + 1) (nI a)) (80 + 2) (nI y)) (80 + 3) (zX σ 45 3))) := by
  obtain ⟨-, hn, hn8, ha, ha4, hy, hy8⟩ := id H
  refine Dt.of (by decide) (Nat.le_of_ble_eq_true rfl) fun κ B Rt => ?_
  show Z κ 0 0 σ 0 [(0, .ref 45), (1, .ref 63), (2, .int (zb false))] []
  refine Z.aload_n B dX12_all_0 (v := .ref 45) rfl rfl ?_
  refine Z.aload_n B dX12_all_1 (v := .ref 45) rfl rfl ?_
  refine Z.getR (σ := σ) B fX12_20_12 dX12_all_2 (hl.n (k := 45) (by decide)) (hl.k (k := 45) (by decide)) (by decide) (j := 47) (hl.r (k := 45) (f := 6) (by decide) (by decide)) ?_
  refine Z.bipush B dX12_all_5 (v := nI 48) rfl ?_
  refine Z.aload_n B dX12_all_7 (v := .ref 63) rfl rfl ?_
  refine Z.iconst B dX12_all_8 (v := nI 0) rfl ?_
  refine Z.iload_n B dX12_all_9 (x := zb false) rfl ?_
  refine Z.callVI (σ := σ) B (M' := mX12_keeps) (as := [.ref 47, .int (nI 48), .ref 63, .int (nI 0), .int (zb false)]) (st := []) (v := .int (nI (0 + 48))) dX12_all_10 wX12_keeps iX12_keeps sX12_keeps kX12_175 (hl.n (k := 45) (by decide)) (hl.k (k := 45) (by decide)) (by decide) rfl rfl (t_keeps_s_47_63 (σ := σ) hl) rfl rfl (by decide) (by decide) (Nat.le_of_ble_eq_true rfl) (by decide) (by decide) ?_
  refine Z.eqσ (τ := (zuX σ 63 (va_cpy (zX σ 47) (zX σ 63) 0 0 48))) rfl ?_
  refine Z.eqS (st' := [.int (nI 48)]) rfl ?_
  refine Z.istore_n B dX12_all_13 (by decide) (L' := [(0, .ref 45), (1, .ref 63), (2, .int (zb false)), (3, .int (nI 48))]) rfl ?_
  refine Z.aload_n B dX12_all_14 (v := .ref 45) rfl rfl ?_
  refine Z.aload_n B dX12_all_15 (v := .ref 45) rfl rfl ?_
  refine Z.getR (σ := (zuX σ 63 (va_cpy (zX σ 47) (zX σ 63) 0 0 48))) B fX12_23_12 dX12_all_16 (hl.n (k := 45) (by decide)) (hl.k (k := 45) (by decide)) (by decide) (j := 48) (hl.r (k := 45) (f := 7) (by decide) (by decide)) ?_
  refine Z.iconst B dX12_all_19 (v := nI 4) rfl ?_
  refine Z.aload_n B dX12_all_20 (v := .ref 63) rfl rfl ?_
  refine Z.iload_n B dX12_all_21 (x := nI 48) rfl ?_
  refine Z.iload_n B dX12_all_22 (x := zb false) rfl ?_
  refine Z.callVI (σ := (zuX σ 63 (va_cpy (zX σ 47) (zX σ 63) 0 0 48))) B (M' := mX12_keeps) (as := [.ref 48, .int (nI 4), .ref 63, .int (nI 48), .int (zb false)]) (st := []) (v := .int (nI (48 + 4))) dX12_all_23 wX12_keeps iX12_keeps sX12_keeps kX12_175 (hl.n (k := 45) (by decide)) (hl.k (k := 45) (by decide)) (by decide) rfl rfl (t_keeps_s_48_63 (σ := (zuX σ 63 (va_cpy (zX σ 47) (zX σ 63) 0 0 48))) hl) rfl rfl (by decide) (by decide) (Nat.le_of_ble_eq_true rfl) (by decide) (by decide) ?_
  refine Z.eqσ (τ := (zuX σ 63 (va_cpy (zX σ 48) (va_cpy (zX σ 47) (zX σ 63) 0 0 48) 0 48 4))) (by rw [zX_self, zuX_uX]; rfl) ?_
  refine Z.eqS (st' := [.int (nI 52)]) rfl ?_
  refine Z.istore_n B dX12_all_26 (by decide) (L' := [(0, .ref 45), (1, .ref 63), (2, .int (zb false)), (3, .int (nI 52))]) rfl ?_
  refine Z.aload_n B dX12_all_27 (v := .ref 45) rfl rfl ?_
  refine Z.aload_n B dX12_all_28 (v := .ref 45) rfl rfl ?_
  refine Z.getR (σ := (zuX σ 63 (va_cpy (zX σ 48) (va_cpy (zX σ 47) (zX σ 63) 0 0 48) 0 48 4))) B fX12_26_12 dX12_all_29 (hl.n (k := 45) (by decide)) (hl.k (k := 45) (by decide)) (by decide) (j := 49) (hl.r (k := 45) (f := 8) (by decide) (by decide)) ?_
  refine Z.iconst B dX12_all_32 (v := nI 4) rfl ?_
  refine Z.aload_n B dX12_all_33 (v := .ref 63) rfl rfl ?_
  refine Z.iload_n B dX12_all_34 (x := nI 52) rfl ?_
  refine Z.iload_n B dX12_all_35 (x := zb false) rfl ?_
  refine Z.callVI (σ := (zuX σ 63 (va_cpy (zX σ 48) (va_cpy (zX σ 47) (zX σ 63) 0 0 48) 0 48 4))) B (M' := mX12_keeps) (as := [.ref 49, .int (nI 4), .ref 63, .int (nI 52), .int (zb false)]) (st := []) (v := .int (nI (52 + 4))) dX12_all_36 wX12_keeps iX12_keeps sX12_keeps kX12_175 (hl.n (k := 45) (by decide)) (hl.k (k := 45) (by decide)) (by decide) rfl rfl (t_keeps_s_49_63 (σ := (zuX σ 63 (va_cpy (zX σ 48) (va_cpy (zX σ 47) (zX σ 63) 0 0 48) 0 48 4))) hl) rfl rfl (by decide) (by decide) (Nat.le_of_ble_eq_true rfl) (by decide) (by decide) ?_
  refine Z.eqσ (τ := (zuX σ 63 (va_cpy (zX σ 49) (va_cpy (zX σ 48) (va_cpy (zX σ 47) (zX σ 63) 0 0 48) 0 48 4) 0 52 4))) (by rw [zX_self, zuX_uX]; rfl) ?_
  refine Z.eqS (st' := [.int (nI 56)]) rfl ?_
  refine Z.istore_n B dX12_all_39 (by decide) (L' := [(0, .ref 45), (1, .ref 63), (2, .int (zb false)), (3, .int (nI 56))]) rfl ?_
  refine Z.aload_n B dX12_all_40 (v := .ref 45) rfl rfl ?_
  refine Z.aload_n B dX12_all_41 (v := .ref 45) rfl rfl ?_
  refine Z.getR (σ := (zuX σ 63 (va_cpy (zX σ 49) (va_cpy (zX σ 48) (va_cpy (zX σ 47) (zX σ 63) 0 0 48) 0 48 4) 0 52 4))) B fX12_29_12 dX12_all_42 (hl.n (k := 45) (by decide)) (hl.k (k := 45) (by decide)) (by decide) (j := 50) (hl.r (k := 45) (f := 9) (by decide) (by decide)) ?_
  refine Z.iconst B dX12_all_45 (v := nI 4) rfl ?_
  refine Z.aload_n B dX12_all_46 (v := .ref 63) rfl rfl ?_
  refine Z.iload_n B dX12_all_47 (x := nI 56) rfl ?_
  refine Z.iload_n B dX12_all_48 (x := zb false) rfl ?_
  refine Z.callVI (σ := (zuX σ 63 (va_cpy (zX σ 49) (va_cpy (zX σ 48) (va_cpy (zX σ 47) (zX σ 63) 0 0 48) 0 48 4) 0 52 4))) B (M' := mX12_keeps) (as := [.ref 50, .int (nI 4), .ref 63, .int (nI 56), .int (zb false)]) (st := []) (v := .int (nI (56 + 4))) dX12_all_49 wX12_keeps iX12_keeps sX12_keeps kX12_175 (hl.n (k := 45) (by decide)) (hl.k (k := 45) (by decide)) (by decide) rfl rfl (t_keeps_s_50_63 (σ := (zuX σ 63 (va_cpy (zX σ 49) (va_cpy (zX σ 48) (va_cpy (zX σ 47) (zX σ 63) 0 0 48) 0 48 4) 0 52 4))) hl) rfl rfl (by decide) (by decide) (Nat.le_of_ble_eq_true rfl) (by decide) (by decide) ?_
  refine Z.eqσ (τ := (zuX σ 63 (va_cpy (zX σ 50) (va_cpy (zX σ 49) (va_cpy (zX σ 48) (va_cpy (zX σ 47) (zX σ 63) 0 0 48) 0 48 4) 0 52 4) 0 56 4))) (by rw [zX_self, zuX_uX]; rfl) ?_
  refine Z.eqS (st' := [.int (nI 60)]) rfl ?_
  refine Z.istore_n B dX12_all_52 (by decide) (L' := [(0, .ref 45), (1, .ref 63), (2, .int (zb false)), (3, .int (nI 60))]) rfl ?_
  refine Z.aload_n B dX12_all_53 (v := .ref 45) rfl rfl ?_
  refine Z.aload_n B dX12_all_54 (v := .ref 45) rfl rfl ?_
  refine Z.getR (σ := (zuX σ 63 (va_cpy (zX σ 50) (va_cpy (zX σ 49) (va_cpy (zX σ 48) (va_cpy (zX σ 47) (zX σ 63) 0 0 48) 0 48 4) 0 52 4) 0 56 4))) B fX12_32_12 dX12_all_55 (hl.n (k := 45) (by decide)) (hl.k (k := 45) (by decide)) (by decide) (j := 51) (hl.r (k := 45) (f := 10) (by decide) (by decide)) ?_
  refine Z.iconst B dX12_all_58 (v := nI 4) rfl ?_
  refine Z.aload_n B dX12_all_59 (v := .ref 63) rfl rfl ?_
  refine Z.iload_n B dX12_all_60 (x := nI 60) rfl ?_
  refine Z.iload_n B dX12_all_61 (x := zb false) rfl ?_
  refine Z.callVI (σ := (zuX σ 63 (va_cpy (zX σ 50) (va_cpy (zX σ 49) (va_cpy (zX σ 48) (va_cpy (zX σ 47) (zX σ 63) 0 0 48) 0 48 4) 0 52 4) 0 56 4))) B (M' := mX12_keeps) (as := [.ref 51, .int (nI 4), .ref 63, .int (nI 60), .int (zb false)]) (st := []) (v := .int (nI (60 + 4))) dX12_all_62 wX12_keeps iX12_keeps sX12_keeps kX12_175 (hl.n (k := 45) (by decide)) (hl.k (k := 45) (by decide)) (by decide) rfl rfl (t_keeps_s_51_63 (σ := (zuX σ 63 (va_cpy (zX σ 50) (va_cpy (zX σ 49) (va_cpy (zX σ 48) (va_cpy (zX σ 47) (zX σ 63) 0 0 48) 0 48 4) 0 52 4) 0 56 4))) hl) rfl rfl (by decide) (by decide) (Nat.le_of_ble_eq_true rfl) (by decide) (by decide) ?_
  refine Z.eqσ (τ := (zuX σ 63 (va_cpy (zX σ 51) (va_cpy (zX σ 50) (va_cpy (zX σ 49) (va_cpy (zX σ 48) (va_cpy (zX σ 47) (zX σ 63) 0 0 48) 0 48 4) 0 52 4) 0 56 4) 0 60 4))) (by rw [zX_self, zuX_uX]; rfl) ?_
  refine Z.eqS (st' := [.int (nI 64)]) rfl ?_
  refine Z.istore_n B dX12_all_65 (by decide) (L' := [(0, .ref 45), (1, .ref 63), (2, .int (zb false)), (3, .int (nI 64))]) rfl ?_
  refine Z.aload_n B dX12_all_66 (v := .ref 45) rfl rfl ?_
  refine Z.aload_n B dX12_all_67 (v := .ref 45) rfl rfl ?_
  refine Z.getR (σ := (zuX σ 63 (va_cpy (zX σ 51) (va_cpy (zX σ 50) (va_cpy (zX σ 49) (va_cpy (zX σ 48) (va_cpy (zX σ 47) (zX σ 63) 0 0 48) 0 48 4) 0 52 4) 0 56 4) 0 60 4))) B fX12_35_12 dX12_all_68 (hl.n (k := 45) (by decide)) (hl.k (k := 45) (by decide)) (by decide) (j := 52) (hl.r (k := 45) (f := 11) (by decide) (by decide)) ?_
  refine Z.bipush B dX12_all_71 (v := nI 8) rfl ?_
  refine Z.aload_n B dX12_all_73 (v := .ref 63) rfl rfl ?_
  refine Z.iload_n B dX12_all_74 (x := nI 64) rfl ?_
  refine Z.iload_n B dX12_all_75 (x := zb false) rfl ?_
  refine Z.callVI (σ := (zuX σ 63 (va_cpy (zX σ 51) (va_cpy (zX σ 50) (va_cpy (zX σ 49) (va_cpy (zX σ 48) (va_cpy (zX σ 47) (zX σ 63) 0 0 48) 0 48 4) 0 52 4) 0 56 4) 0 60 4))) B (M' := mX12_keeps) (as := [.ref 52, .int (nI 8), .ref 63, .int (nI 64), .int (zb false)]) (st := []) (v := .int (nI (64 + 8))) dX12_all_76 wX12_keeps iX12_keeps sX12_keeps kX12_175 (hl.n (k := 45) (by decide)) (hl.k (k := 45) (by decide)) (by decide) rfl rfl (t_keeps_s_52_63 (σ := (zuX σ 63 (va_cpy (zX σ 51) (va_cpy (zX σ 50) (va_cpy (zX σ 49) (va_cpy (zX σ 48) (va_cpy (zX σ 47) (zX σ 63) 0 0 48) 0 48 4) 0 52 4) 0 56 4) 0 60 4))) hl) rfl rfl (by decide) (by decide) (Nat.le_of_ble_eq_true rfl) (by decide) (by decide) ?_
  refine Z.eqσ (τ := (zuX σ 63 (va_cpy (zX σ 52) (va_cpy (zX σ 51) (va_cpy (zX σ 50) (va_cpy (zX σ 49) (va_cpy (zX σ 48) (va_cpy (zX σ 47) (zX σ 63) 0 0 48) 0 48 4) 0 52 4) 0 56 4) 0 60 4) 0 64 8))) (by rw [zX_self, zuX_uX]; rfl) ?_
  refine Z.eqS (st' := [.int (nI 72)]) rfl ?_
  refine Z.istore_n B dX12_all_79 (by decide) (L' := [(0, .ref 45), (1, .ref 63), (2, .int (zb false)), (3, .int (nI 72))]) rfl ?_
  refine Z.aload_n B dX12_all_80 (v := .ref 45) rfl rfl ?_
  refine Z.aload_n B dX12_all_81 (v := .ref 45) rfl rfl ?_
  refine Z.getR (σ := (zuX σ 63 (va_cpy (zX σ 52) (va_cpy (zX σ 51) (va_cpy (zX σ 50) (va_cpy (zX σ 49) (va_cpy (zX σ 48) (va_cpy (zX σ 47) (zX σ 63) 0 0 48) 0 48 4) 0 52 4) 0 56 4) 0 60 4) 0 64 8))) B fX12_38_12 dX12_all_82 (hl.n (k := 45) (by decide)) (hl.k (k := 45) (by decide)) (by decide) (j := 53) (hl.r (k := 45) (f := 12) (by decide) (by decide)) ?_
  refine Z.bipush B dX12_all_85 (v := nI 8) rfl ?_
  refine Z.aload_n B dX12_all_87 (v := .ref 63) rfl rfl ?_
  refine Z.iload_n B dX12_all_88 (x := nI 72) rfl ?_
  refine Z.iload_n B dX12_all_89 (x := zb false) rfl ?_
  refine Z.callVI (σ := (zuX σ 63 (va_cpy (zX σ 52) (va_cpy (zX σ 51) (va_cpy (zX σ 50) (va_cpy (zX σ 49) (va_cpy (zX σ 48) (va_cpy (zX σ 47) (zX σ 63) 0 0 48) 0 48 4) 0 52 4) 0 56 4) 0 60 4) 0 64 8))) B (M' := mX12_keeps) (as := [.ref 53, .int (nI 8), .ref 63, .int (nI 72), .int (zb false)]) (st := []) (v := .int (nI (72 + 8))) dX12_all_90 wX12_keeps iX12_keeps sX12_keeps kX12_175 (hl.n (k := 45) (by decide)) (hl.k (k := 45) (by decide)) (by decide) rfl rfl (t_keeps_s_53_63 (σ := (zuX σ 63 (va_cpy (zX σ 52) (va_cpy (zX σ 51) (va_cpy (zX σ 50) (va_cpy (zX σ 49) (va_cpy (zX σ 48) (va_cpy (zX σ 47) (zX σ 63) 0 0 48) 0 48 4) 0 52 4) 0 56 4) 0 60 4) 0 64 8))) hl) rfl rfl (by decide) (by decide) (Nat.le_of_ble_eq_true rfl) (by decide) (by decide) ?_
  refine Z.eqσ (τ := (zuX σ 63 (va_cpy (zX σ 53) (va_cpy (zX σ 52) (va_cpy (zX σ 51) (va_cpy (zX σ 50) (va_cpy (zX σ 49) (va_cpy (zX σ 48) (va_cpy (zX σ 47) (zX σ 63) 0 0 48) 0 48 4) 0 52 4) 0 56 4) 0 60 4) 0 64 8) 0 72 8))) (by rw [zX_self, zuX_uX]; rfl) ?_
  refine Z.eqS (st' := [.int (nI 80)]) rfl ?_
  refine Z.istore_n B dX12_all_93 (by decide) (L' := [(0, .ref 45), (1, .ref 63), (2, .int (zb false)), (3, .int (nI 80))]) rfl ?_
  refine Z.iload_n B dX12_all_94 (x := zb false) rfl ?_
  refine Z.if_eqB B dX12_all_95 (tgt := 135) rfl (fun h95 => ?_) (fun h95 => by cases h95)
  refine Z.aload_n B dX12_all_135 (v := .ref 63) rfl rfl ?_
  refine Z.iload_n B dX12_all_136 (x := nI 80) rfl ?_
  refine Z.aload_n B dX12_all_137 (v := .ref 45) rfl rfl ?_
  refine Z.getI (σ := (zuX σ 63 (va_cpy (zX σ 53) (va_cpy (zX σ 52) (va_cpy (zX σ 51) (va_cpy (zX σ 50) (va_cpy (zX σ 49) (va_cpy (zX σ 48) (va_cpy (zX σ 47) (zX σ 63) 0 0 48) 0 48 4) 0 52 4) 0 56 4) 0 60 4) 0 64 8) 0 72 8))) B fX12_81_12 dX12_all_138 (hl.n (k := 45) (by decide)) (hl.k (k := 45) (by decide)) (by decide) (v := nI n) hn ?_
  refine Z.iast (σ := (zuX σ 63 (va_cpy (zX σ 53) (va_cpy (zX σ 52) (va_cpy (zX σ 51) (va_cpy (zX σ 50) (va_cpy (zX σ 49) (va_cpy (zX σ 48) (va_cpy (zX σ 47) (zX σ 63) 0 0 48) 0 48 4) 0 52 4) 0 56 4) 0 60 4) 0 64 8) 0 72 8))) B dX12_all_141 (n := 90) (hl.n (k := 63) (by decide)) (hl.k (k := 63) (by decide)) (hl.l (k := 63) (by decide)) (by decide) (j := 80) rfl (by omega) (τ := (zuX σ 63 (upd (va_cpy (zX σ 53) (va_cpy (zX σ 52) (va_cpy (zX σ 51) (va_cpy (zX σ 50) (va_cpy (zX σ 49) (va_cpy (zX σ 48) (va_cpy (zX σ 47) (zX σ 63) 0 0 48) 0 48 4) 0 52 4) 0 56 4) 0 60 4) 0 64 8) 0 72 8) 80 (nI n)))) (by simp only [zX_self, zuX_uX]) ?_
  refine Z.aload_n B dX12_all_142 (v := .ref 63) rfl rfl ?_
  refine Z.iload_n B dX12_all_143 (x := nI 80) rfl ?_
  refine Z.iconst B dX12_all_144 (v := nI 1) rfl ?_
  refine Z.iaddN B dX12_all_145 (a := 80) (b := 1) ?_
  refine Z.aload_n B dX12_all_146 (v := .ref 45) rfl rfl ?_
  refine Z.getI (σ := (zuX σ 63 (upd (va_cpy (zX σ 53) (va_cpy (zX σ 52) (va_cpy (zX σ 51) (va_cpy (zX σ 50) (va_cpy (zX σ 49) (va_cpy (zX σ 48) (va_cpy (zX σ 47) (zX σ 63) 0 0 48) 0 48 4) 0 52 4) 0 56 4) 0 60 4) 0 64 8) 0 72 8) 80 (nI n)))) B fX12_84_12 dX12_all_147 (hl.n (k := 45) (by decide)) (hl.k (k := 45) (by decide)) (by decide) (v := nI a) ha ?_
  refine Z.iast (σ := (zuX σ 63 (upd (va_cpy (zX σ 53) (va_cpy (zX σ 52) (va_cpy (zX σ 51) (va_cpy (zX σ 50) (va_cpy (zX σ 49) (va_cpy (zX σ 48) (va_cpy (zX σ 47) (zX σ 63) 0 0 48) 0 48 4) 0 52 4) 0 56 4) 0 60 4) 0 64 8) 0 72 8) 80 (nI n)))) B dX12_all_150 (n := 90) (hl.n (k := 63) (by decide)) (hl.k (k := 63) (by decide)) (hl.l (k := 63) (by decide)) (by decide) (j := 80 + 1) rfl (by omega) (τ := (zuX σ 63 (upd (upd (va_cpy (zX σ 53) (va_cpy (zX σ 52) (va_cpy (zX σ 51) (va_cpy (zX σ 50) (va_cpy (zX σ 49) (va_cpy (zX σ 48) (va_cpy (zX σ 47) (zX σ 63) 0 0 48) 0 48 4) 0 52 4) 0 56 4) 0 60 4) 0 64 8) 0 72 8) 80 (nI n)) (80 + 1) (nI a)))) (by simp only [zX_self, zuX_uX]) ?_
  refine Z.aload_n B dX12_all_151 (v := .ref 63) rfl rfl ?_
  refine Z.iload_n B dX12_all_152 (x := nI 80) rfl ?_
  refine Z.iconst B dX12_all_153 (v := nI 2) rfl ?_
  refine Z.iaddN B dX12_all_154 (a := 80) (b := 2) ?_
  refine Z.aload_n B dX12_all_155 (v := .ref 45) rfl rfl ?_
  refine Z.getI (σ := (zuX σ 63 (upd (upd (va_cpy (zX σ 53) (va_cpy (zX σ 52) (va_cpy (zX σ 51) (va_cpy (zX σ 50) (va_cpy (zX σ 49) (va_cpy (zX σ 48) (va_cpy (zX σ 47) (zX σ 63) 0 0 48) 0 48 4) 0 52 4) 0 56 4) 0 60 4) 0 64 8) 0 72 8) 80 (nI n)) (80 + 1) (nI a)))) B fX12_87_12 dX12_all_156 (hl.n (k := 45) (by decide)) (hl.k (k := 45) (by decide)) (by decide) (v := nI y) hy ?_
  refine Z.iast (σ := (zuX σ 63 (upd (upd (va_cpy (zX σ 53) (va_cpy (zX σ 52) (va_cpy (zX σ 51) (va_cpy (zX σ 50) (va_cpy (zX σ 49) (va_cpy (zX σ 48) (va_cpy (zX σ 47) (zX σ 63) 0 0 48) 0 48 4) 0 52 4) 0 56 4) 0 60 4) 0 64 8) 0 72 8) 80 (nI n)) (80 + 1) (nI a)))) B dX12_all_159 (n := 90) (hl.n (k := 63) (by decide)) (hl.k (k := 63) (by decide)) (hl.l (k := 63) (by decide)) (by decide) (j := 80 + 2) rfl (by omega) (τ := (zuX σ 63 (upd (upd (upd (va_cpy (zX σ 53) (va_cpy (zX σ 52) (va_cpy (zX σ 51) (va_cpy (zX σ 50) (va_cpy (zX σ 49) (va_cpy (zX σ 48) (va_cpy (zX σ 47) (zX σ 63) 0 0 48) 0 48 4) 0 52 4) 0 56 4) 0 60 4) 0 64 8) 0 72 8) 80 (nI n)) (80 + 1) (nI a)) (80 + 2) (nI y)))) (by simp only [zX_self, zuX_uX]) ?_
  refine Z.aload_n B dX12_all_160 (v := .ref 63) rfl rfl ?_
  refine Z.iload_n B dX12_all_161 (x := nI 80) rfl ?_
  refine Z.iconst B dX12_all_162 (v := nI 3) rfl ?_
  refine Z.iaddN B dX12_all_163 (a := 80) (b := 3) ?_
  refine Z.aload_n B dX12_all_164 (v := .ref 45) rfl rfl ?_
  refine Z.getI (σ := (zuX σ 63 (upd (upd (upd (va_cpy (zX σ 53) (va_cpy (zX σ 52) (va_cpy (zX σ 51) (va_cpy (zX σ 50) (va_cpy (zX σ 49) (va_cpy (zX σ 48) (va_cpy (zX σ 47) (zX σ 63) 0 0 48) 0 48 4) 0 52 4) 0 56 4) 0 60 4) 0 64 8) 0 72 8) 80 (nI n)) (80 + 1) (nI a)) (80 + 2) (nI y)))) B fX12_7_12 dX12_all_165 (hl.n (k := 45) (by decide)) (hl.k (k := 45) (by decide)) (by decide) (v := (zX σ 45 3)) rfl ?_
  refine Z.iast (σ := (zuX σ 63 (upd (upd (upd (va_cpy (zX σ 53) (va_cpy (zX σ 52) (va_cpy (zX σ 51) (va_cpy (zX σ 50) (va_cpy (zX σ 49) (va_cpy (zX σ 48) (va_cpy (zX σ 47) (zX σ 63) 0 0 48) 0 48 4) 0 52 4) 0 56 4) 0 60 4) 0 64 8) 0 72 8) 80 (nI n)) (80 + 1) (nI a)) (80 + 2) (nI y)))) B dX12_all_168 (n := 90) (hl.n (k := 63) (by decide)) (hl.k (k := 63) (by decide)) (hl.l (k := 63) (by decide)) (by decide) (j := 80 + 3) rfl (by omega) (τ := (zuX σ 63 (upd (upd (upd (upd (va_cpy (zX σ 53) (va_cpy (zX σ 52) (va_cpy (zX σ 51) (va_cpy (zX σ 50) (va_cpy (zX σ 49) (va_cpy (zX σ 48) (va_cpy (zX σ 47) (zX σ 63) 0 0 48) 0 48 4) 0 52 4) 0 56 4) 0 60 4) 0 64 8) 0 72 8) 80 (nI n)) (80 + 1) (nI a)) (80 + 2) (nI y)) (80 + 3) (zX σ 45 3)))) (by simp only [zX_self, zuX_uX]) ?_
  refine Z.vret B Rt dX12_all_169 rfl (by decide) (by decide) ?_
  exact ⟨rfl, rfl⟩

theorem t_M_all_b_63 {σ : zSt} (hl : Lay σ)  : Dt mX12_all [.ref 45, .ref 63, .int (zb true)] σ (none) (zuX (zuX (zuX (zuX (zuX (zuX (zuX (zuX σ 47 (va_cpy (zX σ 63) (zX σ 47) 0 0 48)) 48 (va_cpy (zX σ 63) (zX σ 48) 48 0 4)) 49 (va_cpy (zX σ 63) (zX σ 49) 52 0 4)) 50 (va_cpy (zX σ 63) (zX σ 50) 56 0 4)) 51 (va_cpy (zX σ 63) (zX σ 51) 60 0 4)) 52 (va_cpy (zX σ 63) (zX σ 52) 64 0 8)) 53 (va_cpy (zX σ 63) (zX σ 53) 72 0 8)) 45 (upd (upd (upd (upd (zX σ 45) 0 (zX σ 63 80)) 1 (zX σ 63 (80 + 1))) 2 (zX σ 63 (80 + 2))) 3 (zX σ 63 (80 + 3)))) := by
  refine Dt.of (by decide) (Nat.le_of_ble_eq_true rfl) fun κ B Rt => ?_
  show Z κ 0 0 σ 0 [(0, .ref 45), (1, .ref 63), (2, .int (zb true))] []
  refine Z.aload_n B dX12_all_0 (v := .ref 45) rfl rfl ?_
  refine Z.aload_n B dX12_all_1 (v := .ref 45) rfl rfl ?_
  refine Z.getR (σ := σ) B fX12_20_12 dX12_all_2 (hl.n (k := 45) (by decide)) (hl.k (k := 45) (by decide)) (by decide) (j := 47) (hl.r (k := 45) (f := 6) (by decide) (by decide)) ?_
  refine Z.bipush B dX12_all_5 (v := nI 48) rfl ?_
  refine Z.aload_n B dX12_all_7 (v := .ref 63) rfl rfl ?_
  refine Z.iconst B dX12_all_8 (v := nI 0) rfl ?_
  refine Z.iload_n B dX12_all_9 (x := zb true) rfl ?_
  refine Z.callVI (σ := σ) B (M' := mX12_keeps) (as := [.ref 47, .int (nI 48), .ref 63, .int (nI 0), .int (zb true)]) (st := []) (v := .int (nI (0 + 48))) dX12_all_10 wX12_keeps iX12_keeps sX12_keeps kX12_175 (hl.n (k := 45) (by decide)) (hl.k (k := 45) (by decide)) (by decide) rfl rfl (t_keeps_b_47_63 (σ := σ) hl) rfl rfl (by decide) (by decide) (Nat.le_of_ble_eq_true rfl) (by decide) (by decide) ?_
  refine Z.eqσ (τ := (zuX σ 47 (va_cpy (zX σ 63) (zX σ 47) 0 0 48))) rfl ?_
  refine Z.eqS (st' := [.int (nI 48)]) rfl ?_
  refine Z.istore_n B dX12_all_13 (by decide) (L' := [(0, .ref 45), (1, .ref 63), (2, .int (zb true)), (3, .int (nI 48))]) rfl ?_
  refine Z.aload_n B dX12_all_14 (v := .ref 45) rfl rfl ?_
  refine Z.aload_n B dX12_all_15 (v := .ref 45) rfl rfl ?_
  refine Z.getR (σ := (zuX σ 47 (va_cpy (zX σ 63) (zX σ 47) 0 0 48))) B fX12_23_12 dX12_all_16 (hl.n (k := 45) (by decide)) (hl.k (k := 45) (by decide)) (by decide) (j := 48) (hl.r (k := 45) (f := 7) (by decide) (by decide)) ?_
  refine Z.iconst B dX12_all_19 (v := nI 4) rfl ?_
  refine Z.aload_n B dX12_all_20 (v := .ref 63) rfl rfl ?_
  refine Z.iload_n B dX12_all_21 (x := nI 48) rfl ?_
  refine Z.iload_n B dX12_all_22 (x := zb true) rfl ?_
  refine Z.callVI (σ := (zuX σ 47 (va_cpy (zX σ 63) (zX σ 47) 0 0 48))) B (M' := mX12_keeps) (as := [.ref 48, .int (nI 4), .ref 63, .int (nI 48), .int (zb true)]) (st := []) (v := .int (nI (48 + 4))) dX12_all_23 wX12_keeps iX12_keeps sX12_keeps kX12_175 (hl.n (k := 45) (by decide)) (hl.k (k := 45) (by decide)) (by decide) rfl rfl (t_keeps_b_48_63 (σ := (zuX σ 47 (va_cpy (zX σ 63) (zX σ 47) 0 0 48))) hl) rfl rfl (by decide) (by decide) (Nat.le_of_ble_eq_true rfl) (by decide) (by decide) ?_
  refine Z.eqσ (τ := (zuX (zuX σ 47 (va_cpy (zX σ 63) (zX σ 47) 0 0 48)) 48 (va_cpy (zX σ 63) (zX σ 48) 48 0 4))) rfl ?_
  refine Z.eqS (st' := [.int (nI 52)]) rfl ?_
  refine Z.istore_n B dX12_all_26 (by decide) (L' := [(0, .ref 45), (1, .ref 63), (2, .int (zb true)), (3, .int (nI 52))]) rfl ?_
  refine Z.aload_n B dX12_all_27 (v := .ref 45) rfl rfl ?_
  refine Z.aload_n B dX12_all_28 (v := .ref 45) rfl rfl ?_
  refine Z.getR (σ := (zuX (zuX σ 47 (va_cpy (zX σ 63) (zX σ 47) 0 0 48)) 48 (va_cpy (zX σ 63) (zX σ 48) 48 0 4))) B fX12_26_12 dX12_all_29 (hl.n (k := 45) (by decide)) (hl.k (k := 45) (by decide)) (by decide) (j := 49) (hl.r (k := 45) (f := 8) (by decide) (by decide)) ?_
  refine Z.iconst B dX12_all_32 (v := nI 4) rfl ?_
  refine Z.aload_n B dX12_all_33 (v := .ref 63) rfl rfl ?_
  refine Z.iload_n B dX12_all_34 (x := nI 52) rfl ?_
  refine Z.iload_n B dX12_all_35 (x := zb true) rfl ?_
  refine Z.callVI (σ := (zuX (zuX σ 47 (va_cpy (zX σ 63) (zX σ 47) 0 0 48)) 48 (va_cpy (zX σ 63) (zX σ 48) 48 0 4))) B (M' := mX12_keeps) (as := [.ref 49, .int (nI 4), .ref 63, .int (nI 52), .int (zb true)]) (st := []) (v := .int (nI (52 + 4))) dX12_all_36 wX12_keeps iX12_keeps sX12_keeps kX12_175 (hl.n (k := 45) (by decide)) (hl.k (k := 45) (by decide)) (by decide) rfl rfl (t_keeps_b_49_63 (σ := (zuX (zuX σ 47 (va_cpy (zX σ 63) (zX σ 47) 0 0 48)) 48 (va_cpy (zX σ 63) (zX σ 48) 48 0 4))) hl) rfl rfl (by decide) (by decide) (Nat.le_of_ble_eq_true rfl) (by decide) (by decide) ?_
  refine Z.eqσ (τ := (zuX (zuX (zuX σ 47 (va_cpy (zX σ 63) (zX σ 47) 0 0 48)) 48 (va_cpy (zX σ 63) (zX σ 48) 48 0 4)) 49 (va_cpy (zX σ 63) (zX σ 49) 52 0 4))) rfl ?_
  refine Z.eqS (st' := [.int (nI 56)]) rfl ?_
  refine Z.istore_n B dX12_all_39 (by decide) (L' := [(0, .ref 45), (1, .ref 63), (2, .int (zb true)), (3, .int (nI 56))]) rfl ?_
  refine Z.aload_n B dX12_all_40 (v := .ref 45) rfl rfl ?_
  refine Z.aload_n B dX12_all_41 (v := .ref 45) rfl rfl ?_
  refine Z.getR (σ := (zuX (zuX (zuX σ 47 (va_cpy (zX σ 63) (zX σ 47) 0 0 48)) 48 (va_cpy (zX σ 63) (zX σ 48) 48 0 4)) 49 (va_cpy (zX σ 63) (zX σ 49) 52 0 4))) B fX12_29_12 dX12_all_42 (hl.n (k := 45) (by decide)) (hl.k (k := 45) (by decide)) (by decide) (j := 50) (hl.r (k := 45) (f := 9) (by decide) (by decide)) ?_
  refine Z.iconst B dX12_all_45 (v := nI 4) rfl ?_
  refine Z.aload_n B dX12_all_46 (v := .ref 63) rfl rfl ?_
  refine Z.iload_n B dX12_all_47 (x := nI 56) rfl ?_
  refine Z.iload_n B dX12_all_48 (x := zb true) rfl ?_
  refine Z.callVI (σ := (zuX (zuX (zuX σ 47 (va_cpy (zX σ 63) (zX σ 47) 0 0 48)) 48 (va_cpy (zX σ 63) (zX σ 48) 48 0 4)) 49 (va_cpy (zX σ 63) (zX σ 49) 52 0 4))) B (M' := mX12_keeps) (as := [.ref 50, .int (nI 4), .ref 63, .int (nI 56), .int (zb true)]) (st := []) (v := .int (nI (56 + 4))) dX12_all_49 wX12_keeps iX12_keeps sX12_keeps kX12_175 (hl.n (k := 45) (by decide)) (hl.k (k := 45) (by decide)) (by decide) rfl rfl (t_keeps_b_50_63 (σ := (zuX (zuX (zuX σ 47 (va_cpy (zX σ 63) (zX σ 47) 0 0 48)) 48 (va_cpy (zX σ 63) (zX σ 48) 48 0 4)) 49 (va_cpy (zX σ 63) (zX σ 49) 52 0 4))) hl) rfl rfl (by decide) (by decide) (Nat.le_of_ble_eq_true rfl) (by decide) (by decide) ?_
  refine Z.eqσ (τ := (zuX (zuX (zuX (zuX σ 47 (va_cpy (zX σ 63) (zX σ 47) 0 0 48)) 48 (va_cpy (zX σ 63) (zX σ 48) 48 0 4)) 49 (va_cpy (zX σ 63) (zX σ 49) 52 0 4)) 50 (va_cpy (zX σ 63) (zX σ 50) 56 0 4))) rfl ?_
  refine Z.eqS (st' := [.int (nI 60)]) rfl ?_
  refine Z.istore_n B dX12_all_52 (by decide) (L' := [(0, .ref 45), (1, .ref 63), (2, .int (zb true)), (3, .int (nI 60))]) rfl ?_
  refine Z.aload_n B dX12_all_53 (v := .ref 45) rfl rfl ?_
  refine Z.aload_n B dX12_all_54 (v := .ref 45) rfl rfl ?_
  refine Z.getR (σ := (zuX (zuX (zuX (zuX σ 47 (va_cpy (zX σ 63) (zX σ 47) 0 0 48)) 48 (va_cpy (zX σ 63) (zX σ 48) 48 0 4)) 49 (va_cpy (zX σ 63) (zX σ 49) 52 0 4)) 50 (va_cpy (zX σ 63) (zX σ 50) 56 0 4))) B fX12_32_12 dX12_all_55 (hl.n (k := 45) (by decide)) (hl.k (k := 45) (by decide)) (by decide) (j := 51) (hl.r (k := 45) (f := 10) (by decide) (by decide)) ?_
  refine Z.iconst B dX12_all_58 (v := nI 4) rfl ?_
  refine Z.aload_n B dX12_all_59 (v := .ref 63) rfl rfl ?_
  refine Z.iload_n B dX12_all_60 (x := nI 60) rfl ?_
  refine Z.iload_n B dX12_all_61 (x := zb true) rfl ?_
  refine Z.callVI (σ := (zuX (zuX (zuX (zuX σ 47 (va_cpy (zX σ 63) (zX σ 47) 0 0 48)) 48 (va_cpy (zX σ 63) (zX σ 48) 48 0 4)) 49 (va_cpy (zX σ 63) (zX σ 49) 52 0 4)) 50 (va_cpy (zX σ 63) (zX σ 50) 56 0 4))) B (M' := mX12_keeps) (as := [.ref 51, .int (nI 4), .ref 63, .int (nI 60), .int (zb true)]) (st := []) (v := .int (nI (60 + 4))) dX12_all_62 wX12_keeps iX12_keeps sX12_keeps kX12_175 (hl.n (k := 45) (by decide)) (hl.k (k := 45) (by decide)) (by decide) rfl rfl (t_keeps_b_51_63 (σ := (zuX (zuX (zuX (zuX σ 47 (va_cpy (zX σ 63) (zX σ 47) 0 0 48)) 48 (va_cpy (zX σ 63) (zX σ 48) 48 0 4)) 49 (va_cpy (zX σ 63) (zX σ 49) 52 0 4)) 50 (va_cpy (zX σ 63) (zX σ 50) 56 0 4))) hl) rfl rfl (by decide) (by decide) (Nat.le_of_ble_eq_true rfl) (by decide) (by decide) ?_
  refine Z.eqσ (τ := (zuX (zuX (zuX (zuX (zuX σ 47 (va_cpy (zX σ 63) (zX σ 47) 0 0 48)) 48 (va_cpy (zX σ 63) (zX σ 48) 48 0 4)) 49 (va_cpy (zX σ 63) (zX σ 49) 52 0 4)) 50 (va_cpy (zX σ 63) (zX σ 50) 56 0 4)) 51 (va_cpy (zX σ 63) (zX σ 51) 60 0 4))) rfl ?_
  refine Z.eqS (st' := [.int (nI 64)]) rfl ?_
  refine Z.istore_n B dX12_all_65 (by decide) (L' := [(0, .ref 45), (1, .ref 63), (2, .int (zb true)), (3, .int (nI 64))]) rfl ?_
  refine Z.aload_n B dX12_all_66 (v := .ref 45) rfl rfl ?_
  refine Z.aload_n B dX12_all_67 (v := .ref 45) rfl rfl ?_
  refine Z.getR (σ := (zuX (zuX (zuX (zuX (zuX σ 47 (va_cpy (zX σ 63) (zX σ 47) 0 0 48)) 48 (va_cpy (zX σ 63) (zX σ 48) 48 0 4)) 49 (va_cpy (zX σ 63) (zX σ 49) 52 0 4)) 50 (va_cpy (zX σ 63) (zX σ 50) 56 0 4)) 51 (va_cpy (zX σ 63) (zX σ 51) 60 0 4))) B fX12_35_12 dX12_all_68 (hl.n (k := 45) (by decide)) (hl.k (k := 45) (by decide)) (by decide) (j := 52) (hl.r (k := 45) (f := 11) (by decide) (by decide)) ?_
  refine Z.bipush B dX12_all_71 (v := nI 8) rfl ?_
  refine Z.aload_n B dX12_all_73 (v := .ref 63) rfl rfl ?_
  refine Z.iload_n B dX12_all_74 (x := nI 64) rfl ?_
  refine Z.iload_n B dX12_all_75 (x := zb true) rfl ?_
  refine Z.callVI (σ := (zuX (zuX (zuX (zuX (zuX σ 47 (va_cpy (zX σ 63) (zX σ 47) 0 0 48)) 48 (va_cpy (zX σ 63) (zX σ 48) 48 0 4)) 49 (va_cpy (zX σ 63) (zX σ 49) 52 0 4)) 50 (va_cpy (zX σ 63) (zX σ 50) 56 0 4)) 51 (va_cpy (zX σ 63) (zX σ 51) 60 0 4))) B (M' := mX12_keeps) (as := [.ref 52, .int (nI 8), .ref 63, .int (nI 64), .int (zb true)]) (st := []) (v := .int (nI (64 + 8))) dX12_all_76 wX12_keeps iX12_keeps sX12_keeps kX12_175 (hl.n (k := 45) (by decide)) (hl.k (k := 45) (by decide)) (by decide) rfl rfl (t_keeps_b_52_63 (σ := (zuX (zuX (zuX (zuX (zuX σ 47 (va_cpy (zX σ 63) (zX σ 47) 0 0 48)) 48 (va_cpy (zX σ 63) (zX σ 48) 48 0 4)) 49 (va_cpy (zX σ 63) (zX σ 49) 52 0 4)) 50 (va_cpy (zX σ 63) (zX σ 50) 56 0 4)) 51 (va_cpy (zX σ 63) (zX σ 51) 60 0 4))) hl) rfl rfl (by decide) (by decide) (Nat.le_of_ble_eq_true rfl) (by decide) (by decide) ?_
  refine Z.eqσ (τ := (zuX (zuX (zuX (zuX (zuX (zuX σ 47 (va_cpy (zX σ 63) (zX σ 47) 0 0 48)) 48 (va_cpy (zX σ 63) (zX σ 48) 48 0 4)) 49 (va_cpy (zX σ 63) (zX σ 49) 52 0 4)) 50 (va_cpy (zX σ 63) (zX σ 50) 56 0 4)) 51 (va_cpy (zX σ 63) (zX σ 51) 60 0 4)) 52 (va_cpy (zX σ 63) (zX σ 52) 64 0 8))) rfl ?_
  refine Z.eqS (st' := [.int (nI 72)]) rfl ?_
  refine Z.istore_n B dX12_all_79 (by decide) (L' := [(0, .ref 45), (1, .ref 63), (2, .int (zb true)), (3, .int (nI 72))]) rfl ?_
  refine Z.aload_n B dX12_all_80 (v := .ref 45) rfl rfl ?_
  refine Z.aload_n B dX12_all_81 (v := .ref 45) rfl rfl ?_
  refine Z.getR (σ := (zuX (zuX (zuX (zuX (zuX (zuX σ 47 (va_cpy (zX σ 63) (zX σ 47) 0 0 48)) 48 (va_cpy (zX σ 63) (zX σ 48) 48 0 4)) 49 (va_cpy (zX σ 63) (zX σ 49) 52 0 4)) 50 (va_cpy (zX σ 63) (zX σ 50) 56 0 4)) 51 (va_cpy (zX σ 63) (zX σ 51) 60 0 4)) 52 (va_cpy (zX σ 63) (zX σ 52) 64 0 8))) B fX12_38_12 dX12_all_82 (hl.n (k := 45) (by decide)) (hl.k (k := 45) (by decide)) (by decide) (j := 53) (hl.r (k := 45) (f := 12) (by decide) (by decide)) ?_
  refine Z.bipush B dX12_all_85 (v := nI 8) rfl ?_
  refine Z.aload_n B dX12_all_87 (v := .ref 63) rfl rfl ?_
  refine Z.iload_n B dX12_all_88 (x := nI 72) rfl ?_
  refine Z.iload_n B dX12_all_89 (x := zb true) rfl ?_
  refine Z.callVI (σ := (zuX (zuX (zuX (zuX (zuX (zuX σ 47 (va_cpy (zX σ 63) (zX σ 47) 0 0 48)) 48 (va_cpy (zX σ 63) (zX σ 48) 48 0 4)) 49 (va_cpy (zX σ 63) (zX σ 49) 52 0 4)) 50 (va_cpy (zX σ 63) (zX σ 50) 56 0 4)) 51 (va_cpy (zX σ 63) (zX σ 51) 60 0 4)) 52 (va_cpy (zX σ 63) (zX σ 52) 64 0 8))) B (M' := mX12_keeps) (as := [.ref 53, .int (nI 8), .ref 63, .int (nI 72), .int (zb true)]) (st := []) (v := .int (nI (72 + 8))) dX12_all_90 wX12_keeps iX12_keeps sX12_keeps kX12_175 (hl.n (k := 45) (by decide)) (hl.k (k := 45) (by decide)) (by decide) rfl rfl (t_keeps_b_53_63 (σ := (zuX (zuX (zuX (zuX (zuX (zuX σ 47 (va_cpy (zX σ 63) (zX σ 47) 0 0 48)) 48 (va_cpy (zX σ 63) (zX σ 48) 48 0 4)) 49 (va_cpy (zX σ 63) (zX σ 49) 52 0 4)) 50 (va_cpy (zX σ 63) (zX σ 50) 56 0 4)) 51 (va_cpy (zX σ 63) (zX σ 51) 60 0 4)) 52 (va_cpy (zX σ 63) (zX σ 52) 64 0 8))) hl) rfl rfl (by decide) (by decide) (Nat.le_of_ble_eq_true rfl) (by decide) (by decide) ?_
  refine Z.eqσ (τ := (zuX (zuX (zuX (zuX (zuX (zuX (zuX σ 47 (va_cpy (zX σ 63) (zX σ 47) 0 0 48)) 48 (va_cpy (zX σ 63) (zX σ 48) 48 0 4)) 49 (va_cpy (zX σ 63) (zX σ 49) 52 0 4)) 50 (va_cpy (zX σ 63) (zX σ 50) 56 0 4)) 51 (va_cpy (zX σ 63) (zX σ 51) 60 0 4)) 52 (va_cpy (zX σ 63) (zX σ 52) 64 0 8)) 53 (va_cpy (zX σ 63) (zX σ 53) 72 0 8))) rfl ?_
  refine Z.eqS (st' := [.int (nI 80)]) rfl ?_
  refine Z.istore_n B dX12_all_93 (by decide) (L' := [(0, .ref 45), (1, .ref 63), (2, .int (zb true)), (3, .int (nI 80))]) rfl ?_
  refine Z.iload_n B dX12_all_94 (x := zb true) rfl ?_
  refine Z.if_eqB B dX12_all_95 (tgt := 135) rfl (fun h95 => by cases h95) (fun h95 => ?_)
  refine Z.aload_n B dX12_all_98 (v := .ref 45) rfl rfl ?_
  refine Z.aload_n B dX12_all_99 (v := .ref 63) rfl rfl ?_
  refine Z.iload_n B dX12_all_100 (x := nI 80) rfl ?_
  refine Z.iald (σ := (zuX (zuX (zuX (zuX (zuX (zuX (zuX σ 47 (va_cpy (zX σ 63) (zX σ 47) 0 0 48)) 48 (va_cpy (zX σ 63) (zX σ 48) 48 0 4)) 49 (va_cpy (zX σ 63) (zX σ 49) 52 0 4)) 50 (va_cpy (zX σ 63) (zX σ 50) 56 0 4)) 51 (va_cpy (zX σ 63) (zX σ 51) 60 0 4)) 52 (va_cpy (zX σ 63) (zX σ 52) 64 0 8)) 53 (va_cpy (zX σ 63) (zX σ 53) 72 0 8))) B dX12_all_101 (n := 90) (hl.n (k := 63) (by decide)) (hl.k (k := 63) (by decide)) (hl.l (k := 63) (by decide)) (by decide) (j := 80) rfl (by omega) (v := (zX σ 63 80)) rfl ?_
  refine Z.putI (σ := (zuX (zuX (zuX (zuX (zuX (zuX (zuX σ 47 (va_cpy (zX σ 63) (zX σ 47) 0 0 48)) 48 (va_cpy (zX σ 63) (zX σ 48) 48 0 4)) 49 (va_cpy (zX σ 63) (zX σ 49) 52 0 4)) 50 (va_cpy (zX σ 63) (zX σ 50) 56 0 4)) 51 (va_cpy (zX σ 63) (zX σ 51) 60 0 4)) 52 (va_cpy (zX σ 63) (zX σ 52) 64 0 8)) 53 (va_cpy (zX σ 63) (zX σ 53) 72 0 8))) B fX12_81_12 (ty := .int) ⟨_, _, _, rfl, rfl, by decide +kernel⟩ dX12_all_102 (hl.n (k := 45) (by decide)) (hl.k (k := 45) (by decide)) (by decide) rfl rfl (τ := (zuX (zuX (zuX (zuX (zuX (zuX (zuX (zuX σ 47 (va_cpy (zX σ 63) (zX σ 47) 0 0 48)) 48 (va_cpy (zX σ 63) (zX σ 48) 48 0 4)) 49 (va_cpy (zX σ 63) (zX σ 49) 52 0 4)) 50 (va_cpy (zX σ 63) (zX σ 50) 56 0 4)) 51 (va_cpy (zX σ 63) (zX σ 51) 60 0 4)) 52 (va_cpy (zX σ 63) (zX σ 52) 64 0 8)) 53 (va_cpy (zX σ 63) (zX σ 53) 72 0 8)) 45 (upd (zX σ 45) 0 (zX σ 63 80)))) rfl ?_
  refine Z.aload_n B dX12_all_105 (v := .ref 45) rfl rfl ?_
  refine Z.aload_n B dX12_all_106 (v := .ref 63) rfl rfl ?_
  refine Z.iload_n B dX12_all_107 (x := nI 80) rfl ?_
  refine Z.iconst B dX12_all_108 (v := nI 1) rfl ?_
  refine Z.iaddN B dX12_all_109 (a := 80) (b := 1) ?_
  refine Z.iald (σ := (zuX (zuX (zuX (zuX (zuX (zuX (zuX (zuX σ 47 (va_cpy (zX σ 63) (zX σ 47) 0 0 48)) 48 (va_cpy (zX σ 63) (zX σ 48) 48 0 4)) 49 (va_cpy (zX σ 63) (zX σ 49) 52 0 4)) 50 (va_cpy (zX σ 63) (zX σ 50) 56 0 4)) 51 (va_cpy (zX σ 63) (zX σ 51) 60 0 4)) 52 (va_cpy (zX σ 63) (zX σ 52) 64 0 8)) 53 (va_cpy (zX σ 63) (zX σ 53) 72 0 8)) 45 (upd (zX σ 45) 0 (zX σ 63 80)))) B dX12_all_110 (n := 90) (hl.n (k := 63) (by decide)) (hl.k (k := 63) (by decide)) (hl.l (k := 63) (by decide)) (by decide) (j := 80 + 1) rfl (by omega) (v := (zX σ 63 (80 + 1))) rfl ?_
  refine Z.putI (σ := (zuX (zuX (zuX (zuX (zuX (zuX (zuX (zuX σ 47 (va_cpy (zX σ 63) (zX σ 47) 0 0 48)) 48 (va_cpy (zX σ 63) (zX σ 48) 48 0 4)) 49 (va_cpy (zX σ 63) (zX σ 49) 52 0 4)) 50 (va_cpy (zX σ 63) (zX σ 50) 56 0 4)) 51 (va_cpy (zX σ 63) (zX σ 51) 60 0 4)) 52 (va_cpy (zX σ 63) (zX σ 52) 64 0 8)) 53 (va_cpy (zX σ 63) (zX σ 53) 72 0 8)) 45 (upd (zX σ 45) 0 (zX σ 63 80)))) B fX12_84_12 (ty := .int) ⟨_, _, _, rfl, rfl, by decide +kernel⟩ dX12_all_111 (hl.n (k := 45) (by decide)) (hl.k (k := 45) (by decide)) (by decide) rfl rfl (τ := (zuX (zuX (zuX (zuX (zuX (zuX (zuX (zuX σ 47 (va_cpy (zX σ 63) (zX σ 47) 0 0 48)) 48 (va_cpy (zX σ 63) (zX σ 48) 48 0 4)) 49 (va_cpy (zX σ 63) (zX σ 49) 52 0 4)) 50 (va_cpy (zX σ 63) (zX σ 50) 56 0 4)) 51 (va_cpy (zX σ 63) (zX σ 51) 60 0 4)) 52 (va_cpy (zX σ 63) (zX σ 52) 64 0 8)) 53 (va_cpy (zX σ 63) (zX σ 53) 72 0 8)) 45 (upd (upd (zX σ 45) 0 (zX σ 63 80)) 1 (zX σ 63 (80 + 1))))) (by simp only [zX_self, zuX_uX]) ?_
  refine Z.aload_n B dX12_all_114 (v := .ref 45) rfl rfl ?_
  refine Z.aload_n B dX12_all_115 (v := .ref 63) rfl rfl ?_
  refine Z.iload_n B dX12_all_116 (x := nI 80) rfl ?_
  refine Z.iconst B dX12_all_117 (v := nI 2) rfl ?_
  refine Z.iaddN B dX12_all_118 (a := 80) (b := 2) ?_
  refine Z.iald (σ := (zuX (zuX (zuX (zuX (zuX (zuX (zuX (zuX σ 47 (va_cpy (zX σ 63) (zX σ 47) 0 0 48)) 48 (va_cpy (zX σ 63) (zX σ 48) 48 0 4)) 49 (va_cpy (zX σ 63) (zX σ 49) 52 0 4)) 50 (va_cpy (zX σ 63) (zX σ 50) 56 0 4)) 51 (va_cpy (zX σ 63) (zX σ 51) 60 0 4)) 52 (va_cpy (zX σ 63) (zX σ 52) 64 0 8)) 53 (va_cpy (zX σ 63) (zX σ 53) 72 0 8)) 45 (upd (upd (zX σ 45) 0 (zX σ 63 80)) 1 (zX σ 63 (80 + 1))))) B dX12_all_119 (n := 90) (hl.n (k := 63) (by decide)) (hl.k (k := 63) (by decide)) (hl.l (k := 63) (by decide)) (by decide) (j := 80 + 2) rfl (by omega) (v := (zX σ 63 (80 + 2))) rfl ?_
  refine Z.putI (σ := (zuX (zuX (zuX (zuX (zuX (zuX (zuX (zuX σ 47 (va_cpy (zX σ 63) (zX σ 47) 0 0 48)) 48 (va_cpy (zX σ 63) (zX σ 48) 48 0 4)) 49 (va_cpy (zX σ 63) (zX σ 49) 52 0 4)) 50 (va_cpy (zX σ 63) (zX σ 50) 56 0 4)) 51 (va_cpy (zX σ 63) (zX σ 51) 60 0 4)) 52 (va_cpy (zX σ 63) (zX σ 52) 64 0 8)) 53 (va_cpy (zX σ 63) (zX σ 53) 72 0 8)) 45 (upd (upd (zX σ 45) 0 (zX σ 63 80)) 1 (zX σ 63 (80 + 1))))) B fX12_87_12 (ty := .int) ⟨_, _, _, rfl, rfl, by decide +kernel⟩ dX12_all_120 (hl.n (k := 45) (by decide)) (hl.k (k := 45) (by decide)) (by decide) rfl rfl (τ := (zuX (zuX (zuX (zuX (zuX (zuX (zuX (zuX σ 47 (va_cpy (zX σ 63) (zX σ 47) 0 0 48)) 48 (va_cpy (zX σ 63) (zX σ 48) 48 0 4)) 49 (va_cpy (zX σ 63) (zX σ 49) 52 0 4)) 50 (va_cpy (zX σ 63) (zX σ 50) 56 0 4)) 51 (va_cpy (zX σ 63) (zX σ 51) 60 0 4)) 52 (va_cpy (zX σ 63) (zX σ 52) 64 0 8)) 53 (va_cpy (zX σ 63) (zX σ 53) 72 0 8)) 45 (upd (upd (upd (zX σ 45) 0 (zX σ 63 80)) 1 (zX σ 63 (80 + 1))) 2 (zX σ 63 (80 + 2))))) (by simp only [zX_self, zuX_uX]) ?_
  refine Z.aload_n B dX12_all_123 (v := .ref 45) rfl rfl ?_
  refine Z.aload_n B dX12_all_124 (v := .ref 63) rfl rfl ?_
  refine Z.iload_n B dX12_all_125 (x := nI 80) rfl ?_
  refine Z.iconst B dX12_all_126 (v := nI 3) rfl ?_
  refine Z.iaddN B dX12_all_127 (a := 80) (b := 3) ?_
  refine Z.iald (σ := (zuX (zuX (zuX (zuX (zuX (zuX (zuX (zuX σ 47 (va_cpy (zX σ 63) (zX σ 47) 0 0 48)) 48 (va_cpy (zX σ 63) (zX σ 48) 48 0 4)) 49 (va_cpy (zX σ 63) (zX σ 49) 52 0 4)) 50 (va_cpy (zX σ 63) (zX σ 50) 56 0 4)) 51 (va_cpy (zX σ 63) (zX σ 51) 60 0 4)) 52 (va_cpy (zX σ 63) (zX σ 52) 64 0 8)) 53 (va_cpy (zX σ 63) (zX σ 53) 72 0 8)) 45 (upd (upd (upd (zX σ 45) 0 (zX σ 63 80)) 1 (zX σ 63 (80 + 1))) 2 (zX σ 63 (80 + 2))))) B dX12_all_128 (n := 90) (hl.n (k := 63) (by decide)) (hl.k (k := 63) (by decide)) (hl.l (k := 63) (by decide)) (by decide) (j := 80 + 3) rfl (by omega) (v := (zX σ 63 (80 + 3))) rfl ?_
  refine Z.putI (σ := (zuX (zuX (zuX (zuX (zuX (zuX (zuX (zuX σ 47 (va_cpy (zX σ 63) (zX σ 47) 0 0 48)) 48 (va_cpy (zX σ 63) (zX σ 48) 48 0 4)) 49 (va_cpy (zX σ 63) (zX σ 49) 52 0 4)) 50 (va_cpy (zX σ 63) (zX σ 50) 56 0 4)) 51 (va_cpy (zX σ 63) (zX σ 51) 60 0 4)) 52 (va_cpy (zX σ 63) (zX σ 52) 64 0 8)) 53 (va_cpy (zX σ 63) (zX σ 53) 72 0 8)) 45 (upd (upd (upd (zX σ 45) 0 (zX σ 63 80)) 1 (zX σ 63 (80 + 1))) 2 (zX σ 63 (80 + 2))))) B fX12_7_12 (ty := .int) ⟨_, _, _, rfl, rfl, by decide +kernel⟩ dX12_all_129 (hl.n (k := 45) (by decide)) (hl.k (k := 45) (by decide)) (by decide) rfl rfl (τ := (zuX (zuX (zuX (zuX (zuX (zuX (zuX (zuX σ 47 (va_cpy (zX σ 63) (zX σ 47) 0 0 48)) 48 (va_cpy (zX σ 63) (zX σ 48) 48 0 4)) 49 (va_cpy (zX σ 63) (zX σ 49) 52 0 4)) 50 (va_cpy (zX σ 63) (zX σ 50) 56 0 4)) 51 (va_cpy (zX σ 63) (zX σ 51) 60 0 4)) 52 (va_cpy (zX σ 63) (zX σ 52) 64 0 8)) 53 (va_cpy (zX σ 63) (zX σ 53) 72 0 8)) 45 (upd (upd (upd (upd (zX σ 45) 0 (zX σ 63 80)) 1 (zX σ 63 (80 + 1))) 2 (zX σ 63 (80 + 2))) 3 (zX σ 63 (80 + 3))))) (by simp only [zX_self, zuX_uX]) ?_
  refine Z.goto B dX12_all_132 (tgt := 169) rfl ?_
  refine Z.vret B Rt dX12_all_169 rfl (by decide) (by decide) ?_
  exact ⟨rfl, rfl⟩

theorem t_M_image_0 {σ : zSt} (hl : Lay σ) {n a y : Nat} (H : zMd σ n a y)  : Dt mX12_image [.ref 45] σ (some (.int (nI y))) (zuX (zuX σ 45 (upd (zX σ 45) 32 (nI 1))) 63 (upd (upd (upd (upd (va_cpy (zX σ 53) (va_cpy (zX σ 52) (va_cpy (zX σ 51) (va_cpy (zX σ 50) (va_cpy (zX σ 49) (va_cpy (zX σ 48) (va_cpy (zX σ 47) (zX σ 63) 0 0 48) 0 48 4) 0 52 4) 0 56 4) 0 60 4) 0 64 8) 0 72 8) 80 (nI n)) (80 + 1) (nI a)) (80 + 2) (nI y)) (80 + 3) (zX σ 45 3))) := by
  obtain ⟨-, hn, hn8, ha, ha4, hy, hy8⟩ := id H
  refine Dt.of (by decide) (Nat.le_of_ble_eq_true rfl) fun κ B Rt => ?_
  show Z κ 0 0 σ 0 [(0, .ref 45)] []
  refine Z.aload_n B dX12_image_0 (v := .ref 45) rfl rfl ?_
  refine Z.iconst B dX12_image_1 (v := nI 1) rfl ?_
  refine Z.putI (σ := σ) B fX12_242_12 (ty := .boolean) ⟨_, _, _, rfl, rfl, by decide +kernel⟩ dX12_image_2 (hl.n (k := 45) (by decide)) (hl.k (k := 45) (by decide)) (by decide) rfl rfl (τ := (zuX σ 45 (upd (zX σ 45) 32 (nI 1)))) rfl ?_
  refine Z.aload_n B dX12_image_5 (v := .ref 45) rfl rfl ?_
  refine Z.aload_n B dX12_image_6 (v := .ref 45) rfl rfl ?_
  refine Z.getR (σ := (zuX σ 45 (upd (zX σ 45) 32 (nI 1)))) B fX12_69_12 dX12_image_7 (hl.n (k := 45) (by decide)) (hl.k (k := 45) (by decide)) (by decide) (j := 63) (hl.r (k := 45) (f := 27) (by decide) (by decide)) ?_
  refine Z.iconst B dX12_image_10 (v := nI 0) rfl ?_
  have efalse : nI 0 = zb false := rfl
  refine Z.callVN (σ := (zuX σ 45 (upd (zX σ 45) 32 (nI 1)))) B (M' := mX12_all) (as := [.ref 63, .int (zb false)]) (st := []) dX12_image_11 wX12_all iX12_all sX12_all kX12_179 (hl.n (k := 45) (by decide)) (hl.k (k := 45) (by decide)) (by decide) rfl rfl (t_M_all_s_63 (σ := (zuX σ 45 (upd (zX σ 45) 32 (nI 1)))) hl H) rfl rfl (by decide) (by decide) (Nat.le_of_ble_eq_true rfl) (by decide) (by decide) ?_
  refine Z.eqσ (τ := (zuX (zuX σ 45 (upd (zX σ 45) 32 (nI 1))) 63 (upd (upd (upd (upd (va_cpy (zX σ 53) (va_cpy (zX σ 52) (va_cpy (zX σ 51) (va_cpy (zX σ 50) (va_cpy (zX σ 49) (va_cpy (zX σ 48) (va_cpy (zX σ 47) (zX σ 63) 0 0 48) 0 48 4) 0 52 4) 0 56 4) 0 60 4) 0 64 8) 0 72 8) 80 (nI n)) (80 + 1) (nI a)) (80 + 2) (nI y)) (80 + 3) (zX σ 45 3)))) rfl ?_
  refine Z.aload_n B dX12_image_14 (v := .ref 45) rfl rfl ?_
  refine Z.getI (σ := (zuX (zuX σ 45 (upd (zX σ 45) 32 (nI 1))) 63 (upd (upd (upd (upd (va_cpy (zX σ 53) (va_cpy (zX σ 52) (va_cpy (zX σ 51) (va_cpy (zX σ 50) (va_cpy (zX σ 49) (va_cpy (zX σ 48) (va_cpy (zX σ 47) (zX σ 63) 0 0 48) 0 48 4) 0 52 4) 0 56 4) 0 60 4) 0 64 8) 0 72 8) 80 (nI n)) (80 + 1) (nI a)) (80 + 2) (nI y)) (80 + 3) (zX σ 45 3)))) B fX12_87_12 dX12_image_15 (hl.n (k := 45) (by decide)) (hl.k (k := 45) (by decide)) (by decide) (v := nI y) hy ?_
  refine Z.iret B Rt dX12_image_18 (ty := .int) rfl rfl (by decide) (by decide) ?_
  exact ⟨rfl, rfl⟩

theorem t_K_image_0 {σ : zSt} (hl : Lay σ) {n a y : Nat} (H : zHd σ n a y) (h1 : ∀ k, 48 ≤ k → zX σ 28 k = zX σ 21 k) (h2 : ∀ k, 12 ≤ k → zX σ 29 k = zX σ 22 k) (h3 : ∀ k, 4 ≤ k → zX σ 30 k = zX σ 23 k) (h4 : ∀ k, 8 ≤ k → zR σ 31 k = zR σ 24 k) (hW : ∀ k, k < 8 → ∀ q, zR σ 24 k = some q → 66 ≤ q ∧ q < zN σ ∧ zIsW (zK σ q)) : Dt mX11_image [.ref 0] σ (some (.int (nI y))) (zuX (zuX (zuR (zuX (zuX (zuX σ 28 (zX σ 21)) 29 (zX σ 22)) 30 (zX σ 23)) 31 (zR σ 24)) 27 (upd (upd (upd (upd (zX σ 27) 2 (zX σ 20 2)) 5 (zX σ 20 5)) 7 (zX σ 20 7)) 8 (zX σ 20 8))) 0 (upd (zX σ 0) 7 (nI 1))) := by
  obtain ⟨-, hn, hn8, ha, ha4, hy, hy8⟩ := id H
  refine Dt.of (by decide) (Nat.le_of_ble_eq_true rfl) fun κ B Rt => ?_
  show Z κ 0 0 σ 0 [(0, .ref 0)] []
  refine Z.aload_n B dX11_image_0 (v := .ref 0) rfl rfl ?_
  refine Z.getR (σ := σ) B fX11_32_11 dX11_image_1 (hl.n (k := 0) (by decide)) (hl.k (k := 0) (by decide)) (by decide) (j := 27) (hl.r (k := 0) (f := 3) (by decide) (by decide)) ?_
  refine Z.aload_n B dX11_image_4 (v := .ref 0) rfl rfl ?_
  refine Z.getR (σ := σ) B fX11_28_11 dX11_image_5 (hl.n (k := 0) (by decide)) (hl.k (k := 0) (by decide)) (by decide) (j := 20) (hl.r (k := 0) (f := 2) (by decide) (by decide)) ?_
  refine Z.callVN (σ := σ) B (M' := mX1_takeOver) (as := [.ref 20]) (st := []) dX11_image_8 wX1_takeOver iX1_takeOver sX1_takeOver kX11_196 (hl.n (k := 27) (by decide)) (hl.k (k := 27) (by decide)) (by decide) rfl rfl (t_X1_takeOver_27_20 (σ := σ) hl h1 h2 h3 h4 hW) rfl rfl (by decide) (by decide) (Nat.le_of_ble_eq_true rfl) (by decide) (by decide) ?_
  refine Z.eqσ (τ := (zuX (zuR (zuX (zuX (zuX σ 28 (zX σ 21)) 29 (zX σ 22)) 30 (zX σ 23)) 31 (zR σ 24)) 27 (upd (upd (upd (upd (zX σ 27) 2 (zX σ 20 2)) 5 (zX σ 20 5)) 7 (zX σ 20 7)) 8 (zX σ 20 8)))) rfl ?_
  have hl2 : Lay (zuX (zuR (zuX (zuX (zuX σ 28 (zX σ 21)) 29 (zX σ 22)) 30 (zX σ 23)) 31 (zR σ 24)) 27 (upd (upd (upd (upd (zX σ 27) 2 (zX σ 20 2)) 5 (zX σ 20 5)) 7 (zX σ 20 7)) 8 (zX σ 20 8))) := Lay.uR (σ := (zuX (zuX (zuX σ 28 (zX σ 21)) 29 (zX σ 22)) 30 (zX σ 23))) (k := 31) (f := zR σ 24) hl (fun _ => rfl)
  refine Z.aload_n B dX11_image_11 (v := .ref 0) rfl rfl ?_
  refine Z.iconst B dX11_image_12 (v := nI 1) rfl ?_
  refine Z.putI (σ := (zuX (zuR (zuX (zuX (zuX σ 28 (zX σ 21)) 29 (zX σ 22)) 30 (zX σ 23)) 31 (zR σ 24)) 27 (upd (upd (upd (upd (zX σ 27) 2 (zX σ 20 2)) 5 (zX σ 20 5)) 7 (zX σ 20 7)) 8 (zX σ 20 8)))) B fX11_51_11 (ty := .boolean) ⟨_, _, _, rfl, rfl, by decide +kernel⟩ dX11_image_13 (hl2.n (k := 0) (by decide)) (hl2.k (k := 0) (by decide)) (by decide) rfl rfl (τ := (zuX (zuX (zuR (zuX (zuX (zuX σ 28 (zX σ 21)) 29 (zX σ 22)) 30 (zX σ 23)) 31 (zR σ 24)) 27 (upd (upd (upd (upd (zX σ 27) 2 (zX σ 20 2)) 5 (zX σ 20 5)) 7 (zX σ 20 7)) 8 (zX σ 20 8))) 0 (upd (zX σ 0) 7 (nI 1)))) rfl ?_
  refine Z.aload_n B dX11_image_16 (v := .ref 0) rfl rfl ?_
  refine Z.getR (σ := (zuX (zuX (zuR (zuX (zuX (zuX σ 28 (zX σ 21)) 29 (zX σ 22)) 30 (zX σ 23)) 31 (zR σ 24)) 27 (upd (upd (upd (upd (zX σ 27) 2 (zX σ 20 2)) 5 (zX σ 20 5)) 7 (zX σ 20 7)) 8 (zX σ 20 8))) 0 (upd (zX σ 0) 7 (nI 1)))) B fX11_28_11 dX11_image_17 (hl2.n (k := 0) (by decide)) (hl2.k (k := 0) (by decide)) (by decide) (j := 20) (hl2.r (k := 0) (f := 2) (by decide) (by decide)) ?_
  refine Z.callVI (σ := (zuX (zuX (zuR (zuX (zuX (zuX σ 28 (zX σ 21)) 29 (zX σ 22)) 30 (zX σ 23)) 31 (zR σ 24)) 27 (upd (upd (upd (upd (zX σ 27) 2 (zX σ 20 2)) 5 (zX σ 20 5)) 7 (zX σ 20 7)) 8 (zX σ 20 8))) 0 (upd (zX σ 0) 7 (nI 1)))) B (M' := mX1_wayCount) (as := []) (st := []) (v := .int (nI y)) dX11_image_20 wX1_wayCount iX1_wayCount sX1_wayCount kX11_295 (hl2.n (k := 20) (by decide)) (hl2.k (k := 20) (by decide)) (by decide) rfl rfl (t_X1_wayCount (σ := (zuX (zuX (zuR (zuX (zuX (zuX σ 28 (zX σ 21)) 29 (zX σ 22)) 30 (zX σ 23)) 31 (zR σ 24)) 27 (upd (upd (upd (upd (zX σ 27) 2 (zX σ 20 2)) 5 (zX σ 20 5)) 7 (zX σ 20 7)) 8 (zX σ 20 8))) 0 (upd (zX σ 0) 7 (nI 1)))) ⟨hl2, hn, hn8, ha, ha4, hy, hy8⟩) rfl rfl (by decide) (by decide) (Nat.le_of_ble_eq_true rfl) (by decide) (by decide) ?_
  refine Z.iret B Rt dX11_image_23 (ty := .int) rfl rfl (by decide) (by decide) ?_
  exact ⟨rfl, rfl⟩
