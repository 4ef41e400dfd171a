/-! what is said: in order, together; the greatest -/
def dd (Dr : Nat → Int32) (od : Nat → Nat) : Nat → Int32 := fun p => Dr (od p)
def ss (F S K : Nat → Int32) (kd pa : Nat) (od : Nat → Nat) (c : Nat) : Nat → Int32 := fun p => shW F S K kd pa (od p) c
def tt (F S K Dr : Nat → Int32) (sl : Bool) (kd pa : Nat) (od : Nat → Nat) (c m : Nat) : Int32 := st_ sl (dd Dr od) (ss F S K kd pa od c) m
def tf (F S K Dr : Nat → Int32) (sl : Bool) (kd pa : Nat) (od : Nat → Nat) (a : Nat) : Nat → Int32 := fun c => tt F S K Dr sl kd pa od c a
theorem sd_s {F S K Dr : Nat → Int32} {sl : Bool} {kd pa : Nat} {od : Nat → Nat} {c p : Nat} : sd sl (dd Dr od) (ss F S K kd pa od c) (p + 1) = ((nI 10 - (if sl = true ∨ p = 0 then nI 0 else Dr (od p))) * shW F S K kd pa (od p) c + (if sl = true ∨ p = 0 then nI 0 else Dr (od p)) * sd sl (dd Dr od) (ss F S K kd pa od c) p) / nI 10 := rfl
theorem st_s {sl : Bool} {d s : Nat → Int32} {p : Nat} : st_ sl d s (p + 1) = st_ sl d s p + sd sl d s (p + 1) := rfl
theorem ga_cong {f g : Nat → Int32} : ∀ i, (∀ j, j ≤ i → f j = g j) → ga f i = ga g i
  | 0, _ => rfl
  | i + 1, h => by
    have e := ga_cong i (fun j hj => h j (by omega))
    simp only [ga, e]
    rw [h _ (Nat.le_succ_of_le (ga_le g i)), h (i + 1) (Nat.le_refl _)]
theorem gI_cong {f g : Nat → Int32} {n : Nat} (h : ∀ j, j < n → f j = g j) : gI f n = gI g n := by
  cases n with
  | zero => rfl
  | succ n => exact congrArg nI (ga_cong n fun j hj => h j (by omega))
theorem gI_fi {f g : Nat → Int32} {n : Nat} : gI (fi n f g) n = gI f n := gI_cong fun _ hj => fi_at hj
theorem gI_pos {f : Nat → Int32} {n : Nat} (h : 0 < n) : gI f n = nI (ga f (n - 1)) := by
  obtain ⟨m, rfl⟩ : ∃ m, n = m + 1 := ⟨n - 1, by omega⟩
  rfl
theorem ga_lt {f : Nat → Int32} {n : Nat} (h : 0 < n) : ga f (n - 1) < n := Nat.lt_of_le_of_lt (ga_le f _) (by omega)
theorem zHd.uX {σ : zSt} {n a y k : Nat} {f : Nat → Int32} (h : zHd σ n a y) (hk : k ≠ 20) : zHd (zuX σ k f) n a y := by
  have e : zX (zuX σ k f) 20 = zX σ 20 := zfu_ne (Ne.symm hk)
  obtain ⟨h1, h2, h3, h4, h5, h6, h7⟩ := h
  exact ⟨h1, by rw [e]; exact h2, h3, by rw [e]; exact h4, h5, by rw [e]; exact h6, h7⟩

theorem Z.shown {M : zM} {κ : zCtx} {u w : Nat} {σ : zSt} {pc : Nat} {L : List (Nat × Value)} {st : List Value} (B : zB M κ) {idx n a y q kd pa num b c : Nat} (hd : decode M.2.1 pc = .ok (.invokevirtual idx, 3)) (hlk : Cond.methodLink M.1.cls idx yX9_shown ∈ zT) (H : zHd σ n a y) (hw : zWo σ q kd pa num) (hb : b < a) (hc : c < n)
    (hrm : (zRm2 M mX9_shown && zRm2 M mX7_shown && zRm2 M mX10_shown && zRm2 M mX3_shown && zRm2 M mX5_shown && zRm2 M mX0_shown) = true) (hcat : (st.map fun v => v.category).sum ≤ 8) (hu : u ≤ zcells M) (hw2 : w ≤ zslots M)
    (kk : Z κ u w σ (pc + 3) L (.int (shW (zX σ 21) (zSc σ) (zLk σ) kd pa b c) :: st)) : Z κ u w σ pc L (.int (nI c) :: .int (nI b) :: .ref 20 :: .ref q :: st) := by
  simp only [Bool.and_eq_true] at hrm
  obtain ⟨⟨⟨⟨⟨r9, r7⟩, r10⟩, r3⟩, r5⟩, r0⟩ := hrm
  have h6 := hw.2.2.2.2.2.2.1
  have hkd : kd = 0 ∨ kd = 1 ∨ kd = 2 ∨ kd = 3 ∨ kd = 4 ∨ kd = 5 ∨ kd = 6 := by omega
  rcases hkd with rfl | rfl | rfl | rfl | rfl | rfl | rfl
  · exact Z.callVI B (M' := mX9_shown) (as := [.ref 20, .int (nI b), .int (nI c)]) (st := st) (v := .int (shW (zX σ 21) (zSc σ) (zLk σ) 0 pa b c)) hd wX9_shown iX9_shown sX9_shown hlk hw.1 hw.2.1 (by decide) rfl rfl (t_shown_0 H hw hb hc) rfl rfl r9 (by decide) hcat hu hw2 kk
  · exact Z.callUI B (M' := mX7_shown) (as := [.ref 20, .int (nI b), .int (nI c)]) (st := st) (v := .int (shW (zX σ 21) (zSc σ) (zLk σ) 1 pa b c)) hd wX7_shown iX7_shown (x := yX9_shown) (owner := "FourAskOne$Way") hlk (zT_at 400 (by decide +kernel) rfl) iX9_shown wX9_shown.1 (by decide +kernel) hw.1 hw.2.1 (by decide) rfl (zT_at 424 (by decide +kernel) rfl) (t_shown_1 H hw hb hc) rfl rfl r7 (by decide) hcat hu hw2 kk
  · exact Z.callUI B (M' := mX7_shown) (as := [.ref 20, .int (nI b), .int (nI c)]) (st := st) (v := .int (shW (zX σ 21) (zSc σ) (zLk σ) 2 pa b c)) hd wX7_shown iX7_shown (x := yX9_shown) (owner := "FourAskOne$Way") hlk (zT_at 400 (by decide +kernel) rfl) iX9_shown wX9_shown.1 (by decide +kernel) hw.1 hw.2.1 (by decide) rfl (zT_at 409 (by decide +kernel) rfl) (t_shown_2 H hw hb hc) rfl rfl r7 (by decide) hcat hu hw2 kk
  · exact Z.callUI B (M' := mX10_shown) (as := [.ref 20, .int (nI b), .int (nI c)]) (st := st) (v := .int (shW (zX σ 21) (zSc σ) (zLk σ) 3 pa b c)) hd wX10_shown iX10_shown (x := yX9_shown) (owner := "FourAskOne$Way") hlk (zT_at 400 (by decide +kernel) rfl) iX9_shown wX9_shown.1 (by decide +kernel) hw.1 hw.2.1 (by decide) rfl (zT_at 425 (by decide +kernel) rfl) (t_shown_3 H hw hb hc) rfl rfl r10 (by decide) hcat hu hw2 kk
  · exact Z.callUI B (M' := mX3_shown) (as := [.ref 20, .int (nI b), .int (nI c)]) (st := st) (v := .int (shW (zX σ 21) (zSc σ) (zLk σ) 4 pa b c)) hd wX3_shown iX3_shown (x := yX9_shown) (owner := "FourAskOne$Way") hlk (zT_at 400 (by decide +kernel) rfl) iX9_shown wX9_shown.1 (by decide +kernel) hw.1 hw.2.1 (by decide) rfl (zT_at 405 (by decide +kernel) rfl) (t_shown_4 H hw hb hc) rfl rfl r3 (by decide) hcat hu hw2 kk
  · exact Z.callUI B (M' := mX5_shown) (as := [.ref 20, .int (nI b), .int (nI c)]) (st := st) (v := .int (shW (zX σ 21) (zSc σ) (zLk σ) 5 pa b c)) hd wX5_shown iX5_shown (x := yX9_shown) (owner := "FourAskOne$Way") hlk (zT_at 400 (by decide +kernel) rfl) iX9_shown wX9_shown.1 (by decide +kernel) hw.1 hw.2.1 (by decide) rfl (zT_at 423 (by decide +kernel) rfl) (t_shown_5 H hw hb hc) rfl rfl r5 (by decide) hcat hu hw2 kk
  · exact Z.callUI B (M' := mX0_shown) (as := [.ref 20, .int (nI b), .int (nI c)]) (st := st) (v := .int (shW (zX σ 21) (zSc σ) (zLk σ) 6 pa b c)) hd wX0_shown iX0_shown (x := yX9_shown) (owner := "FourAskOne$Way") hlk (zT_at 400 (by decide +kernel) rfl) iX9_shown wX9_shown.1 (by decide +kernel) hw.1 hw.2.1 (by decide) rfl (zT_at 401 (by decide +kernel) rfl) (t_shown_6 H hw hb hc) rfl rfl r0 (by decide) hcat hu hw2 kk

theorem t_X1_saidByFirst {σ : zSt} {n a y : Nat} (H : zHd σ n a y) {od : Nat → Nat} (ho : zOd σ a od) {q kd pa num : Nat} (hw : zWo σ q kd pa num) {sl : Bool} {m c : Nat} (hm : m ≤ a) (hc : c < n) : Dt mX1_saidByFirst [.ref 20, .int (nI m), .ref q, .int (zb sl), .int (nI c)] σ (some (.int (tt (zX σ 21) (zSc σ) (zLk σ) (zDr σ) sl kd pa od c m))) σ := by
  obtain ⟨hl, hn, hn8, ha, ha4, hy, hy8⟩ := id H
  refine Dt.of (by decide) (Nat.le_of_ble_eq_true rfl) fun κ B Rt => ?_
  show Z κ 0 0 σ 0 [(0, .ref 20), (1, .int (nI m)), (2, .ref q), (3, .int (zb sl)), (4, .int (nI c))] []
  refine Z.iconst B dX1_saidByFirst_0 (v := nI 0) rfl ?_
  refine Z.istore B dX1_saidByFirst_1 (by decide) (L' := [(0, .ref 20), (1, .int (nI m)), (2, .ref q), (3, .int (zb sl)), (4, .int (nI c)), (5, .int (nI 0))]) rfl ?_
  refine Z.iconst B dX1_saidByFirst_3 (v := nI 0) rfl ?_
  refine Z.istore B dX1_saidByFirst_4 (by decide) (L' := [(0, .ref 20), (1, .int (nI m)), (2, .ref q), (3, .int (zb sl)), (4, .int (nI c)), (5, .int (nI 0)), (6, .int (nI 0))]) rfl ?_
  refine Z.iconst B dX1_saidByFirst_6 (v := nI 0) rfl ?_
  refine Z.istore B dX1_saidByFirst_7 (by decide) (L' := [(0, .ref 20), (1, .int (nI m)), (2, .ref q), (3, .int (zb sl)), (4, .int (nI c)), (5, .int (nI 0)), (6, .int (nI 0)), (7, .int (nI 0))]) rfl ?_
  have hloop9 : ∀ p : Nat, p ≤ m → Z κ 0 0 σ 9 [(0, .ref 20), (1, .int (nI m)), (2, .ref q), (3, .int (zb sl)), (4, .int (nI c)), (5, .int (sd sl (dd (zDr σ) od) (ss (zX σ 21) (zSc σ) (zLk σ) kd pa od c) p)), (6, .int (st_ sl (dd (zDr σ) od) (ss (zX σ 21) (zSc σ) (zLk σ) kd pa od c) p)), (7, .int (nI p))] [] := by
    refine z_loop (fun p => m - p) (fun p ih hp => ?_)
    refine Z.iload B dX1_saidByFirst_9 (x := nI p) rfl ?_
    refine Z.iload_n B dX1_saidByFirst_11 (x := nI m) rfl ?_
    refine Z.icmp_geN B dX1_saidByFirst_12 (tgt := 94) rfl (by omega) (by omega) (fun h12 => ?_) (fun h12 => ?_)
    · skip
      obtain rfl : p = m := by omega
      refine Z.iload B dX1_saidByFirst_94 (x := st_ sl (dd (zDr σ) od) (ss (zX σ 21) (zSc σ) (zLk σ) kd pa od c) p) rfl ?_
      refine Z.iret B Rt dX1_saidByFirst_96 (ty := .int) rfl rfl (by decide) (by decide) ?_
      exact ⟨rfl, rfl⟩
    · skip
      refine Z.iload B dX1_saidByFirst_15 (x := nI p) rfl ?_
      refine Z.aload_n B dX1_saidByFirst_17 (v := .ref 20) rfl rfl ?_
      refine Z.getI (σ := σ) B fX1_41_1 dX1_saidByFirst_18 (hl.n (k := 20) (by decide)) (hl.k (k := 20) (by decide)) (by decide) (v := nI a) ha ?_
      refine Z.icmp_geN B dX1_saidByFirst_21 (tgt := 94) rfl (by omega) (by omega) (fun h21 => by exfalso; first | omega | contradiction | simp_all) (fun h21 => ?_)
      refine Z.aload_n B dX1_saidByFirst_24 (v := .ref 20) rfl rfl ?_
      refine Z.getR (σ := σ) B fX1_22_1 dX1_saidByFirst_25 (hl.n (k := 20) (by decide)) (hl.k (k := 20) (by decide)) (by decide) (j := 23) (hl.r (k := 20) (f := 4) (by decide) (by decide)) ?_
      refine Z.iload B dX1_saidByFirst_28 (x := nI p) rfl ?_
      refine Z.iald (σ := σ) B dX1_saidByFirst_30 (n := 4) (hl.n (k := 23) (by decide)) (hl.k (k := 23) (by decide)) (hl.l (k := 23) (by decide)) (by decide) (j := p) rfl (by omega) (v := nI (od p)) (ho p (by omega)).1 ?_
      have ho2 := (ho p (by omega)).2
      refine Z.istore B dX1_saidByFirst_31 (by decide) (L' := [(0, .ref 20), (1, .int (nI m)), (2, .ref q), (3, .int (zb sl)), (4, .int (nI c)), (5, .int (sd sl (dd (zDr σ) od) (ss (zX σ 21) (zSc σ) (zLk σ) kd pa od c) p)), (6, .int (st_ sl (dd (zDr σ) od) (ss (zX σ 21) (zSc σ) (zLk σ) kd pa od c) p)), (7, .int (nI p)), (8, .int (nI (od p)))]) rfl ?_
      refine Z.iload_n B dX1_saidByFirst_33 (x := zb sl) rfl ?_
      refine Z.if_neB B dX1_saidByFirst_34 (tgt := 42) rfl (fun h34 => ?_) (fun h34 => ?_)
      · skip
        refine Z.iconst B dX1_saidByFirst_42 (v := nI 0) rfl ?_
        refine Z.goto B dX1_saidByFirst_43 (tgt := 53) rfl ?_
        refine Z.eqS (st' := [.int (if sl = true ∨ p = 0 then nI 0 else zDr σ (od p))]) (by first | rw [if_pos (Or.inl h34)] | rw [if_pos (Or.inr h39)] | rw [if_neg (by rw [h34]; exact fun h => h.elim (fun h => by cases h) h39)]) ?_
        refine Z.istore B dX1_saidByFirst_53 (by decide) (L' := [(0, .ref 20), (1, .int (nI m)), (2, .ref q), (3, .int (zb sl)), (4, .int (nI c)), (5, .int (sd sl (dd (zDr σ) od) (ss (zX σ 21) (zSc σ) (zLk σ) kd pa od c) p)), (6, .int (st_ sl (dd (zDr σ) od) (ss (zX σ 21) (zSc σ) (zLk σ) kd pa od c) p)), (7, .int (nI p)), (8, .int (nI (od p))), (9, .int (if sl = true ∨ p = 0 then nI 0 else zDr σ (od p)))]) rfl ?_
        refine Z.bipush B dX1_saidByFirst_55 (v := nI 10) rfl ?_
        refine Z.iload B dX1_saidByFirst_57 (x := (if sl = true ∨ p = 0 then nI 0 else zDr σ (od p))) rfl ?_
        refine Z.isub B dX1_saidByFirst_59 ?_
        refine Z.aload_n B dX1_saidByFirst_60 (v := .ref q) rfl rfl ?_
        refine Z.aload_n B dX1_saidByFirst_61 (v := .ref 20) rfl rfl ?_
        refine Z.iload B dX1_saidByFirst_62 (x := nI (od p)) rfl ?_
        refine Z.iload B dX1_saidByFirst_64 (x := nI c) rfl ?_
        refine Z.shown (σ := σ) B dX1_saidByFirst_66 kX1_102 (b := (od p)) (c := c) H hw ho2 hc (by decide) (Nat.le_of_ble_eq_true rfl) (by decide) (by decide) ?_
        show Z κ 0 0 σ 69 [(0, .ref 20), (1, .int (nI m)), (2, .ref q), (3, .int (zb sl)), (4, .int (nI c)), (5, .int (sd sl (dd (zDr σ) od) (ss (zX σ 21) (zSc σ) (zLk σ) kd pa od c) p)), (6, .int (st_ sl (dd (zDr σ) od) (ss (zX σ 21) (zSc σ) (zLk σ) kd pa od c) p)), (7, .int (nI p)), (8, .int (nI (od p))), (9, .int (if sl = true ∨ p = 0 then nI 0 else zDr σ (od p)))] [.int (shW (zX σ 21) (zSc σ) (zLk σ) kd pa (od p) c), .int ((nI 10) - (if sl = true ∨ p = 0 then nI 0 else zDr σ (od p)))]
        refine Z.imul B dX1_saidByFirst_69 ?_
        refine Z.iload B dX1_saidByFirst_70 (x := (if sl = true ∨ p = 0 then nI 0 else zDr σ (od p))) rfl ?_
        refine Z.iload B dX1_saidByFirst_72 (x := sd sl (dd (zDr σ) od) (ss (zX σ 21) (zSc σ) (zLk σ) kd pa od c) p) rfl ?_
        refine Z.imul B dX1_saidByFirst_74 ?_
        refine Z.iadd B dX1_saidByFirst_75 ?_
        refine Z.bipush B dX1_saidByFirst_76 (v := nI 10) rfl ?_
        refine Z.idiv B dX1_saidByFirst_78 (by decide) ?_
        refine Z.istore B dX1_saidByFirst_79 (by decide) (L' := [(0, .ref 20), (1, .int (nI m)), (2, .ref q), (3, .int (zb sl)), (4, .int (nI c)), (5, .int (((((nI 10) - (if sl = true ∨ p = 0 then nI 0 else zDr σ (od p))) * (shW (zX σ 21) (zSc σ) (zLk σ) kd pa (od p) c)) + ((if sl = true ∨ p = 0 then nI 0 else zDr σ (od p)) * (sd sl (dd (zDr σ) od) (ss (zX σ 21) (zSc σ) (zLk σ) kd pa od c) p))) / (nI 10))), (6, .int (st_ sl (dd (zDr σ) od) (ss (zX σ 21) (zSc σ) (zLk σ) kd pa od c) p)), (7, .int (nI p)), (8, .int (nI (od p))), (9, .int (if sl = true ∨ p = 0 then nI 0 else zDr σ (od p)))]) rfl ?_
        refine Z.iload B dX1_saidByFirst_81 (x := st_ sl (dd (zDr σ) od) (ss (zX σ 21) (zSc σ) (zLk σ) kd pa od c) p) rfl ?_
        refine Z.iload B dX1_saidByFirst_83 (x := (((((nI 10) - (if sl = true ∨ p = 0 then nI 0 else zDr σ (od p))) * (shW (zX σ 21) (zSc σ) (zLk σ) kd pa (od p) c)) + ((if sl = true ∨ p = 0 then nI 0 else zDr σ (od p)) * (sd sl (dd (zDr σ) od) (ss (zX σ 21) (zSc σ) (zLk σ) kd pa od c) p))) / (nI 10))) rfl ?_
        refine Z.iadd B dX1_saidByFirst_85 ?_
        refine Z.istore B dX1_saidByFirst_86 (by decide) (L' := [(0, .ref 20), (1, .int (nI m)), (2, .ref q), (3, .int (zb sl)), (4, .int (nI c)), (5, .int (((((nI 10) - (if sl = true ∨ p = 0 then nI 0 else zDr σ (od p))) * (shW (zX σ 21) (zSc σ) (zLk σ) kd pa (od p) c)) + ((if sl = true ∨ p = 0 then nI 0 else zDr σ (od p)) * (sd sl (dd (zDr σ) od) (ss (zX σ 21) (zSc σ) (zLk σ) kd pa od c) p))) / (nI 10))), (6, .int ((st_ sl (dd (zDr σ) od) (ss (zX σ 21) (zSc σ) (zLk σ) kd pa od c) p) + (((((nI 10) - (if sl = true ∨ p = 0 then nI 0 else zDr σ (od p))) * (shW (zX σ 21) (zSc σ) (zLk σ) kd pa (od p) c)) + ((if sl = true ∨ p = 0 then nI 0 else zDr σ (od p)) * (sd sl (dd (zDr σ) od) (ss (zX σ 21) (zSc σ) (zLk σ) kd pa od c) p))) / (nI 10)))), (7, .int (nI p)), (8, .int (nI (od p))), (9, .int (if sl = true ∨ p = 0 then nI 0 else zDr σ (od p)))]) rfl ?_
        refine Z.iincN B dX1_saidByFirst_88 (by decide) (a := p) rfl (L' := [(0, .ref 20), (1, .int (nI m)), (2, .ref q), (3, .int (zb sl)), (4, .int (nI c)), (5, .int (((((nI 10) - (if sl = true ∨ p = 0 then nI 0 else zDr σ (od p))) * (shW (zX σ 21) (zSc σ) (zLk σ) kd pa (od p) c)) + ((if sl = true ∨ p = 0 then nI 0 else zDr σ (od p)) * (sd sl (dd (zDr σ) od) (ss (zX σ 21) (zSc σ) (zLk σ) kd pa od c) p))) / (nI 10))), (6, .int ((st_ sl (dd (zDr σ) od) (ss (zX σ 21) (zSc σ) (zLk σ) kd pa od c) p) + (((((nI 10) - (if sl = true ∨ p = 0 then nI 0 else zDr σ (od p))) * (shW (zX σ 21) (zSc σ) (zLk σ) kd pa (od p) c)) + ((if sl = true ∨ p = 0 then nI 0 else zDr σ (od p)) * (sd sl (dd (zDr σ) od) (ss (zX σ 21) (zSc σ) (zLk σ) kd pa od c) p))) / (nI 10)))), (7, .int (nI (p + 1))), (8, .int (nI (od p))), (9, .int (if sl = true ∨ p = 0 then nI 0 else zDr σ (od p)))]) rfl ?_
        refine Z.goto B dX1_saidByFirst_91 (tgt := 9) rfl ?_
        refine Z.drop 8 (L' := [(0, .ref 20), (1, .int (nI m)), (2, .ref q), (3, .int (zb sl)), (4, .int (nI c)), (5, .int (((((nI 10) - (if sl = true ∨ p = 0 then nI 0 else zDr σ (od p))) * (shW (zX σ 21) (zSc σ) (zLk σ) kd pa (od p) c)) + ((if sl = true ∨ p = 0 then nI 0 else zDr σ (od p)) * (sd sl (dd (zDr σ) od) (ss (zX σ 21) (zSc σ) (zLk σ) kd pa od c) p))) / (nI 10))), (6, .int ((st_ sl (dd (zDr σ) od) (ss (zX σ 21) (zSc σ) (zLk σ) kd pa od c) p) + (((((nI 10) - (if sl = true ∨ p = 0 then nI 0 else zDr σ (od p))) * (shW (zX σ 21) (zSc σ) (zLk σ) kd pa (od p) c)) + ((if sl = true ∨ p = 0 then nI 0 else zDr σ (od p)) * (sd sl (dd (zDr σ) od) (ss (zX σ 21) (zSc σ) (zLk σ) kd pa od c) p))) / (nI 10)))), (7, .int (nI (p + 1))), (9, .int (if sl = true ∨ p = 0 then nI 0 else zDr σ (od p)))]) rfl ?_
        refine Z.drop 9 (L' := [(0, .ref 20), (1, .int (nI m)), (2, .ref q), (3, .int (zb sl)), (4, .int (nI c)), (5, .int (((((nI 10) - (if sl = true ∨ p = 0 then nI 0 else zDr σ (od p))) * (shW (zX σ 21) (zSc σ) (zLk σ) kd pa (od p) c)) + ((if sl = true ∨ p = 0 then nI 0 else zDr σ (od p)) * (sd sl (dd (zDr σ) od) (ss (zX σ 21) (zSc σ) (zLk σ) kd pa od c) p))) / (nI 10))), (6, .int ((st_ sl (dd (zDr σ) od) (ss (zX σ 21) (zSc σ) (zLk σ) kd pa od c) p) + (((((nI 10) - (if sl = true ∨ p = 0 then nI 0 else zDr σ (od p))) * (shW (zX σ 21) (zSc σ) (zLk σ) kd pa (od p) c)) + ((if sl = true ∨ p = 0 then nI 0 else zDr σ (od p)) * (sd sl (dd (zDr σ) od) (ss (zX σ 21) (zSc σ) (zLk σ) kd pa od c) p))) / (nI 10)))), (7, .int (nI (p + 1)))]) rfl ?_
        have e := ih (p + 1) (by omega) (by omega)
        rw [st_s, sd_s] at e
        exact e
      · skip
        refine Z.iload B dX1_saidByFirst_37 (x := nI p) rfl ?_
        refine Z.if_neN B dX1_saidByFirst_39 (tgt := 46) rfl (by omega) (fun h39 => ?_) (fun h39 => ?_)
        · skip
          refine Z.aload_n B dX1_saidByFirst_46 (v := .ref 20) rfl rfl ?_
          refine Z.iload B dX1_saidByFirst_47 (x := nI (od p)) rfl ?_
          refine Z.iconst B dX1_saidByFirst_49 (v := nI 2) rfl ?_
          refine Z.callVI (σ := σ) B (M' := mX1_askerNumber) (as := [.int (nI (od p)), .int (nI 2)]) (st := []) (v := .int (zDr σ (od p))) dX1_saidByFirst_50 wX1_askerNumber iX1_askerNumber sX1_askerNumber kX1_99 (hl.n (k := 20) (by decide)) (hl.k (k := 20) (by decide)) (by decide) rfl rfl (t_X1_askerNumber (σ := σ) H ho2 (by decide)) rfl rfl (by decide) (by decide) (Nat.le_of_ble_eq_true rfl) (by decide) (by decide) ?_
          refine Z.eqS (st' := [.int (if sl = true ∨ p = 0 then nI 0 else zDr σ (od p))]) (by first | rw [if_pos (Or.inl h34)] | rw [if_pos (Or.inr h39)] | rw [if_neg (by rw [h34]; exact fun h => h.elim (fun h => by cases h) h39)]) ?_
          refine Z.istore B dX1_saidByFirst_53 (by decide) (L' := [(0, .ref 20), (1, .int (nI m)), (2, .ref q), (3, .int (zb sl)), (4, .int (nI c)), (5, .int (sd sl (dd (zDr σ) od) (ss (zX σ 21) (zSc σ) (zLk σ) kd pa od c) p)), (6, .int (st_ sl (dd (zDr σ) od) (ss (zX σ 21) (zSc σ) (zLk σ) kd pa od c) p)), (7, .int (nI p)), (8, .int (nI (od p))), (9, .int (if sl = true ∨ p = 0 then nI 0 else zDr σ (od p)))]) rfl ?_
          refine Z.bipush B dX1_saidByFirst_55 (v := nI 10) rfl ?_
          refine Z.iload B dX1_saidByFirst_57 (x := (if sl = true ∨ p = 0 then nI 0 else zDr σ (od p))) rfl ?_
          refine Z.isub B dX1_saidByFirst_59 ?_
          refine Z.aload_n B dX1_saidByFirst_60 (v := .ref q) rfl rfl ?_
          refine Z.aload_n B dX1_saidByFirst_61 (v := .ref 20) rfl rfl ?_
          refine Z.iload B dX1_saidByFirst_62 (x := nI (od p)) rfl ?_
          refine Z.iload B dX1_saidByFirst_64 (x := nI c) rfl ?_
          refine Z.shown (σ := σ) B dX1_saidByFirst_66 kX1_102 (b := (od p)) (c := c) H hw ho2 hc (by decide) (Nat.le_of_ble_eq_true rfl) (by decide) (by decide) ?_
          show Z κ 0 0 σ 69 [(0, .ref 20), (1, .int (nI m)), (2, .ref q), (3, .int (zb sl)), (4, .int (nI c)), (5, .int (sd sl (dd (zDr σ) od) (ss (zX σ 21) (zSc σ) (zLk σ) kd pa od c) p)), (6, .int (st_ sl (dd (zDr σ) od) (ss (zX σ 21) (zSc σ) (zLk σ) kd pa od c) p)), (7, .int (nI p)), (8, .int (nI (od p))), (9, .int (if sl = true ∨ p = 0 then nI 0 else zDr σ (od p)))] [.int (shW (zX σ 21) (zSc σ) (zLk σ) kd pa (od p) c), .int ((nI 10) - (if sl = true ∨ p = 0 then nI 0 else zDr σ (od p)))]
          refine Z.imul B dX1_saidByFirst_69 ?_
          refine Z.iload B dX1_saidByFirst_70 (x := (if sl = true ∨ p = 0 then nI 0 else zDr σ (od p))) rfl ?_
          refine Z.iload B dX1_saidByFirst_72 (x := sd sl (dd (zDr σ) od) (ss (zX σ 21) (zSc σ) (zLk σ) kd pa od c) p) rfl ?_
          refine Z.imul B dX1_saidByFirst_74 ?_
          refine Z.iadd B dX1_saidByFirst_75 ?_
          refine Z.bipush B dX1_saidByFirst_76 (v := nI 10) rfl ?_
          refine Z.idiv B dX1_saidByFirst_78 (by decide) ?_
          refine Z.istore B dX1_saidByFirst_79 (by decide) (L' := [(0, .ref 20), (1, .int (nI m)), (2, .ref q), (3, .int (zb sl)), (4, .int (nI c)), (5, .int (((((nI 10) - (if sl = true ∨ p = 0 then nI 0 else zDr σ (od p))) * (shW (zX σ 21) (zSc σ) (zLk σ) kd pa (od p) c)) + ((if sl = true ∨ p = 0 then nI 0 else zDr σ (od p)) * (sd sl (dd (zDr σ) od) (ss (zX σ 21) (zSc σ) (zLk σ) kd pa od c) p))) / (nI 10))), (6, .int (st_ sl (dd (zDr σ) od) (ss (zX σ 21) (zSc σ) (zLk σ) kd pa od c) p)), (7, .int (nI p)), (8, .int (nI (od p))), (9, .int (if sl = true ∨ p = 0 then nI 0 else zDr σ (od p)))]) rfl ?_
          refine Z.iload B dX1_saidByFirst_81 (x := st_ sl (dd (zDr σ) od) (ss (zX σ 21) (zSc σ) (zLk σ) kd pa od c) p) rfl ?_
          refine Z.iload B dX1_saidByFirst_83 (x := (((((nI 10) - (if sl = true ∨ p = 0 then nI 0 else zDr σ (od p))) * (shW (zX σ 21) (zSc σ) (zLk σ) kd pa (od p) c)) + ((if sl = true ∨ p = 0 then nI 0 else zDr σ (od p)) * (sd sl (dd (zDr σ) od) (ss (zX σ 21) (zSc σ) (zLk σ) kd pa od c) p))) / (nI 10))) rfl ?_
          refine Z.iadd B dX1_saidByFirst_85 ?_
          refine Z.istore B dX1_saidByFirst_86 (by decide) (L' := [(0, .ref 20), (1, .int (nI m)), (2, .ref q), (3, .int (zb sl)), (4, .int (nI c)), (5, .int (((((nI 10) - (if sl = true ∨ p = 0 then nI 0 else zDr σ (od p))) * (shW (zX σ 21) (zSc σ) (zLk σ) kd pa (od p) c)) + ((if sl = true ∨ p = 0 then nI 0 else zDr σ (od p)) * (sd sl (dd (zDr σ) od) (ss (zX σ 21) (zSc σ) (zLk σ) kd pa od c) p))) / (nI 10))), (6, .int ((st_ sl (dd (zDr σ) od) (ss (zX σ 21) (zSc σ) (zLk σ) kd pa od c) p) + (((((nI 10) - (if sl = true ∨ p = 0 then nI 0 else zDr σ (od p))) * (shW (zX σ 21) (zSc σ) (zLk σ) kd pa (od p) c)) + ((if sl = true ∨ p = 0 then nI 0 else zDr σ (od p)) * (sd sl (dd (zDr σ) od) (ss (zX σ 21) (zSc σ) (zLk σ) kd pa od c) p))) / (nI 10)))), (7, .int (nI p)), (8, .int (nI (od p))), (9, .int (if sl = true ∨ p = 0 then nI 0 else zDr σ (od p)))]) rfl ?_
          refine Z.iincN B dX1_saidByFirst_88 (by decide) (a := p) rfl (L' := [(0, .ref 20), (1, .int (nI m)), (2, .ref q), (3, .int (zb sl)), (4, .int (nI c)), (5, .int (((((nI 10) - (if sl = true ∨ p = 0 then nI 0 else zDr σ (od p))) * (shW (zX σ 21) (zSc σ) (zLk σ) kd pa (od p) c)) + ((if sl = true ∨ p = 0 then nI 0 else zDr σ (od p)) * (sd sl (dd (zDr σ) od) (ss (zX σ 21) (zSc σ) (zLk σ) kd pa od c) p))) / (nI 10))), (6, .int ((st_ sl (dd (zDr σ) od) (ss (zX σ 21) (zSc σ) (zLk σ) kd pa od c) p) + (((((nI 10) - (if sl = true ∨ p = 0 then nI 0 else zDr σ (od p))) * (shW (zX σ 21) (zSc σ) (zLk σ) kd pa (od p) c)) + ((if sl = true ∨ p = 0 then nI 0 else zDr σ (od p)) * (sd sl (dd (zDr σ) od) (ss (zX σ 21) (zSc σ) (zLk σ) kd pa od c) p))) / (nI 10)))), (7, .int (nI (p + 1))), (8, .int (nI (od p))), (9, .int (if sl = true ∨ p = 0 then nI 0 else zDr σ (od p)))]) rfl ?_
          refine Z.goto B dX1_saidByFirst_91 (tgt := 9) rfl ?_
          refine Z.drop 8 (L' := [(0, .ref 20), (1, .int (nI m)), (2, .ref q), (3, .int (zb sl)), (4, .int (nI c)), (5, .int (((((nI 10) - (if sl = true ∨ p = 0 then nI 0 else zDr σ (od p))) * (shW (zX σ 21) (zSc σ) (zLk σ) kd pa (od p) c)) + ((if sl = true ∨ p = 0 then nI 0 else zDr σ (od p)) * (sd sl (dd (zDr σ) od) (ss (zX σ 21) (zSc σ) (zLk σ) kd pa od c) p))) / (nI 10))), (6, .int ((st_ sl (dd (zDr σ) od) (ss (zX σ 21) (zSc σ) (zLk σ) kd pa od c) p) + (((((nI 10) - (if sl = true ∨ p = 0 then nI 0 else zDr σ (od p))) * (shW (zX σ 21) (zSc σ) (zLk σ) kd pa (od p) c)) + ((if sl = true ∨ p = 0 then nI 0 else zDr σ (od p)) * (sd sl (dd (zDr σ) od) (ss (zX σ 21) (zSc σ) (zLk σ) kd pa od c) p))) / (nI 10)))), (7, .int (nI (p + 1))), (9, .int (if sl = true ∨ p = 0 then nI 0 else zDr σ (od p)))]) rfl ?_
          refine Z.drop 9 (L' := [(0, .ref 20), (1, .int (nI m)), (2, .ref q), (3, .int (zb sl)), (4, .int (nI c)), (5, .int (((((nI 10) - (if sl = true ∨ p = 0 then nI 0 else zDr σ (od p))) * (shW (zX σ 21) (zSc σ) (zLk σ) kd pa (od p) c)) + ((if sl = true ∨ p = 0 then nI 0 else zDr σ (od p)) * (sd sl (dd (zDr σ) od) (ss (zX σ 21) (zSc σ) (zLk σ) kd pa od c) p))) / (nI 10))), (6, .int ((st_ sl (dd (zDr σ) od) (ss (zX σ 21) (zSc σ) (zLk σ) kd pa od c) p) + (((((nI 10) - (if sl = true ∨ p = 0 then nI 0 else zDr σ (od p))) * (shW (zX σ 21) (zSc σ) (zLk σ) kd pa (od p) c)) + ((if sl = true ∨ p = 0 then nI 0 else zDr σ (od p)) * (sd sl (dd (zDr σ) od) (ss (zX σ 21) (zSc σ) (zLk σ) kd pa od c) p))) / (nI 10)))), (7, .int (nI (p + 1)))]) rfl ?_
          have e := ih (p + 1) (by omega) (by omega)
          rw [st_s, sd_s] at e
          exact e
        · skip
          refine Z.iconst B dX1_saidByFirst_42 (v := nI 0) rfl ?_
          refine Z.goto B dX1_saidByFirst_43 (tgt := 53) rfl ?_
          refine Z.eqS (st' := [.int (if sl = true ∨ p = 0 then nI 0 else zDr σ (od p))]) (by first | rw [if_pos (Or.inl h34)] | rw [if_pos (Or.inr h39)] | rw [if_neg (by rw [h34]; exact fun h => h.elim (fun h => by cases h) h39)]) ?_
          refine Z.istore B dX1_saidByFirst_53 (by decide) (L' := [(0, .ref 20), (1, .int (nI m)), (2, .ref q), (3, .int (zb sl)), (4, .int (nI c)), (5, .int (sd sl (dd (zDr σ) od) (ss (zX σ 21) (zSc σ) (zLk σ) kd pa od c) p)), (6, .int (st_ sl (dd (zDr σ) od) (ss (zX σ 21) (zSc σ) (zLk σ) kd pa od c) p)), (7, .int (nI p)), (8, .int (nI (od p))), (9, .int (if sl = true ∨ p = 0 then nI 0 else zDr σ (od p)))]) rfl ?_
          refine Z.bipush B dX1_saidByFirst_55 (v := nI 10) rfl ?_
          refine Z.iload B dX1_saidByFirst_57 (x := (if sl = true ∨ p = 0 then nI 0 else zDr σ (od p))) rfl ?_
          refine Z.isub B dX1_saidByFirst_59 ?_
          refine Z.aload_n B dX1_saidByFirst_60 (v := .ref q) rfl rfl ?_
          refine Z.aload_n B dX1_saidByFirst_61 (v := .ref 20) rfl rfl ?_
          refine Z.iload B dX1_saidByFirst_62 (x := nI (od p)) rfl ?_
          refine Z.iload B dX1_saidByFirst_64 (x := nI c) rfl ?_
          refine Z.shown (σ := σ) B dX1_saidByFirst_66 kX1_102 (b := (od p)) (c := c) H hw ho2 hc (by decide) (Nat.le_of_ble_eq_true rfl) (by decide) (by decide) ?_
          show Z κ 0 0 σ 69 [(0, .ref 20), (1, .int (nI m)), (2, .ref q), (3, .int (zb sl)), (4, .int (nI c)), (5, .int (sd sl (dd (zDr σ) od) (ss (zX σ 21) (zSc σ) (zLk σ) kd pa od c) p)), (6, .int (st_ sl (dd (zDr σ) od) (ss (zX σ 21) (zSc σ) (zLk σ) kd pa od c) p)), (7, .int (nI p)), (8, .int (nI (od p))), (9, .int (if sl = true ∨ p = 0 then nI 0 else zDr σ (od p)))] [.int (shW (zX σ 21) (zSc σ) (zLk σ) kd pa (od p) c), .int ((nI 10) - (if sl = true ∨ p = 0 then nI 0 else zDr σ (od p)))]
          refine Z.imul B dX1_saidByFirst_69 ?_
          refine Z.iload B dX1_saidByFirst_70 (x := (if sl = true ∨ p = 0 then nI 0 else zDr σ (od p))) rfl ?_
          refine Z.iload B dX1_saidByFirst_72 (x := sd sl (dd (zDr σ) od) (ss (zX σ 21) (zSc σ) (zLk σ) kd pa od c) p) rfl ?_
          refine Z.imul B dX1_saidByFirst_74 ?_
          refine Z.iadd B dX1_saidByFirst_75 ?_
          refine Z.bipush B dX1_saidByFirst_76 (v := nI 10) rfl ?_
          refine Z.idiv B dX1_saidByFirst_78 (by decide) ?_
          refine Z.istore B dX1_saidByFirst_79 (by decide) (L' := [(0, .ref 20), (1, .int (nI m)), (2, .ref q), (3, .int (zb sl)), (4, .int (nI c)), (5, .int (((((nI 10) - (if sl = true ∨ p = 0 then nI 0 else zDr σ (od p))) * (shW (zX σ 21) (zSc σ) (zLk σ) kd pa (od p) c)) + ((if sl = true ∨ p = 0 then nI 0 else zDr σ (od p)) * (sd sl (dd (zDr σ) od) (ss (zX σ 21) (zSc σ) (zLk σ) kd pa od c) p))) / (nI 10))), (6, .int (st_ sl (dd (zDr σ) od) (ss (zX σ 21) (zSc σ) (zLk σ) kd pa od c) p)), (7, .int (nI p)), (8, .int (nI (od p))), (9, .int (if sl = true ∨ p = 0 then nI 0 else zDr σ (od p)))]) rfl ?_
          refine Z.iload B dX1_saidByFirst_81 (x := st_ sl (dd (zDr σ) od) (ss (zX σ 21) (zSc σ) (zLk σ) kd pa od c) p) rfl ?_
          refine Z.iload B dX1_saidByFirst_83 (x := (((((nI 10) - (if sl = true ∨ p = 0 then nI 0 else zDr σ (od p))) * (shW (zX σ 21) (zSc σ) (zLk σ) kd pa (od p) c)) + ((if sl = true ∨ p = 0 then nI 0 else zDr σ (od p)) * (sd sl (dd (zDr σ) od) (ss (zX σ 21) (zSc σ) (zLk σ) kd pa od c) p))) / (nI 10))) rfl ?_
          refine Z.iadd B dX1_saidByFirst_85 ?_
          refine Z.istore B dX1_saidByFirst_86 (by decide) (L' := [(0, .ref 20), (1, .int (nI m)), (2, .ref q), (3, .int (zb sl)), (4, .int (nI c)), (5, .int (((((nI 10) - (if sl = true ∨ p = 0 then nI 0 else zDr σ (od p))) * (shW (zX σ 21) (zSc σ) (zLk σ) kd pa (od p) c)) + ((if sl = true ∨ p = 0 then nI 0 else zDr σ (od p)) * (sd sl (dd (zDr σ) od) (ss (zX σ 21) (zSc σ) (zLk σ) kd pa od c) p))) / (nI 10))), (6, .int ((st_ sl (dd (zDr σ) od) (ss (zX σ 21) (zSc σ) (zLk σ) kd pa od c) p) + (((((nI 10) - (if sl = true ∨ p = 0 then nI 0 else zDr σ (od p))) * (shW (zX σ 21) (zSc σ) (zLk σ) kd pa (od p) c)) + ((if sl = true ∨ p = 0 then nI 0 else zDr σ (od p)) * (sd sl (dd (zDr σ) od) (ss (zX σ 21) (zSc σ) (zLk σ) kd pa od c) p))) / (nI 10)))), (7, .int (nI p)), (8, .int (nI (od p))), (9, .int (if sl = true ∨ p = 0 then nI 0 else zDr σ (od p)))]) rfl ?_
          refine Z.iincN B dX1_saidByFirst_88 (by decide) (a := p) rfl (L' := [(0, .ref 20), (1, .int (nI m)), (2, .ref q), (3, .int (zb sl)), (4, .int (nI c)), (5, .int (((((nI 10) - (if sl = true ∨ p = 0 then nI 0 else zDr σ (od p))) * (shW (zX σ 21) (zSc σ) (zLk σ) kd pa (od p) c)) + ((if sl = true ∨ p = 0 then nI 0 else zDr σ (od p)) * (sd sl (dd (zDr σ) od) (ss (zX σ 21) (zSc σ) (zLk σ) kd pa od c) p))) / (nI 10))), (6, .int ((st_ sl (dd (zDr σ) od) (ss (zX σ 21) (zSc σ) (zLk σ) kd pa od c) p) + (((((nI 10) - (if sl = true ∨ p = 0 then nI 0 else zDr σ (od p))) * (shW (zX σ 21) (zSc σ) (zLk σ) kd pa (od p) c)) + ((if sl = true ∨ p = 0 then nI 0 else zDr σ (od p)) * (sd sl (dd (zDr σ) od) (ss (zX σ 21) (zSc σ) (zLk σ) kd pa od c) p))) / (nI 10)))), (7, .int (nI (p + 1))), (8, .int (nI (od p))), (9, .int (if sl = true ∨ p = 0 then nI 0 else zDr σ (od p)))]) rfl ?_
          refine Z.goto B dX1_saidByFirst_91 (tgt := 9) rfl ?_
          refine Z.drop 8 (L' := [(0, .ref 20), (1, .int (nI m)), (2, .ref q), (3, .int (zb sl)), (4, .int (nI c)), (5, .int (((((nI 10) - (if sl = true ∨ p = 0 then nI 0 else zDr σ (od p))) * (shW (zX σ 21) (zSc σ) (zLk σ) kd pa (od p) c)) + ((if sl = true ∨ p = 0 then nI 0 else zDr σ (od p)) * (sd sl (dd (zDr σ) od) (ss (zX σ 21) (zSc σ) (zLk σ) kd pa od c) p))) / (nI 10))), (6, .int ((st_ sl (dd (zDr σ) od) (ss (zX σ 21) (zSc σ) (zLk σ) kd pa od c) p) + (((((nI 10) - (if sl = true ∨ p = 0 then nI 0 else zDr σ (od p))) * (shW (zX σ 21) (zSc σ) (zLk σ) kd pa (od p) c)) + ((if sl = true ∨ p = 0 then nI 0 else zDr σ (od p)) * (sd sl (dd (zDr σ) od) (ss (zX σ 21) (zSc σ) (zLk σ) kd pa od c) p))) / (nI 10)))), (7, .int (nI (p + 1))), (9, .int (if sl = true ∨ p = 0 then nI 0 else zDr σ (od p)))]) rfl ?_
          refine Z.drop 9 (L' := [(0, .ref 20), (1, .int (nI m)), (2, .ref q), (3, .int (zb sl)), (4, .int (nI c)), (5, .int (((((nI 10) - (if sl = true ∨ p = 0 then nI 0 else zDr σ (od p))) * (shW (zX σ 21) (zSc σ) (zLk σ) kd pa (od p) c)) + ((if sl = true ∨ p = 0 then nI 0 else zDr σ (od p)) * (sd sl (dd (zDr σ) od) (ss (zX σ 21) (zSc σ) (zLk σ) kd pa od c) p))) / (nI 10))), (6, .int ((st_ sl (dd (zDr σ) od) (ss (zX σ 21) (zSc σ) (zLk σ) kd pa od c) p) + (((((nI 10) - (if sl = true ∨ p = 0 then nI 0 else zDr σ (od p))) * (shW (zX σ 21) (zSc σ) (zLk σ) kd pa (od p) c)) + ((if sl = true ∨ p = 0 then nI 0 else zDr σ (od p)) * (sd sl (dd (zDr σ) od) (ss (zX σ 21) (zSc σ) (zLk σ) kd pa od c) p))) / (nI 10)))), (7, .int (nI (p + 1)))]) rfl ?_
          have e := ih (p + 1) (by omega) (by omega)
          rw [st_s, sd_s] at e
          exact e
  exact hloop9 0 (Nat.zero_le _)

theorem t_X1_saidBy {σ : zSt} {n a y : Nat} (H : zHd σ n a y) {od : Nat → Nat} (ho : zOd σ a od) {q kd pa num : Nat} (hw : zWo σ q kd pa num) {sl : Bool} {b p c : Nat} (hp : p < a) (hb : od p = b) (hmin : ∀ j, j < p → od j ≠ b) (hc : c < n) : Dt mX1_saidBy [.ref 20, .ref q, .int (zb sl), .int (nI b), .int (nI c)] σ (some (.int (tt (zX σ 21) (zSc σ) (zLk σ) (zDr σ) sl kd pa od c (p + 1) - tt (zX σ 21) (zSc σ) (zLk σ) (zDr σ) sl kd pa od c p))) σ := by
  obtain ⟨hl, hn, hn8, ha, ha4, hy, hy8⟩ := id H
  refine Dt.of (by decide) (Nat.le_of_ble_eq_true rfl) fun κ B Rt => ?_
  show Z κ 0 0 σ 0 [(0, .ref 20), (1, .ref q), (2, .int (zb sl)), (3, .int (nI b)), (4, .int (nI c))] []
  refine Z.aload_n B dX1_saidBy_0 (v := .ref 20) rfl rfl ?_
  refine Z.iload_n B dX1_saidBy_1 (x := nI b) rfl ?_
  refine Z.callVI (σ := σ) B (M' := mX1_placeOf) (as := [.int (nI b)]) (st := []) (v := .int (nI p)) dX1_saidBy_2 wX1_placeOf iX1_placeOf sX1_placeOf kX1_92 (hl.n (k := 20) (by decide)) (hl.k (k := 20) (by decide)) (by decide) rfl rfl (t_X1_placeOf (σ := σ) H ho hp hb hmin) rfl rfl (by decide) (by decide) (Nat.le_of_ble_eq_true rfl) (by decide) (by decide) ?_
  refine Z.istore B dX1_saidBy_5 (by decide) (L' := [(0, .ref 20), (1, .ref q), (2, .int (zb sl)), (3, .int (nI b)), (4, .int (nI c)), (5, .int (nI p))]) rfl ?_
  refine Z.aload_n B dX1_saidBy_7 (v := .ref 20) rfl rfl ?_
  refine Z.iload B dX1_saidBy_8 (x := nI p) rfl ?_
  refine Z.iconst B dX1_saidBy_10 (v := nI 1) rfl ?_
  refine Z.iaddN B dX1_saidBy_11 (a := p) (b := 1) ?_
  refine Z.aload_n B dX1_saidBy_12 (v := .ref q) rfl rfl ?_
  refine Z.iload_n B dX1_saidBy_13 (x := zb sl) rfl ?_
  refine Z.iload B dX1_saidBy_14 (x := nI c) rfl ?_
  refine Z.callVI (σ := σ) B (M' := mX1_saidByFirst) (as := [.int (nI (p + 1)), .ref q, .int (zb sl), .int (nI c)]) (st := []) (v := .int (tt (zX σ 21) (zSc σ) (zLk σ) (zDr σ) sl kd pa od c (p + 1))) dX1_saidBy_16 wX1_saidByFirst iX1_saidByFirst sX1_saidByFirst kX1_106 (hl.n (k := 20) (by decide)) (hl.k (k := 20) (by decide)) (by decide) rfl rfl (t_X1_saidByFirst (σ := σ) H ho hw (by omega) hc) rfl rfl (by decide) (by decide) (Nat.le_of_ble_eq_true rfl) (by decide) (by decide) ?_
  refine Z.aload_n B dX1_saidBy_19 (v := .ref 20) rfl rfl ?_
  refine Z.iload B dX1_saidBy_20 (x := nI p) rfl ?_
  refine Z.aload_n B dX1_saidBy_22 (v := .ref q) rfl rfl ?_
  refine Z.iload_n B dX1_saidBy_23 (x := zb sl) rfl ?_
  refine Z.iload B dX1_saidBy_24 (x := nI c) rfl ?_
  refine Z.callVI (σ := σ) B (M' := mX1_saidByFirst) (as := [.int (nI p), .ref q, .int (zb sl), .int (nI c)]) (st := [.int (tt (zX σ 21) (zSc σ) (zLk σ) (zDr σ) sl kd pa od c (p + 1))]) (v := .int (tt (zX σ 21) (zSc σ) (zLk σ) (zDr σ) sl kd pa od c p)) dX1_saidBy_26 wX1_saidByFirst iX1_saidByFirst sX1_saidByFirst kX1_106 (hl.n (k := 20) (by decide)) (hl.k (k := 20) (by decide)) (by decide) rfl rfl (t_X1_saidByFirst (σ := σ) H ho hw (by omega) hc) rfl rfl (by decide) (by decide) (Nat.le_of_ble_eq_true rfl) (by decide) (by decide) ?_
  refine Z.isub B dX1_saidBy_29 ?_
  refine Z.iret B Rt dX1_saidBy_30 (ty := .int) rfl rfl (by decide) (by decide) ?_
  exact ⟨rfl, rfl⟩

theorem t_X1_fillTotals_25 {σ : zSt} {n a y : Nat} (H : zHd σ n a y) {od : Nat → Nat} (ho : zOd σ a od) {q kd pa num : Nat} (hw : zWo σ q kd pa num) {sl : Bool} : Dt mX1_fillTotals [.ref 20, .ref 25, .ref q, .int (zb sl)] σ (none) (zuX σ 25 (fi n (tf (zX σ 21) (zSc σ) (zLk σ) (zDr σ) sl kd pa od a) (zX σ 25))) := by
  obtain ⟨hl, hn, hn8, ha, ha4, hy, hy8⟩ := id H
  refine Dt.of (by decide) (Nat.le_of_ble_eq_true rfl) fun κ B Rt => ?_
  show Z κ 0 0 σ 0 [(0, .ref 20), (1, .ref 25), (2, .ref q), (3, .int (zb sl))] []
  refine Z.iconst B dX1_fillTotals_0 (v := nI 0) rfl ?_
  refine Z.istore B dX1_fillTotals_1 (by decide) (L' := [(0, .ref 20), (1, .ref 25), (2, .ref q), (3, .int (zb sl)), (4, .int (nI 0))]) rfl ?_
  have hloop3 : ∀ i : Nat, i ≤ n → Z κ 0 0 (zuX σ 25 (fi i (tf (zX σ 21) (zSc σ) (zLk σ) (zDr σ) sl kd pa od a) (zX σ 25))) 3 [(0, .ref 20), (1, .ref 25), (2, .ref q), (3, .int (zb sl)), (4, .int (nI i))] [] := by
    refine z_loop (fun i => n - i) (fun i ih hi => ?_)
    refine Z.iload B dX1_fillTotals_3 (x := nI i) rfl ?_
    refine Z.aload_n B dX1_fillTotals_5 (v := .ref 20) rfl rfl ?_
    refine Z.getI (σ := (zuX σ 25 (fi i (tf (zX σ 21) (zSc σ) (zLk σ) (zDr σ) sl kd pa od a) (zX σ 25)))) B fX1_37_1 dX1_fillTotals_6 (hl.n (k := 20) (by decide)) (hl.k (k := 20) (by decide)) (by decide) (v := nI n) hn ?_
    refine Z.icmp_geN B dX1_fillTotals_9 (tgt := 41) rfl (by omega) (by omega) (fun h9 => ?_) (fun h9 => ?_)
    · skip
      obtain rfl : i = n := by omega
      refine Z.vret B Rt dX1_fillTotals_41 rfl (by decide) (by decide) ?_
      exact ⟨rfl, rfl⟩
    · skip
      refine Z.iload B dX1_fillTotals_12 (x := nI i) rfl ?_
      refine Z.aload_n B dX1_fillTotals_14 (v := .ref 25) rfl rfl ?_
      refine Z.alen (σ := (zuX σ 25 (fi i (tf (zX σ 21) (zSc σ) (zLk σ) (zDr σ) sl kd pa od a) (zX σ 25)))) B dX1_fillTotals_15 (hl.n (k := 25) (by decide)) (t := 0) (hl.k (k := 25) (by decide)) (by decide) (n := 8) (hl.l (k := 25) (by decide)) (v := nI 8) rfl ?_
      refine Z.icmp_geN B dX1_fillTotals_16 (tgt := 41) rfl (by omega) (by omega) (fun h16 => by exfalso; first | omega | contradiction | simp_all) (fun h16 => ?_)
      refine Z.aload_n B dX1_fillTotals_19 (v := .ref 25) rfl rfl ?_
      refine Z.iload B dX1_fillTotals_20 (x := nI i) rfl ?_
      refine Z.aload_n B dX1_fillTotals_22 (v := .ref 20) rfl rfl ?_
      refine Z.aload_n B dX1_fillTotals_23 (v := .ref 20) rfl rfl ?_
      refine Z.getI (σ := (zuX σ 25 (fi i (tf (zX σ 21) (zSc σ) (zLk σ) (zDr σ) sl kd pa od a) (zX σ 25)))) B fX1_41_1 dX1_fillTotals_24 (hl.n (k := 20) (by decide)) (hl.k (k := 20) (by decide)) (by decide) (v := nI a) ha ?_
      refine Z.aload_n B dX1_fillTotals_27 (v := .ref q) rfl rfl ?_
      refine Z.iload_n B dX1_fillTotals_28 (x := zb sl) rfl ?_
      refine Z.iload B dX1_fillTotals_29 (x := nI i) rfl ?_
      refine Z.callVI (σ := (zuX σ 25 (fi i (tf (zX σ 21) (zSc σ) (zLk σ) (zDr σ) sl kd pa od a) (zX σ 25)))) B (M' := mX1_saidByFirst) (as := [.int (nI a), .ref q, .int (zb sl), .int (nI i)]) (st := [.int (nI i), .ref 25]) (v := .int ((tf (zX σ 21) (zSc σ) (zLk σ) (zDr σ) sl kd pa od a) i)) dX1_fillTotals_31 wX1_saidByFirst iX1_saidByFirst sX1_saidByFirst kX1_106 (hl.n (k := 20) (by decide)) (hl.k (k := 20) (by decide)) (by decide) rfl rfl (t_X1_saidByFirst (σ := (zuX σ 25 (fi i (tf (zX σ 21) (zSc σ) (zLk σ) (zDr σ) sl kd pa od a) (zX σ 25)))) H ho (hw.uX (by decide)) (Nat.le_refl _) (c := i) (by omega)) rfl rfl (by decide) (by decide) (Nat.le_of_ble_eq_true rfl) (by decide) (by decide) ?_
      refine Z.iast (σ := (zuX σ 25 (fi i (tf (zX σ 21) (zSc σ) (zLk σ) (zDr σ) sl kd pa od a) (zX σ 25)))) B dX1_fillTotals_34 (n := 8) (hl.n (k := 25) (by decide)) (hl.k (k := 25) (by decide)) (hl.l (k := 25) (by decide)) (by decide) (j := i) rfl (by omega) (τ := (zuX σ 25 (fi (i + 1) (tf (zX σ 21) (zSc σ) (zLk σ) (zDr σ) sl kd pa od a) (zX σ 25)))) (by rw [zX_self, zuX_uX, fi_s rfl]) ?_
      refine Z.iincN B dX1_fillTotals_35 (by decide) (a := i) rfl (L' := [(0, .ref 20), (1, .ref 25), (2, .ref q), (3, .int (zb sl)), (4, .int (nI (i + 1)))]) rfl ?_
      refine Z.goto B dX1_fillTotals_38 (tgt := 3) rfl ?_
      exact ih (i + 1) (by omega) (by omega)
  have h0 := hloop3 0 (Nat.zero_le _)
  rw [fi_0, zuX_id] at h0
  exact h0

theorem t_X1_fillTotals_26 {σ : zSt} {n a y : Nat} (H : zHd σ n a y) {od : Nat → Nat} (ho : zOd σ a od) {q kd pa num : Nat} (hw : zWo σ q kd pa num) {sl : Bool} : Dt mX1_fillTotals [.ref 20, .ref 26, .ref q, .int (zb sl)] σ (none) (zuX σ 26 (fi n (tf (zX σ 21) (zSc σ) (zLk σ) (zDr σ) sl kd pa od a) (zX σ 26))) := by
  obtain ⟨hl, hn, hn8, ha, ha4, hy, hy8⟩ := id H
  refine Dt.of (by decide) (Nat.le_of_ble_eq_true rfl) fun κ B Rt => ?_
  show Z κ 0 0 σ 0 [(0, .ref 20), (1, .ref 26), (2, .ref q), (3, .int (zb sl))] []
  refine Z.iconst B dX1_fillTotals_0 (v := nI 0) rfl ?_
  refine Z.istore B dX1_fillTotals_1 (by decide) (L' := [(0, .ref 20), (1, .ref 26), (2, .ref q), (3, .int (zb sl)), (4, .int (nI 0))]) rfl ?_
  have hloop3 : ∀ i : Nat, i ≤ n → Z κ 0 0 (zuX σ 26 (fi i (tf (zX σ 21) (zSc σ) (zLk σ) (zDr σ) sl kd pa od a) (zX σ 26))) 3 [(0, .ref 20), (1, .ref 26), (2, .ref q), (3, .int (zb sl)), (4, .int (nI i))] [] := by
    refine z_loop (fun i => n - i) (fun i ih hi => ?_)
    refine Z.iload B dX1_fillTotals_3 (x := nI i) rfl ?_
    refine Z.aload_n B dX1_fillTotals_5 (v := .ref 20) rfl rfl ?_
    refine Z.getI (σ := (zuX σ 26 (fi i (tf (zX σ 21) (zSc σ) (zLk σ) (zDr σ) sl kd pa od a) (zX σ 26)))) B fX1_37_1 dX1_fillTotals_6 (hl.n (k := 20) (by decide)) (hl.k (k := 20) (by decide)) (by decide) (v := nI n) hn ?_
    refine Z.icmp_geN B dX1_fillTotals_9 (tgt := 41) rfl (by omega) (by omega) (fun h9 => ?_) (fun h9 => ?_)
    · skip
      obtain rfl : i = n := by omega
      refine Z.vret B Rt dX1_fillTotals_41 rfl (by decide) (by decide) ?_
      exact ⟨rfl, rfl⟩
    · skip
      refine Z.iload B dX1_fillTotals_12 (x := nI i) rfl ?_
      refine Z.aload_n B dX1_fillTotals_14 (v := .ref 26) rfl rfl ?_
      refine Z.alen (σ := (zuX σ 26 (fi i (tf (zX σ 21) (zSc σ) (zLk σ) (zDr σ) sl kd pa od a) (zX σ 26)))) B dX1_fillTotals_15 (hl.n (k := 26) (by decide)) (t := 0) (hl.k (k := 26) (by decide)) (by decide) (n := 8) (hl.l (k := 26) (by decide)) (v := nI 8) rfl ?_
      refine Z.icmp_geN B dX1_fillTotals_16 (tgt := 41) rfl (by omega) (by omega) (fun h16 => by exfalso; first | omega | contradiction | simp_all) (fun h16 => ?_)
      refine Z.aload_n B dX1_fillTotals_19 (v := .ref 26) rfl rfl ?_
      refine Z.iload B dX1_fillTotals_20 (x := nI i) rfl ?_
      refine Z.aload_n B dX1_fillTotals_22 (v := .ref 20) rfl rfl ?_
      refine Z.aload_n B dX1_fillTotals_23 (v := .ref 20) rfl rfl ?_
      refine Z.getI (σ := (zuX σ 26 (fi i (tf (zX σ 21) (zSc σ) (zLk σ) (zDr σ) sl kd pa od a) (zX σ 26)))) B fX1_41_1 dX1_fillTotals_24 (hl.n (k := 20) (by decide)) (hl.k (k := 20) (by decide)) (by decide) (v := nI a) ha ?_
      refine Z.aload_n B dX1_fillTotals_27 (v := .ref q) rfl rfl ?_
      refine Z.iload_n B dX1_fillTotals_28 (x := zb sl) rfl ?_
      refine Z.iload B dX1_fillTotals_29 (x := nI i) rfl ?_
      refine Z.callVI (σ := (zuX σ 26 (fi i (tf (zX σ 21) (zSc σ) (zLk σ) (zDr σ) sl kd pa od a) (zX σ 26)))) B (M' := mX1_saidByFirst) (as := [.int (nI a), .ref q, .int (zb sl), .int (nI i)]) (st := [.int (nI i), .ref 26]) (v := .int ((tf (zX σ 21) (zSc σ) (zLk σ) (zDr σ) sl kd pa od a) i)) dX1_fillTotals_31 wX1_saidByFirst iX1_saidByFirst sX1_saidByFirst kX1_106 (hl.n (k := 20) (by decide)) (hl.k (k := 20) (by decide)) (by decide) rfl rfl (t_X1_saidByFirst (σ := (zuX σ 26 (fi i (tf (zX σ 21) (zSc σ) (zLk σ) (zDr σ) sl kd pa od a) (zX σ 26)))) H ho (hw.uX (by decide)) (Nat.le_refl _) (c := i) (by omega)) rfl rfl (by decide) (by decide) (Nat.le_of_ble_eq_true rfl) (by decide) (by decide) ?_
      refine Z.iast (σ := (zuX σ 26 (fi i (tf (zX σ 21) (zSc σ) (zLk σ) (zDr σ) sl kd pa od a) (zX σ 26)))) B dX1_fillTotals_34 (n := 8) (hl.n (k := 26) (by decide)) (hl.k (k := 26) (by decide)) (hl.l (k := 26) (by decide)) (by decide) (j := i) rfl (by omega) (τ := (zuX σ 26 (fi (i + 1) (tf (zX σ 21) (zSc σ) (zLk σ) (zDr σ) sl kd pa od a) (zX σ 26)))) (by rw [zX_self, zuX_uX, fi_s rfl]) ?_
      refine Z.iincN B dX1_fillTotals_35 (by decide) (a := i) rfl (L' := [(0, .ref 20), (1, .ref 26), (2, .ref q), (3, .int (zb sl)), (4, .int (nI (i + 1)))]) rfl ?_
      refine Z.goto B dX1_fillTotals_38 (tgt := 3) rfl ?_
      exact ih (i + 1) (by omega) (by omega)
  have h0 := hloop3 0 (Nat.zero_le _)
  rw [fi_0, zuX_id] at h0
  exact h0

theorem t_X1_fillOwn {σ : zSt} {n a y : Nat} (H : zHd σ n a y) {wt : Nat} (hwt : wt ≤ 6) : Dt mX1_fillOwn [.ref 20, .int (nI wt)] σ (none) (zuX σ 25 (fi n (fun c => cn (zX σ 21) c wt) (zX σ 25))) := by
  obtain ⟨hl, hn, hn8, ha, ha4, hy, hy8⟩ := id H
  refine Dt.of (by decide) (Nat.le_of_ble_eq_true rfl) fun κ B Rt => ?_
  show Z κ 0 0 σ 0 [(0, .ref 20), (1, .int (nI wt))] []
  refine Z.iconst B dX1_fillOwn_0 (v := nI 0) rfl ?_
  refine Z.istore_n B dX1_fillOwn_1 (by decide) (L' := [(0, .ref 20), (1, .int (nI wt)), (2, .int (nI 0))]) rfl ?_
  have hloop2 : ∀ i : Nat, i ≤ n → Z κ 0 0 (zuX σ 25 (fi i (fun c => cn (zX σ 21) c wt) (zX σ 25))) 2 [(0, .ref 20), (1, .int (nI wt)), (2, .int (nI i))] [] := by
    refine z_loop (fun i => n - i) (fun i ih hi => ?_)
    refine Z.iload_n B dX1_fillOwn_2 (x := nI i) rfl ?_
    refine Z.aload_n B dX1_fillOwn_3 (v := .ref 20) rfl rfl ?_
    refine Z.getI (σ := (zuX σ 25 (fi i (fun c => cn (zX σ 21) c wt) (zX σ 25)))) B fX1_37_1 dX1_fillOwn_4 (hl.n (k := 20) (by decide)) (hl.k (k := 20) (by decide)) (by decide) (v := nI n) hn ?_
    refine Z.icmp_geN B dX1_fillOwn_7 (tgt := 28) rfl (by omega) (by omega) (fun h7 => ?_) (fun h7 => ?_)
    · skip
      obtain rfl : i = n := by omega
      refine Z.vret B Rt dX1_fillOwn_28 rfl (by decide) (by decide) ?_
      exact ⟨rfl, rfl⟩
    · skip
      refine Z.aload_n B dX1_fillOwn_10 (v := .ref 20) rfl rfl ?_
      refine Z.getR (σ := (zuX σ 25 (fi i (fun c => cn (zX σ 21) c wt) (zX σ 25)))) B fX1_31_1 dX1_fillOwn_11 (hl.n (k := 20) (by decide)) (hl.k (k := 20) (by decide)) (by decide) (j := 25) (hl.r (k := 20) (f := 9) (by decide) (by decide)) ?_
      refine Z.iload_n B dX1_fillOwn_14 (x := nI i) rfl ?_
      refine Z.aload_n B dX1_fillOwn_15 (v := .ref 20) rfl rfl ?_
      refine Z.iload_n B dX1_fillOwn_16 (x := nI i) rfl ?_
      refine Z.iload_n B dX1_fillOwn_17 (x := nI wt) rfl ?_
      refine Z.callVI (σ := (zuX σ 25 (fi i (fun c => cn (zX σ 21) c wt) (zX σ 25)))) B (M' := mX1_comerNumber) (as := [.int (nI i), .int (nI wt)]) (st := [.int (nI i), .ref 25]) (v := .int ((fun c => cn (zX σ 21) c wt) i)) dX1_fillOwn_18 wX1_comerNumber iX1_comerNumber sX1_comerNumber kX1_95 (hl.n (k := 20) (by decide)) (hl.k (k := 20) (by decide)) (by decide) rfl rfl (t_X1_comerNumber (σ := (zuX σ 25 (fi i (fun c => cn (zX σ 21) c wt) (zX σ 25)))) H (c := i) (by omega) hwt) rfl rfl (by decide) (by decide) (Nat.le_of_ble_eq_true rfl) (by decide) (by decide) ?_
      refine Z.iast (σ := (zuX σ 25 (fi i (fun c => cn (zX σ 21) c wt) (zX σ 25)))) B dX1_fillOwn_21 (n := 8) (hl.n (k := 25) (by decide)) (hl.k (k := 25) (by decide)) (hl.l (k := 25) (by decide)) (by decide) (j := i) rfl (by omega) (τ := (zuX σ 25 (fi (i + 1) (fun c => cn (zX σ 21) c wt) (zX σ 25)))) (by rw [zX_self, zuX_uX, fi_s rfl]) ?_
      refine Z.iincN B dX1_fillOwn_22 (by decide) (a := i) rfl (L' := [(0, .ref 20), (1, .int (nI wt)), (2, .int (nI (i + 1)))]) rfl ?_
      refine Z.goto B dX1_fillOwn_25 (tgt := 2) rfl ?_
      exact ih (i + 1) (by omega) (by omega)
  have h0 := hloop2 0 (Nat.zero_le _)
  rw [fi_0, zuX_id] at h0
  exact h0

theorem t_X1_greatest {σ : zSt} {n a y : Nat} (H : zHd σ n a y)  : Dt mX1_greatest [.ref 20] σ (some (.int (gI (zX σ 25) n))) σ := by
  obtain ⟨hl, hn, hn8, ha, ha4, hy, hy8⟩ := id H
  refine Dt.of (by decide) (Nat.le_of_ble_eq_true rfl) fun κ B Rt => ?_
  show Z κ 0 0 σ 0 [(0, .ref 20)] []
  refine Z.iconst B dX1_greatest_0 (v := (-1)) rfl ?_
  refine Z.istore_n B dX1_greatest_1 (by decide) (L' := [(0, .ref 20), (1, .int (-1))]) rfl ?_
  refine Z.iconst B dX1_greatest_2 (v := nI 0) rfl ?_
  refine Z.istore_n B dX1_greatest_3 (by decide) (L' := [(0, .ref 20), (1, .int (-1)), (2, .int (nI 0))]) rfl ?_
  refine Z.iconst B dX1_greatest_4 (v := nI 0) rfl ?_
  refine Z.istore_n B dX1_greatest_5 (by decide) (L' := [(0, .ref 20), (1, .int (-1)), (2, .int (nI 0)), (3, .int (nI 0))]) rfl ?_
  have hloop6 : ∀ i : Nat, i ≤ n → Z κ 0 0 σ 6 [(0, .ref 20), (1, .int (gI (zX σ 25) i)), (2, .int (gm (zX σ 25) i)), (3, .int (nI i))] [] := by
    refine z_loop (fun i => n - i) (fun i ih hi => ?_)
    refine Z.iload_n B dX1_greatest_6 (x := nI i) rfl ?_
    refine Z.aload_n B dX1_greatest_7 (v := .ref 20) rfl rfl ?_
    refine Z.getI (σ := σ) B fX1_37_1 dX1_greatest_8 (hl.n (k := 20) (by decide)) (hl.k (k := 20) (by decide)) (by decide) (v := nI n) hn ?_
    refine Z.icmp_geN B dX1_greatest_11 (tgt := 44) rfl (by omega) (by omega) (fun h11 => ?_) (fun h11 => ?_)
    · skip
      obtain rfl : i = n := by omega
      refine Z.iload_n B dX1_greatest_44 (x := gI (zX σ 25) i) rfl ?_
      refine Z.iret B Rt dX1_greatest_45 (ty := .int) rfl rfl (by decide) (by decide) ?_
      exact ⟨rfl, rfl⟩
    · skip
      refine Z.iload_n B dX1_greatest_14 (x := gI (zX σ 25) i) rfl ?_
      refine Z.iconst B dX1_greatest_15 (v := (-1)) rfl ?_
      refine Z.icmp_eq B dX1_greatest_16 (tgt := 29) rfl (fun h16 => ?_) (fun h16 => ?_)
      · skip
        refine Z.iload_n B dX1_greatest_29 (x := nI i) rfl ?_
        refine Z.istore_n B dX1_greatest_30 (by decide) (L' := [(0, .ref 20), (1, .int (nI i)), (2, .int (gm (zX σ 25) i)), (3, .int (nI i))]) rfl ?_
        refine Z.aload_n B dX1_greatest_31 (v := .ref 20) rfl rfl ?_
        refine Z.getR (σ := σ) B fX1_31_1 dX1_greatest_32 (hl.n (k := 20) (by decide)) (hl.k (k := 20) (by decide)) (by decide) (j := 25) (hl.r (k := 20) (f := 9) (by decide) (by decide)) ?_
        refine Z.iload_n B dX1_greatest_35 (x := nI i) rfl ?_
        refine Z.iald (σ := σ) B dX1_greatest_36 (n := 8) (hl.n (k := 25) (by decide)) (hl.k (k := 25) (by decide)) (hl.l (k := 25) (by decide)) (by decide) (j := i) rfl (by omega) (v := (zX σ 25 i)) rfl ?_
        refine Z.istore_n B dX1_greatest_37 (by decide) (L' := [(0, .ref 20), (1, .int (nI i)), (2, .int (zX σ 25 i)), (3, .int (nI i))]) rfl ?_
        refine Z.iincN B dX1_greatest_38 (by decide) (a := i) rfl (L' := [(0, .ref 20), (1, .int (nI i)), (2, .int (zX σ 25 i)), (3, .int (nI (i + 1)))]) rfl ?_
        refine Z.goto B dX1_greatest_41 (tgt := 6) rfl ?_
        have e := ih (i + 1) (by omega) (by omega)
        first | (rw [(gI_take (Or.inl h16) (by omega)).1, (gI_take (Or.inl h16) (by omega)).2] at e; exact e) | (rw [(gI_keep h16 h26).1, (gI_keep h16 h26).2] at e; exact e) | (rw [(gI_take (Or.inr (by rw [zlt_iff]; rw [zle_iff] at h26; omega)) (by omega)).1, (gI_take (Or.inr (by rw [zlt_iff]; rw [zle_iff] at h26; omega)) (by omega)).2] at e; exact e)
      · skip
        refine Z.aload_n B dX1_greatest_19 (v := .ref 20) rfl rfl ?_
        refine Z.getR (σ := σ) B fX1_31_1 dX1_greatest_20 (hl.n (k := 20) (by decide)) (hl.k (k := 20) (by decide)) (by decide) (j := 25) (hl.r (k := 20) (f := 9) (by decide) (by decide)) ?_
        refine Z.iload_n B dX1_greatest_23 (x := nI i) rfl ?_
        refine Z.iald (σ := σ) B dX1_greatest_24 (n := 8) (hl.n (k := 25) (by decide)) (hl.k (k := 25) (by decide)) (hl.l (k := 25) (by decide)) (by decide) (j := i) rfl (by omega) (v := (zX σ 25 i)) rfl ?_
        refine Z.iload_n B dX1_greatest_25 (x := gm (zX σ 25) i) rfl ?_
        refine Z.icmp_le B dX1_greatest_26 (tgt := 38) rfl (fun h26 => ?_) (fun h26 => ?_)
        · skip
          refine Z.iincN B dX1_greatest_38 (by decide) (a := i) rfl (L' := [(0, .ref 20), (1, .int (gI (zX σ 25) i)), (2, .int (gm (zX σ 25) i)), (3, .int (nI (i + 1)))]) rfl ?_
          refine Z.goto B dX1_greatest_41 (tgt := 6) rfl ?_
          have e := ih (i + 1) (by omega) (by omega)
          first | (rw [(gI_take (Or.inl h16) (by omega)).1, (gI_take (Or.inl h16) (by omega)).2] at e; exact e) | (rw [(gI_keep h16 h26).1, (gI_keep h16 h26).2] at e; exact e) | (rw [(gI_take (Or.inr (by rw [zlt_iff]; rw [zle_iff] at h26; omega)) (by omega)).1, (gI_take (Or.inr (by rw [zlt_iff]; rw [zle_iff] at h26; omega)) (by omega)).2] at e; exact e)
        · skip
          refine Z.iload_n B dX1_greatest_29 (x := nI i) rfl ?_
          refine Z.istore_n B dX1_greatest_30 (by decide) (L' := [(0, .ref 20), (1, .int (nI i)), (2, .int (gm (zX σ 25) i)), (3, .int (nI i))]) rfl ?_
          refine Z.aload_n B dX1_greatest_31 (v := .ref 20) rfl rfl ?_
          refine Z.getR (σ := σ) B fX1_31_1 dX1_greatest_32 (hl.n (k := 20) (by decide)) (hl.k (k := 20) (by decide)) (by decide) (j := 25) (hl.r (k := 20) (f := 9) (by decide) (by decide)) ?_
          refine Z.iload_n B dX1_greatest_35 (x := nI i) rfl ?_
          refine Z.iald (σ := σ) B dX1_greatest_36 (n := 8) (hl.n (k := 25) (by decide)) (hl.k (k := 25) (by decide)) (hl.l (k := 25) (by decide)) (by decide) (j := i) rfl (by omega) (v := (zX σ 25 i)) rfl ?_
          refine Z.istore_n B dX1_greatest_37 (by decide) (L' := [(0, .ref 20), (1, .int (nI i)), (2, .int (zX σ 25 i)), (3, .int (nI i))]) rfl ?_
          refine Z.iincN B dX1_greatest_38 (by decide) (a := i) rfl (L' := [(0, .ref 20), (1, .int (nI i)), (2, .int (zX σ 25 i)), (3, .int (nI (i + 1)))]) rfl ?_
          refine Z.goto B dX1_greatest_41 (tgt := 6) rfl ?_
          have e := ih (i + 1) (by omega) (by omega)
          first | (rw [(gI_take (Or.inl h16) (by omega)).1, (gI_take (Or.inl h16) (by omega)).2] at e; exact e) | (rw [(gI_keep h16 h26).1, (gI_keep h16 h26).2] at e; exact e) | (rw [(gI_take (Or.inr (by rw [zlt_iff]; rw [zle_iff] at h26; omega)) (by omega)).1, (gI_take (Or.inr (by rw [zlt_iff]; rw [zle_iff] at h26; omega)) (by omega)).2] at e; exact e)
  exact hloop6 0 (Nat.zero_le _)

theorem t_X1_firstGreatest {σ : zSt} {n a y : Nat} (H : zHd σ n a y) {wt : Nat} (hwt : wt ≤ 6) : Dt mX1_firstGreatest [.ref 20, .int (nI wt)] σ (some (.int (gI (fun c => cn (zX σ 21) c wt) n))) (zuX σ 25 (fi n (fun c => cn (zX σ 21) c wt) (zX σ 25))) := by
  obtain ⟨hl, hn, hn8, ha, ha4, hy, hy8⟩ := id H
  refine Dt.of (by decide) (Nat.le_of_ble_eq_true rfl) fun κ B Rt => ?_
  show Z κ 0 0 σ 0 [(0, .ref 20), (1, .int (nI wt))] []
  refine Z.aload_n B dX1_firstGreatest_0 (v := .ref 20) rfl rfl ?_
  refine Z.iload_n B dX1_firstGreatest_1 (x := nI wt) rfl ?_
  refine Z.callVN (σ := σ) B (M' := mX1_fillOwn) (as := [.int (nI wt)]) (st := []) dX1_firstGreatest_2 wX1_fillOwn iX1_fillOwn sX1_fillOwn kX1_110 (hl.n (k := 20) (by decide)) (hl.k (k := 20) (by decide)) (by decide) rfl rfl (t_X1_fillOwn (σ := σ) H hwt) rfl rfl (by decide) (by decide) (Nat.le_of_ble_eq_true rfl) (by decide) (by decide) ?_
  refine Z.eqσ (τ := (zuX σ 25 (fi n (fun c => cn (zX σ 21) c wt) (zX σ 25)))) rfl ?_
  refine Z.aload_n B dX1_firstGreatest_5 (v := .ref 20) rfl rfl ?_
  refine Z.callVI (σ := (zuX σ 25 (fi n (fun c => cn (zX σ 21) c wt) (zX σ 25)))) B (M' := mX1_greatest) (as := []) (st := []) (v := .int (gI (fi n (fun c => cn (zX σ 21) c wt) (zX σ 25)) n)) dX1_firstGreatest_6 wX1_greatest iX1_greatest sX1_greatest kX1_114 (hl.n (k := 20) (by decide)) (hl.k (k := 20) (by decide)) (by decide) rfl rfl (t_X1_greatest (σ := (zuX σ 25 (fi n (fun c => cn (zX σ 21) c wt) (zX σ 25)))) H) rfl rfl (by decide) (by decide) (Nat.le_of_ble_eq_true rfl) (by decide) (by decide) ?_
  refine Z.iret B Rt dX1_firstGreatest_9 (ty := .int) rfl rfl (by decide) (by decide) ?_
  exact ⟨by rw [gI_fi], rfl⟩

theorem t_X1_bestSum {σ : zSt} {n a y : Nat} (H : zHd σ n a y) (h0 : 0 < n) : Dt mX1_bestSum [.ref 20] σ (some (.int (cn (zX σ 21) (ga (fun c => cn (zX σ 21) c 6) (n - 1)) 6))) (zuX σ 25 (fi n (fun c => cn (zX σ 21) c 6) (zX σ 25))) := by
  obtain ⟨hl, hn, hn8, ha, ha4, hy, hy8⟩ := id H
  refine Dt.of (by decide) (Nat.le_of_ble_eq_true rfl) fun κ B Rt => ?_
  show Z κ 0 0 σ 0 [(0, .ref 20)] []
  refine Z.aload_n B dX1_bestSum_0 (v := .ref 20) rfl rfl ?_
  refine Z.aload_n B dX1_bestSum_1 (v := .ref 20) rfl rfl ?_
  refine Z.bipush B dX1_bestSum_2 (v := nI 6) rfl ?_
  refine Z.callVI (σ := σ) B (M' := mX1_firstGreatest) (as := [.int (nI 6)]) (st := [.ref 20]) (v := .int (gI (fun c => cn (zX σ 21) c 6) n)) dX1_bestSum_4 wX1_firstGreatest iX1_firstGreatest sX1_firstGreatest kX1_118 (hl.n (k := 20) (by decide)) (hl.k (k := 20) (by decide)) (by decide) rfl rfl (t_X1_firstGreatest (σ := σ) H (by decide)) rfl rfl (by decide) (by decide) (Nat.le_of_ble_eq_true rfl) (by decide) (by decide) ?_
  refine Z.eqσ (τ := (zuX σ 25 (fi n (fun c => cn (zX σ 21) c 6) (zX σ 25)))) rfl ?_
  refine Z.bipush B dX1_bestSum_7 (v := nI 6) rfl ?_
  rw [gI_pos h0]
  refine Z.callVI (σ := (zuX σ 25 (fi n (fun c => cn (zX σ 21) c 6) (zX σ 25)))) B (M' := mX1_comerNumber) (as := [.int (nI (ga (fun c => cn (zX σ 21) c 6) (n - 1))), .int (nI 6)]) (st := []) (v := .int (cn (zX σ 21) (ga (fun c => cn (zX σ 21) c 6) (n - 1)) 6)) dX1_bestSum_9 wX1_comerNumber iX1_comerNumber sX1_comerNumber kX1_95 (hl.n (k := 20) (by decide)) (hl.k (k := 20) (by decide)) (by decide) rfl rfl (t_X1_comerNumber (σ := (zuX σ 25 (fi n (fun c => cn (zX σ 21) c 6) (zX σ 25)))) H (ga_lt h0) (by decide)) rfl rfl (by decide) (by decide) (Nat.le_of_ble_eq_true rfl) (by decide) (by decide) ?_
  refine Z.iret B Rt dX1_bestSum_12 (ty := .int) rfl rfl (by decide) (by decide) ?_
  exact ⟨rfl, rfl⟩

theorem t_X1_takenBy {σ : zSt} {n a y : Nat} (H : zHd σ n a y) {od : Nat → Nat} (ho : zOd σ a od) {q kd pa num : Nat} (hw : zWo σ q kd pa num) {sl : Bool} : Dt mX1_takenBy [.ref 20, .ref q, .int (zb sl)] σ (some (.int (gI (tf (zX σ 21) (zSc σ) (zLk σ) (zDr σ) sl kd pa od a) n))) (zuX σ 25 (fi n (tf (zX σ 21) (zSc σ) (zLk σ) (zDr σ) sl kd pa od a) (zX σ 25))) := by
  obtain ⟨hl, hn, hn8, ha, ha4, hy, hy8⟩ := id H
  refine Dt.of (by decide) (Nat.le_of_ble_eq_true rfl) fun κ B Rt => ?_
  show Z κ 0 0 σ 0 [(0, .ref 20), (1, .ref q), (2, .int (zb sl))] []
  refine Z.aload_n B dX1_takenBy_0 (v := .ref 20) rfl rfl ?_
  refine Z.aload_n B dX1_takenBy_1 (v := .ref 20) rfl rfl ?_
  refine Z.getR (σ := σ) B fX1_31_1 dX1_takenBy_2 (hl.n (k := 20) (by decide)) (hl.k (k := 20) (by decide)) (by decide) (j := 25) (hl.r (k := 20) (f := 9) (by decide) (by decide)) ?_
  refine Z.aload_n B dX1_takenBy_5 (v := .ref q) rfl rfl ?_
  refine Z.iload_n B dX1_takenBy_6 (x := zb sl) rfl ?_
  refine Z.callVN (σ := σ) B (M' := mX1_fillTotals) (as := [.ref 25, .ref q, .int (zb sl)]) (st := []) dX1_takenBy_7 wX1_fillTotals iX1_fillTotals sX1_fillTotals kX1_121 (hl.n (k := 20) (by decide)) (hl.k (k := 20) (by decide)) (by decide) rfl rfl (t_X1_fillTotals_25 (σ := σ) H ho hw) rfl rfl (by decide) (by decide) (Nat.le_of_ble_eq_true rfl) (by decide) (by decide) ?_
  refine Z.eqσ (τ := (zuX σ 25 (fi n (tf (zX σ 21) (zSc σ) (zLk σ) (zDr σ) sl kd pa od a) (zX σ 25)))) rfl ?_
  refine Z.aload_n B dX1_takenBy_10 (v := .ref 20) rfl rfl ?_
  refine Z.callVI (σ := (zuX σ 25 (fi n (tf (zX σ 21) (zSc σ) (zLk σ) (zDr σ) sl kd pa od a) (zX σ 25)))) B (M' := mX1_greatest) (as := []) (st := []) (v := .int (gI (fi n (tf (zX σ 21) (zSc σ) (zLk σ) (zDr σ) sl kd pa od a) (zX σ 25)) n)) dX1_takenBy_11 wX1_greatest iX1_greatest sX1_greatest kX1_114 (hl.n (k := 20) (by decide)) (hl.k (k := 20) (by decide)) (by decide) rfl rfl (t_X1_greatest (σ := (zuX σ 25 (fi n (tf (zX σ 21) (zSc σ) (zLk σ) (zDr σ) sl kd pa od a) (zX σ 25)))) H) rfl rfl (by decide) (by decide) (Nat.le_of_ble_eq_true rfl) (by decide) (by decide) ?_
  refine Z.iret B Rt dX1_takenBy_14 (ty := .int) rfl rfl (by decide) (by decide) ?_
  exact ⟨by rw [gI_fi], rfl⟩
