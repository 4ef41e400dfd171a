/-! the law's start -/
theorem zInst : ∀ (ci : Nat) (q : vw_C), vwCl[ci]? = some q → Cond.instantiable q.1 q.2.2 ∈ zT
  | 0, q, h => by cases h; exact zT_at 566 (by decide +kernel) rfl
  | 1, q, h => by cases h; exact zT_at 126 (by decide +kernel) rfl
  | 2, q, h => by cases h; exact zT_at 168 (by decide +kernel) rfl
  | 3, q, h => by cases h; exact zT_at 544 (by decide +kernel) rfl
  | 4, q, h => by cases h; exact zT_at 523 (by decide +kernel) rfl
  | 5, q, h => by cases h; exact zT_at 555 (by decide +kernel) rfl
  | 6, q, h => by cases h; exact zT_at 92 (by decide +kernel) rfl
  | 7, q, h => by cases h; exact zT_at 476 (by decide +kernel) rfl
  | 8, q, h => by cases h; exact zT_at 112 (by decide +kernel) rfl
  | 9, q, h => by cases h; exact zT_at 575 (by decide +kernel) rfl
  | 10, q, h => by cases h; exact zT_at 533 (by decide +kernel) rfl
  | 11, q, h => by cases h; exact zT_at 83 (by decide +kernel) rfl
  | 12, q, h => by cases h; exact zT_at 1089 (by decide +kernel) rfl
  | k + 13, q, h => by cases h
theorem zenv_of {p : Program} {s : State} {m : MethodId} {meth : Method} {c : Code} {b N : Nat} {xs : Nat → Int32} (C0 : lw_At p s m meth c b N xs) : ∃ E : zEnv, E.2.2 12 = .ref b ∧ va_K E.1 vwCl (zTys E) s ∧ zSF E (fun q => s.heap.size ≤ q) s s.heap := by
  obtain ⟨-, -, -, -, -, hts, -, -, -, hgv0⟩ := C0
  have hgv := flat_of_before _ hgv0
  have hts2 : ∀ w ∈ zT, w.before #[Value.ref b] s = true := fun w hw => hts w (List.mem_filter.mp hw).1
  have hA : ∀ a : Nat, a < s.heap.size → ¬ (fun q => s.heap.size ≤ q) a := fun a h => Nat.not_le.mpr h
  have hcl : ∀ ci : Nat, ∃ x : ClassId × (Nat → Nat), ∀ q : vw_C, vwCl[ci]? = some q → u_Kn s q.1 q.2.1 q.2.2 x.1 x.2 := fun ci => by
    cases hq : vwCl[ci]? with
    | none => exact ⟨(0, fun _ => 0), fun q h => by cases h⟩
    | some q =>
      obtain ⟨C, T, n⟩ := q
      obtain ⟨cC, iS, h⟩ := u_known (n := n) hts2 (zU hq) (hts2 _ (zInst ci _ hq))
      exact ⟨(cC, iS), fun q2 h2 => by cases h2; exact h⟩
  obtain ⟨F, hF⟩ := Classical.axiomOfChoice hcl
  obtain ⟨cI, kI, pI, i1, i2, i3⟩ := Cond.arrayClass_spec (hts _ (List.mem_of_getElem? (i := 124) (by decide +kernel)) : (Cond.arrayClass .int).before #[Value.ref b] s = true)
  obtain ⟨cJ, kJ, pJ, j1, j2, j3⟩ := Cond.arrayClass_spec (hts _ (List.mem_of_getElem? (i := 110) (by decide +kernel)) : (Cond.arrayClass .long).before #[Value.ref b] s = true)
  obtain ⟨pS, cS, kS, s1, s2, s3, s4, s5⟩ := Cond.arrayOver_spec (hts _ (List.mem_of_getElem? (i := 91) (by decide +kernel)) : (Cond.arrayOver (.object "FourAskOne$Shelf")).before #[Value.ref b] s = true)
  obtain ⟨pW, cW, kW, w1, w2, w3, w4, w5⟩ := Cond.arrayOver_spec (hts _ (List.mem_of_getElem? (i := 132) (by decide +kernel)) : (Cond.arrayOver (.object "FourAskOne$Way")).before #[Value.ref b] s = true)
  have tl0 : (Cond.eq (.length (Term.static "FourAskOne" "MOST_OF_COMER" "[I")) (.int 6)).before #[Value.ref b] s = true := hgv _ (by decide +kernel)
  have te0 : ∀ j : Nat, j < 6 → (Term.elem (Term.static "FourAskOne" "MOST_OF_COMER" "[I") (.int (Int32.ofNat j))).eval #[Value.ref b] s none [] s = some (.int (zA0 j))
    | 0, _ => va_eqt (hgv (Cond.eq (.elem (Term.static "FourAskOne" "MOST_OF_COMER" "[I") (.int (Int32.ofNat 0))) (.int (zA0 0))) (by decide +kernel))
    | 1, _ => va_eqt (hgv (Cond.eq (.elem (Term.static "FourAskOne" "MOST_OF_COMER" "[I") (.int (Int32.ofNat 1))) (.int (zA0 1))) (by decide +kernel))
    | 2, _ => va_eqt (hgv (Cond.eq (.elem (Term.static "FourAskOne" "MOST_OF_COMER" "[I") (.int (Int32.ofNat 2))) (.int (zA0 2))) (by decide +kernel))
    | 3, _ => va_eqt (hgv (Cond.eq (.elem (Term.static "FourAskOne" "MOST_OF_COMER" "[I") (.int (Int32.ofNat 3))) (.int (zA0 3))) (by decide +kernel))
    | 4, _ => va_eqt (hgv (Cond.eq (.elem (Term.static "FourAskOne" "MOST_OF_COMER" "[I") (.int (Int32.ofNat 4))) (.int (zA0 4))) (by decide +kernel))
    | 5, _ => va_eqt (hgv (Cond.eq (.elem (Term.static "FourAskOne" "MOST_OF_COMER" "[I") (.int (Int32.ofNat 5))) (.int (zA0 5))) (by decide +kernel))
    | k + 6, h => absurd h (by omega)
  obtain ⟨t0, tv0, tT0⟩ := va_Tof (A := fun q => s.heap.size ≤ q) (f := fun j => .int (zA0 j)) (N := 6) (by decide) (hgv (Cond.arrayOf (Term.static "FourAskOne" "MOST_OF_COMER" "[I") .int) (by decide +kernel)) (va_eqt tl0) te0 hA
  have tZ0 := va_Zref (A := fun q => s.heap.size ≤ q) (hts _ (List.mem_of_getElem? (i := 442) (by decide +kernel)) : (Cond.laysStatic "FourAskOne" "MOST_OF_COMER" "[I").before #[Value.ref b] s = true) (hts _ (List.mem_of_getElem? (i := 62) (by decide +kernel)) : (Cond.initialized "FourAskOne").before #[Value.ref b] s = true) tv0 hA
  have tl1 : (Cond.eq (.length (Term.static "FourAskOne" "MOST_OF_ASKER" "[I")) (.int 3)).before #[Value.ref b] s = true := hgv _ (by decide +kernel)
  have te1 : ∀ j : Nat, j < 3 → (Term.elem (Term.static "FourAskOne" "MOST_OF_ASKER" "[I") (.int (Int32.ofNat j))).eval #[Value.ref b] s none [] s = some (.int (zA1 j))
    | 0, _ => va_eqt (hgv (Cond.eq (.elem (Term.static "FourAskOne" "MOST_OF_ASKER" "[I") (.int (Int32.ofNat 0))) (.int (zA1 0))) (by decide +kernel))
    | 1, _ => va_eqt (hgv (Cond.eq (.elem (Term.static "FourAskOne" "MOST_OF_ASKER" "[I") (.int (Int32.ofNat 1))) (.int (zA1 1))) (by decide +kernel))
    | 2, _ => va_eqt (hgv (Cond.eq (.elem (Term.static "FourAskOne" "MOST_OF_ASKER" "[I") (.int (Int32.ofNat 2))) (.int (zA1 2))) (by decide +kernel))
    | k + 3, h => absurd h (by omega)
  obtain ⟨t1, tv1, tT1⟩ := va_Tof (A := fun q => s.heap.size ≤ q) (f := fun j => .int (zA1 j)) (N := 3) (by decide) (hgv (Cond.arrayOf (Term.static "FourAskOne" "MOST_OF_ASKER" "[I") .int) (by decide +kernel)) (va_eqt tl1) te1 hA
  have tZ1 := va_Zref (A := fun q => s.heap.size ≤ q) (hts _ (List.mem_of_getElem? (i := 460) (by decide +kernel)) : (Cond.laysStatic "FourAskOne" "MOST_OF_ASKER" "[I").before #[Value.ref b] s = true) (hts _ (List.mem_of_getElem? (i := 62) (by decide +kernel)) : (Cond.initialized "FourAskOne").before #[Value.ref b] s = true) tv1 hA
  have tl2 : (Cond.eq (.length (Term.static "FourAskOne" "MOST_OF_WAY" "[I")) (.int 2)).before #[Value.ref b] s = true := hgv _ (by decide +kernel)
  have te2 : ∀ j : Nat, j < 2 → (Term.elem (Term.static "FourAskOne" "MOST_OF_WAY" "[I") (.int (Int32.ofNat j))).eval #[Value.ref b] s none [] s = some (.int (zA2 j))
    | 0, _ => va_eqt (hgv (Cond.eq (.elem (Term.static "FourAskOne" "MOST_OF_WAY" "[I") (.int (Int32.ofNat 0))) (.int (zA2 0))) (by decide +kernel))
    | 1, _ => va_eqt (hgv (Cond.eq (.elem (Term.static "FourAskOne" "MOST_OF_WAY" "[I") (.int (Int32.ofNat 1))) (.int (zA2 1))) (by decide +kernel))
    | k + 2, h => absurd h (by omega)
  obtain ⟨t2, tv2, tT2⟩ := va_Tof (A := fun q => s.heap.size ≤ q) (f := fun j => .int (zA2 j)) (N := 2) (by decide) (hgv (Cond.arrayOf (Term.static "FourAskOne" "MOST_OF_WAY" "[I") .int) (by decide +kernel)) (va_eqt tl2) te2 hA
  have tZ2 := va_Zref (A := fun q => s.heap.size ≤ q) (hts _ (List.mem_of_getElem? (i := 470) (by decide +kernel)) : (Cond.laysStatic "FourAskOne" "MOST_OF_WAY" "[I").before #[Value.ref b] s = true) (hts _ (List.mem_of_getElem? (i := 62) (by decide +kernel)) : (Cond.initialized "FourAskOne").before #[Value.ref b] s = true) tv2 hA
  have hSt := vk_Sof (args := #[Value.ref b]) (s := s) (N := 4) (tm := fun i => Term.string "FourAskOne$HouseText" (113 + 2 * i)) (len := zWl) (byt := zWb) (A := fun q => s.heap.size ≤ q)
      (fun i hi => match i, hi with
        | 0, _ => by decide
        | 1, _ => by decide
        | 2, _ => by decide
        | 3, _ => by decide
        | k + 4, h => absurd h (by omega))
      (fun i hi => match i, hi with
        | 0, _ => (hgv (Cond.exactly (Term.string "FourAskOne$HouseText" 113) "java/lang/String") (by decide +kernel))
        | 1, _ => (hgv (Cond.exactly (Term.string "FourAskOne$HouseText" 115) "java/lang/String") (by decide +kernel))
        | 2, _ => (hgv (Cond.exactly (Term.string "FourAskOne$HouseText" 117) "java/lang/String") (by decide +kernel))
        | 3, _ => (hgv (Cond.exactly (Term.string "FourAskOne$HouseText" 119) "java/lang/String") (by decide +kernel))
        | k + 4, h => absurd h (by omega))
      (fun i hi => match i, hi with
        | 0, _ => (hgv (Cond.eq (.field (Term.string "FourAskOne$HouseText" 113) "java/lang/String" "coder" "B") (.int 0)) (by decide +kernel))
        | 1, _ => (hgv (Cond.eq (.field (Term.string "FourAskOne$HouseText" 115) "java/lang/String" "coder" "B") (.int 0)) (by decide +kernel))
        | 2, _ => (hgv (Cond.eq (.field (Term.string "FourAskOne$HouseText" 117) "java/lang/String" "coder" "B") (.int 0)) (by decide +kernel))
        | 3, _ => (hgv (Cond.eq (.field (Term.string "FourAskOne$HouseText" 119) "java/lang/String" "coder" "B") (.int 0)) (by decide +kernel))
        | k + 4, h => absurd h (by omega))
      (fun i hi => match i, hi with
        | 0, _ => (hgv (Cond.arrayOf (.field (Term.string "FourAskOne$HouseText" 113) "java/lang/String" "value" "[B") .byte) (by decide +kernel))
        | 1, _ => (hgv (Cond.arrayOf (.field (Term.string "FourAskOne$HouseText" 115) "java/lang/String" "value" "[B") .byte) (by decide +kernel))
        | 2, _ => (hgv (Cond.arrayOf (.field (Term.string "FourAskOne$HouseText" 117) "java/lang/String" "value" "[B") .byte) (by decide +kernel))
        | 3, _ => (hgv (Cond.arrayOf (.field (Term.string "FourAskOne$HouseText" 119) "java/lang/String" "value" "[B") .byte) (by decide +kernel))
        | k + 4, h => absurd h (by omega))
      (fun i hi => match i, hi with
        | 0, _ => (hgv (Cond.eq (.length (.field (Term.string "FourAskOne$HouseText" 113) "java/lang/String" "value" "[B")) (.int (Int32.ofNat (zWl.getD 0 0)))) (by decide +kernel))
        | 1, _ => (hgv (Cond.eq (.length (.field (Term.string "FourAskOne$HouseText" 115) "java/lang/String" "value" "[B")) (.int (Int32.ofNat (zWl.getD 1 0)))) (by decide +kernel))
        | 2, _ => (hgv (Cond.eq (.length (.field (Term.string "FourAskOne$HouseText" 117) "java/lang/String" "value" "[B")) (.int (Int32.ofNat (zWl.getD 2 0)))) (by decide +kernel))
        | 3, _ => (hgv (Cond.eq (.length (.field (Term.string "FourAskOne$HouseText" 119) "java/lang/String" "value" "[B")) (.int (Int32.ofNat (zWl.getD 3 0)))) (by decide +kernel))
        | k + 4, h => absurd h (by omega))
      (fun i hi j hj => match i, hi, j, hj with
        | 0, _, 0, _ => (hgv (Cond.eq (.elem (.field (Term.string "FourAskOne$HouseText" 113) "java/lang/String" "value" "[B") (.int (Int32.ofNat 0))) (.int ((zWb.getD 0 []).getD 0 0))) (by decide +kernel))
        | 0, _, 1, _ => (hgv (Cond.eq (.elem (.field (Term.string "FourAskOne$HouseText" 113) "java/lang/String" "value" "[B") (.int (Int32.ofNat 1))) (.int ((zWb.getD 0 []).getD 1 0))) (by decide +kernel))
        | 0, _, 2, _ => (hgv (Cond.eq (.elem (.field (Term.string "FourAskOne$HouseText" 113) "java/lang/String" "value" "[B") (.int (Int32.ofNat 2))) (.int ((zWb.getD 0 []).getD 2 0))) (by decide +kernel))
        | 0, _, 3, _ => (hgv (Cond.eq (.elem (.field (Term.string "FourAskOne$HouseText" 113) "java/lang/String" "value" "[B") (.int (Int32.ofNat 3))) (.int ((zWb.getD 0 []).getD 3 0))) (by decide +kernel))
        | 0, _, 4, _ => (hgv (Cond.eq (.elem (.field (Term.string "FourAskOne$HouseText" 113) "java/lang/String" "value" "[B") (.int (Int32.ofNat 4))) (.int ((zWb.getD 0 []).getD 4 0))) (by decide +kernel))
        | 0, _, j + 5, h => absurd h (Nat.not_lt.mpr (Nat.le_add_left 5 j))
        | 1, _, 0, _ => (hgv (Cond.eq (.elem (.field (Term.string "FourAskOne$HouseText" 115) "java/lang/String" "value" "[B") (.int (Int32.ofNat 0))) (.int ((zWb.getD 1 []).getD 0 0))) (by decide +kernel))
        | 1, _, 1, _ => (hgv (Cond.eq (.elem (.field (Term.string "FourAskOne$HouseText" 115) "java/lang/String" "value" "[B") (.int (Int32.ofNat 1))) (.int ((zWb.getD 1 []).getD 1 0))) (by decide +kernel))
        | 1, _, 2, _ => (hgv (Cond.eq (.elem (.field (Term.string "FourAskOne$HouseText" 115) "java/lang/String" "value" "[B") (.int (Int32.ofNat 2))) (.int ((zWb.getD 1 []).getD 2 0))) (by decide +kernel))
        | 1, _, 3, _ => (hgv (Cond.eq (.elem (.field (Term.string "FourAskOne$HouseText" 115) "java/lang/String" "value" "[B") (.int (Int32.ofNat 3))) (.int ((zWb.getD 1 []).getD 3 0))) (by decide +kernel))
        | 1, _, 4, _ => (hgv (Cond.eq (.elem (.field (Term.string "FourAskOne$HouseText" 115) "java/lang/String" "value" "[B") (.int (Int32.ofNat 4))) (.int ((zWb.getD 1 []).getD 4 0))) (by decide +kernel))
        | 1, _, j + 5, h => absurd h (Nat.not_lt.mpr (Nat.le_add_left 5 j))
        | 2, _, 0, _ => (hgv (Cond.eq (.elem (.field (Term.string "FourAskOne$HouseText" 117) "java/lang/String" "value" "[B") (.int (Int32.ofNat 0))) (.int ((zWb.getD 2 []).getD 0 0))) (by decide +kernel))
        | 2, _, 1, _ => (hgv (Cond.eq (.elem (.field (Term.string "FourAskOne$HouseText" 117) "java/lang/String" "value" "[B") (.int (Int32.ofNat 1))) (.int ((zWb.getD 2 []).getD 1 0))) (by decide +kernel))
        | 2, _, 2, _ => (hgv (Cond.eq (.elem (.field (Term.string "FourAskOne$HouseText" 117) "java/lang/String" "value" "[B") (.int (Int32.ofNat 2))) (.int ((zWb.getD 2 []).getD 2 0))) (by decide +kernel))
        | 2, _, j + 3, h => absurd h (Nat.not_lt.mpr (Nat.le_add_left 3 j))
        | 3, _, 0, _ => (hgv (Cond.eq (.elem (.field (Term.string "FourAskOne$HouseText" 119) "java/lang/String" "value" "[B") (.int (Int32.ofNat 0))) (.int ((zWb.getD 3 []).getD 0 0))) (by decide +kernel))
        | 3, _, 1, _ => (hgv (Cond.eq (.elem (.field (Term.string "FourAskOne$HouseText" 119) "java/lang/String" "value" "[B") (.int (Int32.ofNat 1))) (.int ((zWb.getD 3 []).getD 1 0))) (by decide +kernel))
        | 3, _, 2, _ => (hgv (Cond.eq (.elem (.field (Term.string "FourAskOne$HouseText" 119) "java/lang/String" "value" "[B") (.int (Int32.ofNat 2))) (.int ((zWb.getD 3 []).getD 2 0))) (by decide +kernel))
        | 3, _, 3, _ => (hgv (Cond.eq (.elem (.field (Term.string "FourAskOne$HouseText" 119) "java/lang/String" "value" "[B") (.int (Int32.ofNat 3))) (.int ((zWb.getD 3 []).getD 3 0))) (by decide +kernel))
        | 3, _, 4, _ => (hgv (Cond.eq (.elem (.field (Term.string "FourAskOne$HouseText" 119) "java/lang/String" "value" "[B") (.int (Int32.ofNat 4))) (.int ((zWb.getD 3 []).getD 4 0))) (by decide +kernel))
        | 3, _, j + 5, h => absurd h (Nat.not_lt.mpr (Nat.le_add_left 5 j))
        | k + 4, h, _, _ => absurd h (by omega))
      (fun i j hi hj hij => match i, hi, j, hj, hij with
        | 0, _, 0, _, h => absurd rfl h
        | 0, _, 1, _, _ => Or.inl (hgv (Cond.not (Cond.eq (Term.string "FourAskOne$HouseText" 113) (Term.string "FourAskOne$HouseText" 115))) (by decide +kernel))
        | 0, _, 2, _, _ => Or.inl (hgv (Cond.not (Cond.eq (Term.string "FourAskOne$HouseText" 113) (Term.string "FourAskOne$HouseText" 117))) (by decide +kernel))
        | 0, _, 3, _, _ => Or.inl (hgv (Cond.not (Cond.eq (Term.string "FourAskOne$HouseText" 113) (Term.string "FourAskOne$HouseText" 119))) (by decide +kernel))
        | 0, _, k + 4, h, _ => absurd h (by omega)
        | 1, _, 0, _, _ => Or.inr (hgv (Cond.not (Cond.eq (Term.string "FourAskOne$HouseText" 113) (Term.string "FourAskOne$HouseText" 115))) (by decide +kernel))
        | 1, _, 1, _, h => absurd rfl h
        | 1, _, 2, _, _ => Or.inl (hgv (Cond.not (Cond.eq (Term.string "FourAskOne$HouseText" 115) (Term.string "FourAskOne$HouseText" 117))) (by decide +kernel))
        | 1, _, 3, _, _ => Or.inl (hgv (Cond.not (Cond.eq (Term.string "FourAskOne$HouseText" 115) (Term.string "FourAskOne$HouseText" 119))) (by decide +kernel))
        | 1, _, k + 4, h, _ => absurd h (by omega)
        | 2, _, 0, _, _ => Or.inr (hgv (Cond.not (Cond.eq (Term.string "FourAskOne$HouseText" 113) (Term.string "FourAskOne$HouseText" 117))) (by decide +kernel))
        | 2, _, 1, _, _ => Or.inr (hgv (Cond.not (Cond.eq (Term.string "FourAskOne$HouseText" 115) (Term.string "FourAskOne$HouseText" 117))) (by decide +kernel))
        | 2, _, 2, _, h => absurd rfl h
        | 2, _, 3, _, _ => Or.inl (hgv (Cond.not (Cond.eq (Term.string "FourAskOne$HouseText" 117) (Term.string "FourAskOne$HouseText" 119))) (by decide +kernel))
        | 2, _, k + 4, h, _ => absurd h (by omega)
        | 3, _, 0, _, _ => Or.inr (hgv (Cond.not (Cond.eq (Term.string "FourAskOne$HouseText" 113) (Term.string "FourAskOne$HouseText" 119))) (by decide +kernel))
        | 3, _, 1, _, _ => Or.inr (hgv (Cond.not (Cond.eq (Term.string "FourAskOne$HouseText" 115) (Term.string "FourAskOne$HouseText" 119))) (by decide +kernel))
        | 3, _, 2, _, _ => Or.inr (hgv (Cond.not (Cond.eq (Term.string "FourAskOne$HouseText" 117) (Term.string "FourAskOne$HouseText" 119))) (by decide +kernel))
        | 3, _, 3, _, h => absurd rfl h
        | 3, _, k + 4, h, _ => absurd h (by omega)
        | k + 4, h, _, _, _ => absurd h (by omega)) hA
  obtain ⟨adK, adV, kS4, kE⟩ := hSt
  have kR0 := vk_R.of (A := #[Value.ref b]) (hts _ (List.mem_of_getElem? (i := 662) (by decide +kernel)) : (Cond.stringRef "FourAskOne$HouseText" 113 "comer").before #[Value.ref b] s = true) (kE 0 (by decide))
  have kR1 := vk_R.of (A := #[Value.ref b]) (hts _ (List.mem_of_getElem? (i := 663) (by decide +kernel)) : (Cond.stringRef "FourAskOne$HouseText" 115 "asker").before #[Value.ref b] s = true) (kE 1 (by decide))
  have kR2 := vk_R.of (A := #[Value.ref b]) (hts _ (List.mem_of_getElem? (i := 664) (by decide +kernel)) : (Cond.stringRef "FourAskOne$HouseText" 117 "way").before #[Value.ref b] s = true) (kE 2 (by decide))
  have kR3 := vk_R.of (A := #[Value.ref b]) (hts _ (List.mem_of_getElem? (i := 665) (by decide +kernel)) : (Cond.stringRef "FourAskOne$HouseText" 119 "chief").before #[Value.ref b] s = true) (kE 3 (by decide))
  have zCS := va_Zof (A := fun q => s.heap.size ≤ q) (hts _ (List.mem_of_getElem? (i := 679) (by decide +kernel)) : (Cond.laysStatic "java/lang/String" "COMPACT_STRINGS" "Z").before #[Value.ref b] s = true) (hts _ (List.mem_of_getElem? (i := 78) (by decide +kernel)) : (Cond.initialized "java/lang/String").before #[Value.ref b] s = true) (va_eqt (hgv (Cond.eq (.static "java/lang/String" "COMPACT_STRINGS" "Z") (.int 1)) (by decide +kernel))) hA
  have zSI := va_Zqof (A := fun q => s.heap.size ≤ q) (hts _ (List.mem_of_getElem? (i := 696) (by decide +kernel)) : (Cond.laysStatic "jdk/internal/util/Preconditions" "SIOOBE_FORMATTER" "Ljava/util/function/BiFunction;").before #[Value.ref b] s = true) (hts _ (List.mem_of_getElem? (i := 80) (by decide +kernel)) : (Cond.initialized "jdk/internal/util/Preconditions").before #[Value.ref b] s = true) (hgv (Cond.isRef (.static "jdk/internal/util/Preconditions" "SIOOBE_FORMATTER" "Ljava/util/function/BiFunction;")) (by decide +kernel)) hA
  have zSV : ∃ vS : Value, (vS = .null ∨ ∃ a, vS = .ref a) ∧ va_Z "jdk/internal/util/Preconditions" "SIOOBE_FORMATTER" "Ljava/util/function/BiFunction;" vS (fun q => s.heap.size ≤ q) s s.heap := by
    rcases zSI with h | ⟨t, h⟩
    · exact ⟨_, Or.inl rfl, h⟩
    · exact ⟨_, Or.inr ⟨t, rfl⟩, h⟩
  obtain ⟨vS, hvS, zSI2⟩ := zSV
  have hCa : ∀ q ∈ zCa, Cond.castable q.1 q.2 ∈ lw_tbl := List.forall_mem_cons.mpr ⟨List.mem_of_getElem? (i := 1554) (by decide +kernel), List.forall_mem_cons.mpr ⟨List.mem_of_getElem? (i := 1555) (by decide +kernel), List.forall_mem_cons.mpr ⟨List.mem_of_getElem? (i := 1556) (by decide +kernel), List.forall_mem_cons.mpr ⟨List.mem_of_getElem? (i := 1557) (by decide +kernel), List.forall_mem_cons.mpr ⟨List.mem_of_getElem? (i := 1558) (by decide +kernel), List.forall_mem_cons.mpr ⟨List.mem_of_getElem? (i := 1559) (by decide +kernel), List.forall_mem_cons.mpr ⟨List.mem_of_getElem? (i := 1560) (by decide +kernel), List.forall_mem_cons.mpr ⟨List.mem_of_getElem? (i := 1561) (by decide +kernel), fun _ h => absurd h List.not_mem_nil⟩⟩⟩⟩⟩⟩⟩⟩
  have hNe : ∀ q ∈ zNe, Cond.fieldLinkNest q.1 q.2.1 "FourAskOne" q.2.2.1 q.2.2.2 "FourAskOne" ∈ lw_tbl := List.forall_mem_cons.mpr ⟨List.mem_of_getElem? (i := 728) (by decide +kernel), List.forall_mem_cons.mpr ⟨List.mem_of_getElem? (i := 729) (by decide +kernel), List.forall_mem_cons.mpr ⟨List.mem_of_getElem? (i := 730) (by decide +kernel), List.forall_mem_cons.mpr ⟨List.mem_of_getElem? (i := 944) (by decide +kernel), fun _ h => absurd h List.not_mem_nil⟩⟩⟩⟩
  have hDe : ∀ y ∈ zDe, Cond.declares y ∈ lw_tbl := List.forall_mem_cons.mpr ⟨List.mem_of_getElem? (i := 415) (by decide +kernel), List.forall_mem_cons.mpr ⟨List.mem_of_getElem? (i := 1011) (by decide +kernel), List.forall_mem_cons.mpr ⟨List.mem_of_getElem? (i := 1037) (by decide +kernel), fun _ h => absurd h List.not_mem_nil⟩⟩⟩
  have hNc : ∀ q ∈ zNc, Cond.not (.castable q.1 q.2) ∈ flatC (Jvm.Cond.and given_1 narrow_1) := by decide +kernel
  have hNws : zNws s := ⟨fun q hq => va_Nw.of rfl (hts _ (hCa q hq)), fun q hq => va_Nc.of (hgv _ (hNc q hq)), fun q hq => va_Nw.of rfl (hts _ (hNe q hq)), fun y hy => va_Nw.of rfl (hts _ (hDe y hy)), va_AO.of (hts _ (List.mem_of_getElem? (i := 91) (by decide +kernel)) : (Cond.arrayOver (.object "FourAskOne$Shelf")).before #[Value.ref b] s = true), va_AO.of (hts _ (List.mem_of_getElem? (i := 132) (by decide +kernel)) : (Cond.arrayOver (.object "FourAskOne$Way")).before #[Value.ref b] s = true)⟩
  refine ⟨((fun ci => (F ci).1, fun ci => (F ci).2), (cI, cJ, cS, cW), fun j => match j with
    | 0 => .ref t0 | 1 => .ref t1 | 2 => .ref t2 | 3 => .ref (adK 0) | 4 => .ref (adK 1) | 5 => .ref (adK 2) | 6 => .ref (adK 3) | 7 => .ref (adV 0) | 8 => .ref (adV 1) | 9 => .ref (adV 2) | 10 => .ref (adV 3) | 11 => vS | _ => .ref b), rfl, ⟨fun ci q hq => hF ci q hq, fun k q hq => ?_⟩, ?_⟩
  · match k, hq with
    | 0, h => cases h; exact ⟨fun n z => ⟨fun k h => (by cases h), kI, i2, pI, i3⟩, i1⟩
    | 1, h => cases h; exact ⟨fun n z => ⟨fun k h => (by cases h), kJ, j2, pJ, j3⟩, j1⟩
    | 2, h => cases h; exact ⟨fun n z => ⟨fun k h => (by cases h), kS, s3, pS, s4⟩, kS, pS, s3, s4, s1, s5⟩
    | 3, h => cases h; exact ⟨fun n z => ⟨fun k h => (by cases h), kW, w3, pW, w4⟩, kW, pW, w3, w4, w1, w5⟩
    | k + 4, h => cases h
  · refine ⟨fun j => ?_, ⟨t0, rfl, tZ0, tT0⟩, ⟨t1, rfl, tZ1, tT1⟩, ⟨t2, rfl, tZ2, tT2⟩, ⟨adK, adV, fun i hi => ?_, kS4, kR0, kR1, kR2, kR3⟩, zCS, zSI2, hNws⟩
    · match j with
      | 0 => exact Or.inr ⟨_, rfl⟩
      | 1 => exact Or.inr ⟨_, rfl⟩
      | 2 => exact Or.inr ⟨_, rfl⟩
      | 3 => exact Or.inr ⟨_, rfl⟩
      | 4 => exact Or.inr ⟨_, rfl⟩
      | 5 => exact Or.inr ⟨_, rfl⟩
      | 6 => exact Or.inr ⟨_, rfl⟩
      | 7 => exact Or.inr ⟨_, rfl⟩
      | 8 => exact Or.inr ⟨_, rfl⟩
      | 9 => exact Or.inr ⟨_, rfl⟩
      | 10 => exact Or.inr ⟨_, rfl⟩
      | 11 => exact hvS
      | k + 12 => exact Or.inr ⟨_, rfl⟩
    · match i, hi with
      | 0, _ => exact ⟨rfl, rfl⟩
      | 1, _ => exact ⟨rfl, rfl⟩
      | 2, _ => exact ⟨rfl, rfl⟩
      | 3, _ => exact ⟨rfl, rfl⟩
      | k + 4, h => exact absurd h (by omega)
theorem law_all {nm : String} {κ : zCtx} {b N : Nat} {xs : Nat → Int32} (B : zB (mLaw nm) κ) (S : zScr b N xs κ) : Z κ 0 0 zEmp 0 [(0, .float 12)] [] := by
  have hN := S.le
  have h0 := S.p0
  refine Z.new (σ := zEmp) B (ci := 11) (N := 9) dL_law_0 kLawN7 rfl (by decide) rfl (zT_at 83 (by decide +kernel) rfl) (zT_at 62 (by decide +kernel) rfl) zDf_11 zEmp_cl (zallL (by decide +kernel)) (fun v hv => by cases hv) (by rw [h0]; exact Nat.zero_le _) (by show 0 + 1 ≤ 600000; decide) (by show 0 + 9 ≤ 7302250; decide) ?_
  show Z κ 1 9 cS0 3 [(0, .float 12)] [.ref 0]
  refine Z.dup B dL_law_3 rfl ?_
  refine Z.callIA (σ := cS0) B (M' := mX11_init) (as := []) (st := [.ref 0]) dL_law_4 wX11_init iX11_init kLaw_9 rfl rfl t_ctor_X11_init_0 rfl rfl rfl (by decide) (by show 1 + 44 ≤ 600000; decide) (by show 9 + 1663 ≤ 7302250; decide) (by show (600000 : Nat) ≠ 0; decide) (by rw [h0]; exact Nat.zero_le _) (zallL (by decide +kernel)) (zallS (by decide +kernel)) ?_
  show Z κ 45 1672 cS132 7 [(0, .float 12)] [.ref 0]
  refine Z.astore_n B dL_law_7 (show 1 < 4 by decide) rfl (L' := [(0, .float 12), (1, .ref 0)]) rfl ?_
  refine Z.new (σ := cS132) B (ci := 12) (N := 33) dL_law_8 kLawN10 rfl (by decide) rfl (zT_at 1089 (by decide +kernel) rfl) (zT_at 67 (by decide +kernel) rfl) zDf_12 cl132 (zallL (by decide +kernel)) (fun v hv => by cases hv) (by rw [h0]; exact Nat.zero_le _) (by show 45 + 1 ≤ 600000; decide) (by show 1672 + 33 ≤ 7302250; decide) ?_
  show Z κ 46 1705 cS133 11 [(0, .float 12), (1, .ref 0)] [.ref 45]
  refine Z.dup B dL_law_11 rfl ?_
  refine Z.callIA (σ := cS133) B (M' := mX12_init) (as := []) (st := [.ref 45]) dL_law_12 wX12_init iX12_init kLaw_12 rfl rfl t_ctor_X12_init_45 rfl rfl rfl (by decide) (by show 46 + 20 ≤ 600000; decide) (by show 1705 + 1800 ≤ 7302250; decide) (by show (600000 : Nat) ≠ 0; decide) (by rw [h0]; exact Nat.zero_le _) (zallL (by decide +kernel)) (zallS (by decide +kernel)) ?_
  show Z κ 66 3505 cS202 15 [(0, .float 12), (1, .ref 0)] [.ref 45]
  refine Z.astore_n B dL_law_15 (show 2 < 4 by decide) rfl (L' := [(0, .float 12), (1, .ref 0), (2, .ref 45)]) rfl ?_
  refine Z.iconst B dL_law_16 (v := nI 0) rfl ?_
  refine Z.istore_n B dL_law_17 (show 3 < 4 by decide) (L' := zLL 0) rfl ?_
  exact law_loop B S 512 0 66 3505 cS202 rel0 (by omega) (by omega) (by decide) (by decide)

theorem whole_start {p : Program} {e : Env} {s : State} {m : MethodId} {below : List Frame} {meth : Method} {c : Code} (l : Launch) (hflags : l.flags = flags0) {b L : Nat} {xs : Nat → Int32} (hL : L ≤ 3072) (C0 : lw_At p s m meth c b L xs) : W p l e room_1 s m #[Value.ref b] below meth c s.heap [] 0 0 (lw_Z below #[Value.ref b] s) (entryFrame m ([Value.ref b] : List Value).toArray 4) := by
  obtain ⟨E, hE, hK, hF⟩ := zenv_of C0
  obtain ⟨hx, hb, hr, hml, hown, hts, hX, hbl, hlk, -⟩ := C0
  have B : zB (mLaw meth.name) (p, l, e, room_1, s, m, #[Value.ref b], below, meth, c, E, fun q => s.heap.size ≤ q, fun _ => 0, 0, lw_Z below #[Value.ref b] s) := ⟨hx, hb, hml, hown, fun w hw => hts w (List.mem_filter.mp hw).1, hr, hlk, rfl, rfl, hK, hF, fun q h => h⟩
  have S : zScr b L xs (p, l, e, room_1, s, m, #[Value.ref b], below, meth, c, E, fun q => s.heap.size ≤ q, fun _ => 0, 0, lw_Z below #[Value.ref b] s) := ⟨hE, hX, hbl, rfl, rfl, rfl, rfl, hL⟩
  have h0 := law_all B S
  rw [lg_entry_eq]
  have hl := lv_entry [Value.ref b] (n := 4) (show 1 ≤ 4 by decide)
  have e1 : zcL E (fun _ => 0) [(0, Value.float 12)] = lv_args 0 [Value.ref b] := by
    show [(0, E.2.2 12)] = _
    rw [hE]; rfl
  refine h0 (fun _ => 0) s.heap [] _ ⟨fun k q hq => (by cases hq), fun i j p q hp => (by cases hp), fun k q hq => (by cases hq)⟩ ⟨fun _ => rfl, fun _ _ => rfl⟩ va_S.rf ?_
  rw [hml, e1]
  exact hl

set_option maxHeartbeats 4000000 in
theorem lw_walk (l : Launch) (hflags : l.flags = flags0) (b : Addr) (xs : List Int32) : MetFree l x (headSpec (Jvm.Cond.code x code maxLocals ret :: tables_1) room_1) (lw_P b xs) (fun _ _ _ _ _ => True) lw_Q := by
  refine MetFree.of_bodyS (code := code) (maxLocals := maxLocals) (ret := ret) (by decide) ?_ ?_
  · intro args s m h hn
    obtain ⟨meth, c, h1, h2, h3, h4, h5, h6, -, -⟩ := Cond.code_spec hn (atoms_spec (ws := Jvm.Cond.code x code maxLocals ret :: tables_1) h _ List.mem_cons_self)
    exact ⟨meth, c, h1, h2, h3, h4, h5, h6⟩
  · intro p e s m args below meth c s₁ B hml0 hP _
    obtain ⟨rfl, hx, hbd, hgv⟩ := hP
    obtain ⟨scr, harrAt, hlist, hof, hsmall⟩ := hx
    obtain ⟨hcb, hkn, -, -⟩ := State.arrayAt?_spec harrAt
    have hown : s.vm.findClass R_law = some m.cls := findClass_of_methodNamed B.named
    have hts0 : ∀ c ∈ (Jvm.Cond.code x code maxLocals ret :: tables_1), c.before #[Value.ref b] s = true := atoms_spec (ws := Jvm.Cond.code x code maxLocals ret :: tables_1) B.pre
    have hts : ∀ w ∈ lw_tbl, w.before #[Value.ref b] s = true := k2_hts_sels lw_privs (fun w hw => hts0 w (List.mem_cons_of_mem _ hw)) lw_privs_ok
    have hml : c.maxLocals = 4 := B.maxLocals_eq (hts0 _ List.mem_cons_self)
    have X₀ : Stand p l e room_1 s m #[Value.ref b] below meth c s₁ [] 0 0 := Stand.of_body B
    have hh0 : s₁.heap = s.heap := by rw [B.state]; rfl
    have hsz : scr.slots.size = xs.length := by rw [← Array.length_toList, hlist, List.length_map]
    have hval : ∀ j : Nat, j < xs.length → scr.slots[j]? = some (.int (xs.getD j 0)) := fun j hj => by
      rw [← Array.getElem?_toList, hlist]
      simp [hj]
    have hbl : b < s.heap.size := (Array.getElem?_eq_some_iff.mp hcb).1
    have hX : va_X b xs.length (fun j => xs.getD j 0) s s.heap := ⟨scr, hcb, hof, hkn, hsz, hval⟩
    have K : W p l e room_1 s m #[Value.ref b] below meth c s₁.heap [] 0 0 (lw_Z below #[Value.ref b] s) (entryFrame m ([Value.ref b] : List Value).toArray 4) := by
      rw [hh0]
      exact whole_start l hflags hbd ⟨B.exec, B.bytes, B.returns, hml, hown, hts, hX, hbl, B.notSynchronized, hgv⟩
    obtain ⟨t, a1, o, b1, b2, b3⟩ := K s₁ rfl X₀
    exact ⟨t, o, a1, b1, b2, b3⟩
theorem lw_pre_spec {args : Array Value} {s : State} (h : (Jvm.Cond.and given_1 narrow_1).before args s = true) (hr : rest_1_c.before args s = true) : ∃ (b : Addr) (xs : List Int32), lw_P b xs args s := by
  have hs := flat_of_before _ h
  have hq := flat_of_before _ hr
  have hc : (Cond.count 1).before args s = true := hs _ (by decide +kernel)
  have harr : (Cond.arrayOf (.arg 0) .int).before args s = true := hs _ (by decide +kernel)
  have hle : (Cond.le (.length (.arg 0)) (.int 3072)).before args s = true := hs _ (by decide +kernel)
  have hlen : (Cond.isInt (.length (.arg 0))).before args s = true := hq _ (by decide +kernel)
  have hall : (Cond.all (.arg 0) (.isInt (.elem (.arg 0) (.index 0)))).before args s = true := hq _ (by decide +kernel)
  obtain ⟨b, xs, hb, hx⟩ := State.ints_of_pre rfl harr hlen hall
  have hsm : xs.length < 2 ^ 31 := hx.choose_spec.2.2.2
  have hev : (Term.length (.arg 0)).eval args s none [] s = some (.int xs.length.toInt32) := hx.length_eval hb
  have hv := Cond.le_ints hev (show (Term.int 3072).eval args s none [] s = some (.int 3072) from rfl)
  have hd : xs.length.toInt32 ≤ 3072 := by
    simpa [Cond.before, Cond.holds, hv] using hle
  have hN : xs.length ≤ 3072 := (Int32.ofNat_le_ofNat hsm (by decide)).mp (show Int32.ofNat xs.length ≤ Int32.ofNat 3072 from hd)
  exact ⟨b, xs, Cond.one_arg hc (show args[0]? = some (.ref b) from hb), hx, hN, h⟩
theorem lw_comes (l : Launch) (hflags : l.flags = flags0) : Comes l x (Jvm.Cond.code x code maxLocals ret :: tables_1) room_1 (fun tb e args s => Calls_1 tb e args s ∧ rest_1 tb e args s ∧ Pre_1 tb e args s)
    (fun _ _ args s o t => lw_Q args s o t) := by
  intro p e ha hc hk s m args below hf hfit hheap happ hpre
  obtain ⟨b, xs, hP⟩ := lw_pre_spec hpre.2.2 hpre.2.1
  obtain ⟨k, o, h1, h2, h3, hQ⟩ := lw_walk l hflags b xs p e ha hc hk s m args below hf ((Spec.applies_iff_loose hf).mp happ).1 hP trivial
  exact ⟨k, o, h1, h2, h3, hQ⟩
theorem lw_frame {s t : State} {o : Outcome} {args : Array Value} (h : Framed s o t [] 600000 7302250) :
    Framed s o t (fieldLocs frame_1_writes args s ++ arrayLocs frame_1_arrays args s ++ staticLocs frame_1_statics s) 600000 7302250 := h
theorem lw_limb (L : Cond) (hL : ∀ (args : Array Value) (s t : State), L.after args s (.returned (some (.int 1))) t = true) :
    ArmFor flags0 classFile x code maxLocals ret World_1 tables_1 room_1 Calls_1 rest_1 Pre_1
      (fun tb e a s o t => postC L tb e a s o t ∧ Framed s o t (fieldLocs frame_1_writes a s ++ arrayLocs frame_1_arrays a s ++ staticLocs frame_1_statics s) 600000 7302250) := by
  intro l hflags _ _ p e ha hc hk s m args below hf hfit hheap happ hpre
  obtain ⟨k, o, h1, h2, h3, rfl, hF⟩ := lw_comes l hflags p e ha hc hk s m args below hf hfit hheap happ hpre
  exact ⟨k, _, h1, h2, h3, hL args s _, lw_frame hF⟩
theorem i_vc : Claimed_1_1 ∧ Claimed_1_2 := ⟨lw_limb limb_1_1 (fun args s t => by simp [limb_1_1, Cond.after, Cond.holds, Cond.value]), lw_limb limb_1_2 (fun args s t => Cond.after_iff.mpr (by
  first | (rw [show limb_1_2 = Cond.eq .result (.int 1) from rfl, Cond.eq_ints (x := 1) (y := 1) rfl rfl]; simp; done) | (simp [limb_1_2, Cond.value, Term.eval]; done)))⟩
