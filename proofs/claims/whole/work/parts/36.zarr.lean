/-! making arrays -/
theorem zRA_eq {s : State} {c1 c2 : ClassId} {ty : FieldType} (h1 : va_RA s c1 ty) (h2 : va_RA s c2 ty) : c1 = c2 := by
  cases ty with
  | object C =>
    obtain ⟨_, _, _, _, _, e1⟩ := h1
    obtain ⟨_, _, _, _, _, e2⟩ := h2
    exact Option.some.inj (e1.symm.trans e2)
  | _ => exact Option.some.inj (Eq.trans (Eq.symm h1) h2)
section
variable {M M' : zM} {κ : zCtx} {u w : Nat} {σ τ : zSt} {pc k : Nat} {L : List (Nat × Value)} {st : List Value}
/-- behind the making of a cell -/
theorem z_made {p : Program} {l : Launch} {e : Env} {R : Room} {s : State} {m : MethodId} {args : Array Value} {below : List Frame} {meth : Method} {c : Code} {E : zEnv} {A : Nat → Prop} {ad0 : Nat → Nat} {n0 : Nat} {Q : State → Prop}
    (B : zB M (p, l, e, R, s, m, args, below, meth, c, E, A, ad0, n0, Q)) {ad : Nat → Nat} {H1 : Heap} {locs : List Loc} {ls : Array Slot} {u' w' pc' c0 n q : Nat} {cell : va_E}
    (hcl : zCl σ) (hL : ∀ q ∈ L, zLt (zN σ) q.2) (hst : ∀ v ∈ st, zLt (zN σ) v) (hn0 : n0 ≤ zN σ) (hcR : ¬ R.cells = 0)
    (ha : (R.cells = 0 → ad = ad0) ∧ ∀ k, k < n0 → ad k = ad0 k) (hl : lv_has ls c.maxLocals (zcL E ad L)) (hcell : zE E (fun k => if k = zN σ then q else ad k) (zNew σ c0 n) (zN σ) = cell)
    (hP1 : va_P E.1 vwCl (zWs E ad σ ++ [(q, cell)]) H1) (hD1 : va_D A (zWs E ad σ ++ [(q, cell)])) (hS1 : va_S A s.heap H1 locs)
    (kk : Z (p, l, e, R, s, m, args, below, meth, c, E, A, ad0, n0, Q) u' w' (zNew σ c0 n) pc' L (.ref (zN σ) :: st)) : W p l e R s m args below meth c H1 locs u' w' Q (F0 m pc' ls (.ref q :: st.map (zc E ad))) := by
  have e := zWs_new (E := E) (ad := ad) (c := c0) (n := n) (q := q) hcl
  rw [hcell] at e
  rw [← e] at hP1 hD1
  have hold : ∀ k, k < zN σ → (fun k => if k = zN σ then q else ad k) k = ad k := fun k hk => if_neg (by omega)
  have hLL : zcL E (fun k => if k = zN σ then q else ad k) L = zcL E ad L := List.map_congr_left fun x hx => by rw [zc_same hold (hL x hx)]
  have hss : st.map (zc E (fun k => if k = zN σ then q else ad k)) = st.map (zc E ad) := List.map_congr_left fun v hv => zc_same hold (hst v hv)
  have k2 := kk (fun k => if k = zN σ then q else ad k) H1 locs ls ⟨hP1, hD1⟩ ⟨fun h => absurd h hcR, fun k hk => (hold k (Nat.lt_of_lt_of_le hk hn0)).trans (ha.2 k hk)⟩ hS1 (by rw [hLL]; exact hl)
  have hs2 : (Value.ref (zN σ) :: st).map (zc E (fun k => if k = zN σ then q else ad k)) = .ref q :: st.map (zc E ad) := by
    rw [List.map_cons, hss]
    show Value.ref (if zN σ = zN σ then q else ad (zN σ)) :: _ = _
    rw [if_pos rfl]
  rw [hs2] at k2
  exact k2

theorem Z.newI (B : zB M κ) {n : Nat} (hd : decode M.2.1 pc = .ok (.newarray .int, 2)) (hn : n ≤ 2000) (hcl : zCl σ) (hL : ∀ q ∈ L, zLt (zN σ) q.2) (hst : ∀ v ∈ st, zLt (zN σ) v) (hn0 : zPl0 κ ≤ zN σ) (hu : u + 1 ≤ zcells M) (hw : w + n ≤ zslots M)
    (kk : Z κ (u + 1) (w + n) (zNew σ 13 n) (pc + 2) L (.ref (zN σ) :: st)) : Z κ u w σ pc L (.int (nI n) :: st) := by
  obtain ⟨p, l, e, R, s, m, args, below, meth, c, E, A, ad0, n0, Q⟩ := κ
  have B' := B
  obtain ⟨hx, hb, hml, hown, hts, hr, hlck, hnm, hR, hK, hF, hA⟩ := B
  intro ad H locs ls hwd ha hS hl
  refine va_newa (cc := M.2.1) (atype := .int) (ty := .int) hx hb (hts _ (zT_at 124 (by decide +kernel) rfl)) rfl hK hwd.1 hwd.2 hS hA (N' := n) (a0 := (n, .inl (fun _ => 0))) (fun cA => by rw [vp_cell_i]; rfl) (nI_pos (by omega)) (nI_clamp (by omega)) (by show n * _ ≤ _; simp only [componentBytes]; omega) (by rw [hR]; exact hu) (by rw [hR]; exact hw) hd fun q cA H1 hK1 hP1 hD1 hS1 => ?_
  have hcA : cA = E.2.1.1 := zRA_eq (hK1.2 4 (cA, .int) rfl).2 (hK.2 0 (E.2.1.1, .int) rfl).2
  subst hcA
  exact z_made B' hcl hL hst hn0 (by rw [hR]; show ¬ zcells M = 0; omega) ha hl (by rw [zE_I (σ := zNew σ 13 n) zNew_n.2.1, zNew_n.2.2.1, zNew_n.2.2.2.1]) hP1 hD1 hS1 kk
theorem Z.newL (B : zB M κ) {n : Nat} (hd : decode M.2.1 pc = .ok (.newarray .long, 2)) (hn : n ≤ 2000) (hcl : zCl σ) (hL : ∀ q ∈ L, zLt (zN σ) q.2) (hst : ∀ v ∈ st, zLt (zN σ) v) (hn0 : zPl0 κ ≤ zN σ) (hu : u + 1 ≤ zcells M) (hw : w + n ≤ zslots M)
    (kk : Z κ (u + 1) (w + n) (zNew σ 14 n) (pc + 2) L (.ref (zN σ) :: st)) : Z κ u w σ pc L (.int (nI n) :: st) := by
  obtain ⟨p, l, e, R, s, m, args, below, meth, c, E, A, ad0, n0, Q⟩ := κ
  have B' := B
  obtain ⟨hx, hb, hml, hown, hts, hr, hlck, hnm, hR, hK, hF, hA⟩ := B
  intro ad H locs ls hwd ha hS hl
  refine va_newa (cc := M.2.1) (atype := .long) (ty := .long) hx hb (hts _ (zT_at 110 (by decide +kernel) rfl)) rfl hK hwd.1 hwd.2 hS hA (N' := n) (a0 := (n, .inr (.inl (fun _ => 0)))) (fun cA => by rw [vp_cell_l]; rfl) (nI_pos (by omega)) (nI_clamp (by omega)) (by show n * _ ≤ _; simp only [componentBytes]; omega) (by rw [hR]; exact hu) (by rw [hR]; exact hw) hd fun q cA H1 hK1 hP1 hD1 hS1 => ?_
  have hcA : cA = E.2.1.2.1 := zRA_eq (hK1.2 4 (cA, .long) rfl).2 (hK.2 1 (E.2.1.2.1, .long) rfl).2
  subst hcA
  exact z_made B' hcl hL hst hn0 (by rw [hR]; show ¬ zcells M = 0; omega) ha hl (by rw [zE_J (σ := zNew σ 14 n) zNew_n.2.1, zNew_n.2.2.1, zNew_n.2.2.2.2.1]) hP1 hD1 hS1 kk
theorem Z.newS (B : zB M κ) {idx n : Nat} (hd : decode M.2.1 pc = .ok (.anewarray idx, 3)) (hlk : Cond.classLink M.1.cls idx "FourAskOne$Shelf" ∈ zT) (hn : n ≤ 2000) (hcl : zCl σ) (hL : ∀ q ∈ L, zLt (zN σ) q.2) (hst : ∀ v ∈ st, zLt (zN σ) v) (hn0 : zPl0 κ ≤ zN σ) (hu : u + 1 ≤ zcells M) (hw : w + n ≤ zslots M)
    (kk : Z κ (u + 1) (w + n) (zNew σ 15 n) (pc + 3) L (.ref (zN σ) :: st)) : Z κ u w σ pc L (.int (nI n) :: st) := by
  obtain ⟨p, l, e, R, s, m, args, below, meth, c, E, A, ad0, n0, Q⟩ := κ
  have B' := B
  obtain ⟨hx, hb, hml, hown, hts, hr, hlck, hnm, hR, hK, hF, hA⟩ := B
  intro ad H locs ls hwd ha hS hl
  refine va_newq (cc := M.2.1) hx hb hown (hts _ hlk) hF.2.2.2.2.2.2.2.2.2.2.2.1 hK hwd.1 hwd.2 hS hA (N' := n) (nI_pos (by omega)) (nI_clamp (by omega)) (by omega) (by rw [hR]; exact hu) (by rw [hR]; exact hw) hd fun q cA H1 hK1 hP1 hD1 hS1 => ?_
  have hcA : cA = E.2.1.2.2.1 := zRA_eq (hK1.2 4 (cA, .object "FourAskOne$Shelf") rfl).2 (hK.2 2 (E.2.1.2.2.1, .object "FourAskOne$Shelf") rfl).2
  subst hcA
  exact z_made B' hcl hL hst hn0 (by rw [hR]; show ¬ zcells M = 0; omega) ha hl (by rw [zE_S (σ := zNew σ 15 n) zNew_n.2.1, zNew_n.2.2.1, zNew_n.2.2.2.2.2]; rfl) hP1 hD1 hS1 kk
theorem Z.newY (B : zB M κ) {idx n : Nat} (hd : decode M.2.1 pc = .ok (.anewarray idx, 3)) (hlk : Cond.classLink M.1.cls idx "FourAskOne$Way" ∈ zT) (hn : n ≤ 2000) (hcl : zCl σ) (hL : ∀ q ∈ L, zLt (zN σ) q.2) (hst : ∀ v ∈ st, zLt (zN σ) v) (hn0 : zPl0 κ ≤ zN σ) (hu : u + 1 ≤ zcells M) (hw : w + n ≤ zslots M)
    (kk : Z κ (u + 1) (w + n) (zNew σ 16 n) (pc + 3) L (.ref (zN σ) :: st)) : Z κ u w σ pc L (.int (nI n) :: st) := by
  obtain ⟨p, l, e, R, s, m, args, below, meth, c, E, A, ad0, n0, Q⟩ := κ
  have B' := B
  obtain ⟨hx, hb, hml, hown, hts, hr, hlck, hnm, hR, hK, hF, hA⟩ := B
  intro ad H locs ls hwd ha hS hl
  refine va_newq (cc := M.2.1) hx hb hown (hts _ hlk) hF.2.2.2.2.2.2.2.2.2.2.2.2 hK hwd.1 hwd.2 hS hA (N' := n) (nI_pos (by omega)) (nI_clamp (by omega)) (by omega) (by rw [hR]; exact hu) (by rw [hR]; exact hw) hd fun q cA H1 hK1 hP1 hD1 hS1 => ?_
  have hcA : cA = E.2.1.2.2.2 := zRA_eq (hK1.2 4 (cA, .object "FourAskOne$Way") rfl).2 (hK.2 3 (E.2.1.2.2.2, .object "FourAskOne$Way") rfl).2
  subst hcA
  exact z_made B' hcl hL hst hn0 (by rw [hR]; show ¬ zcells M = 0; omega) ha hl (by rw [zE_Y (σ := zNew σ 16 n) zNew_n.2.1, zNew_n.2.2.1, zNew_n.2.2.2.2.2]; rfl) hP1 hD1 hS1 kk
theorem Z.callIA (B : zB M κ) {as : List Value} {idx n : Nat} {stk : List Value} (hd : decode M.2.1 pc = .ok (.invokespecial idx, 3)) (hm : zMw M' n) (hi : Cond.instanceMethod M'.1 ∈ zT) (hlk : Cond.methodLink M.1.cls idx M'.1 ∈ zT) (hin : M'.1.name = "<init>") (hrn : M'.2.2.2.1 = none)
    (hc : Dt M' (.ref k :: as) σ none τ) (hst : stk = as.reverse ++ .ref k :: st) (hn : as.length = n) (hrm : zRm2 M M' = true) (hcat : (st.map fun v => v.category).sum ≤ 8) (hu : u + zcells M' ≤ zcells M) (hw : w + zslots M' ≤ zslots M)
    (hM0 : zcells M ≠ 0) (hn0 : zPl0 κ ≤ zN σ) (hL : ∀ q ∈ L, zLt (zN σ) q.2) (hS : ∀ v ∈ st, zLt (zN σ) v)
    (kk : Z κ (u + zcells M') (w + zslots M') τ (pc + 3) L st) : Z κ u w σ pc L stk := Z.callI B hd hc hst hm hi hlk hin hrn hn hrm hcat hu hw (Or.inr ⟨hM0, hn0, hL, hS⟩) (by rintro r σ' ⟨rfl, rfl⟩; exact kk)
/-- a shelf into the array of shelves -/
theorem Z.astS (B : zB M κ) {i : Int32} {j n q : Nat} (hd : decode M.2.1 pc = .ok (.aastore, 1)) (hk : k < zN σ) (hKd : zK σ k = 15) (hn : zL σ k = n) (h31 : n < 2 ^ 31) (hj : i = nI j) (hlt : j < n) (hqn : q < zN σ) (hqk : zK σ q = 6) (hτ : zuR σ k (va_up (zR σ k) j (some q)) = τ) (kk : Z κ u w τ (pc + 1) L st) : Z κ u w σ pc L (.ref q :: .int i :: .ref k :: st) := by
  subst hj; subst hτ
  obtain ⟨p, l, e, R, s, m, args, below, meth, c, E, A, ad0, n0, Q⟩ := κ
  obtain ⟨hx, hb, hml, hown, hts, hr, hlk, hnm, hR, hK, hF, hA⟩ := B
  intro ad H locs ls hw ha hS hl
  refine va_astqM hx hb hK hw.1 hw.2 hS k 2 ((zWs_get hk).trans (by rw [zE_S hKd])) rfl (va_rAny (r := (RX6, TX6, 4)) hK hw.1 ((zWs_get hqn).trans (by rw [zE_O hqk (by decide)])) rfl vb_asgS) (by rw [hn]; exact vp_in_nI hlt h31) hd fun H1 locs1 hP1 hD1 hS1 => ?_
  rw [nI_clamp (by omega)] at hP1 hD1
  have e : (zWs E ad σ).set k (ad k, .inl (E.2.1.2.2.1, zL σ k, .inr (.inr (.inr (.inr (va_up (fun i => (zR σ k i).map ad) j (some (ad q)))))))) = zWs E ad (zuR σ k (va_up (zR σ k) j (some q))) := zWs_set rfl (by rw [zE_S (σ := zuR σ k (va_up (zR σ k) j (some q))) hKd, zR_self, ← zup_map]; rfl) (fun j hj => zE_uR hj)
  rw [e] at hP1 hD1
  exact kk ad H1 locs1 ls ⟨hP1, hD1⟩ ha hS1 hl
end
theorem zCl.uX {σ : zSt} {k : Nat} {f : Nat → Int32} (h : zCl σ) : zCl (zuX σ k f) := h
theorem zCl.uY {σ : zSt} {k : Nat} {f : Nat → Int64} (h : zCl σ) : zCl (zuY σ k f) := h
theorem zCl.uR {σ : zSt} {k : Nat} {f : Nat → Option Nat} (h : zCl σ) (hf : ∀ j q, f j = some q → q < zN σ) : zCl (zuR σ k f) := by
  intro k2 j q hq
  by_cases hk : k2 = k
  · subst hk
    rw [zR_self] at hq
    exact hf j q hq
  · have e : zR (zuR σ k f) k2 = zR σ k2 := zfu_ne hk
    rw [e] at hq
    exact h k2 j q hq
theorem zCl.up {σ : zSt} {k j q : Nat} (h : zCl σ) (hq : q < zN σ) : zCl (zuR σ k (va_up (zR σ k) j (some q))) := h.uR fun i q2 hq2 => by
  simp only [va_up] at hq2
  split at hq2
  · cases hq2; exact hq
  · exact h k i q2 hq2