/-! super.m(..) of a method that the superclass inherits; the class's acts -/
theorem z_sub {vm : Vm} {cn t : ClassId} {k : Class} (hk : vm.classes[cn]? = some k) (hs : k.super = some t) : vm.isSubclass cn t = true := by
  have hlt : cn < vm.classes.size := (Array.getElem?_eq_some_iff.mp hk).1
  obtain ⟨z, hz⟩ := Nat.exists_eq_succ_of_ne_zero (Nat.ne_of_gt (Nat.lt_of_le_of_lt (Nat.zero_le _) hlt))
  unfold Vm.isSubclass
  rw [hz]
  unfold Vm.isSubclassAux
  rw [hk]
  simp only [hs]
  unfold Vm.isSubclassAux
  simp
section
variable {M M' : zM} {κ : zCtx} {u w : Nat} {σ τ : zSt} {pc : Nat} {L : List (Nat × Value)} {st : List Value}
theorem Z.callSUi (B : zB M κ) {as : List Value} {k : Nat} {v : Value} {idx n ci : Nat} {q : vw_C} {stk : List Value} {x : MethodName} (hd : decode M.2.1 pc = .ok (.invokespecial idx, 3)) (hc : Dt M' (.ref k :: as) σ (some v) τ)
    (hst : stk = as.reverse ++ .ref k :: st) (hm : zMw M' n) (hi : Cond.instanceMethod M'.1 ∈ zT) (hlk : Cond.methodLink M.1.cls idx x ∈ zT) (hsm : Cond.sameMethod x.cls M'.1.cls x.name x.desc ∈ zT) (hxm : x.name = M'.1.name ∧ x.desc = M'.1.desc) (hsu : Cond.superclass M.1.cls x.cls ∈ zT) (hsu2 : Cond.superclass x.cls M'.1.cls ∈ zT) (hno : M'.1.name ≠ "<init>")
    (hk : k < zN σ) (hKd : zK σ k = ci) (hci : ci < 13) (hq : vwCl[ci]? = some q) (hn : as.length = n) (hrm : zRm2 M M' = true) (hz : zcells M' = 0 ∧ zslots M' = 0) (hcat : (st.map fun v => v.category).sum ≤ 8)
    (hcl : u ≤ zcells M) (hsl : w ≤ zslots M)
    (kk : Z κ u w τ (pc + 3) L (v :: st)) : Z κ u w σ pc L stk := by
  obtain ⟨p, l, e, R, s, m, args, below, meth, c, E, A, ad0, n0, Q⟩ := κ
  have B' := B
  obtain ⟨hx, hb, hml, hown, hts, hrt, hlck, hnm, hR, hK, hF, hA⟩ := B
  intro ad H locs ls hw ha hS hl
  subst hst
  have hpre := z_pre B' hw hS (.ref k :: as)
  refine z_after B' (a := (Value.ref (ad k) :: as.map (zc E ad)).toArray) (M' := M') (Or.inl hz.1) hw ha hS hl ?_ (Post := fun r' σ' => r' = some v ∧ σ' = τ) (by rintro r σ' ⟨rfl, rfl⟩; rw [hz.1, hz.2]; exact kk)
  have hrec := va_recv (q := q) (ci := ci) hK hw.1 hq ((zWs_get hk).trans (by rw [zE_O hKd hci]))
  have hat : ClassAt s q.1 (E.1.1 ci) := (hK.1 ci q hq).2
  obtain ⟨cellB, hcB, hoB, hclB⟩ := hrec
  obtain ⟨hfc, kB, hkB, -⟩ := hat
  rw [Option.some.inj (hfc.symm.trans hclB)] at hkB
  obtain ⟨mk, methM, hnamed, hmethM, hstM, habM⟩ := Cond.instanceMethod_spec (hts _ hi)
  obtain ⟨methM', cM, hmethM', -, -, -, -, -, -, hsigM⟩ := Cond.code_spec hnamed (hts _ hm.1)
  cases hmethM.symm.trans hmethM'
  obtain ⟨ps, dk, kp, hps, hdk, hkp, hsuper, -, -, hnid⟩ := Cond.superclass_spec hown (hts _ hsu)
  obtain ⟨ps2, dk2, kp2, hps2, hdk2, hkp2, hsuper2, -, -, hnid2⟩ := Cond.superclass_spec hps (hts _ hsu2)
  have hn2 : s.methodNamed? ⟨M'.1.cls, x.name, x.desc⟩ = some mk := by rw [hxm.1, hxm.2]; exact hnamed
  have hpm : ps2 = mk.cls := Option.some.inj (hps2.symm.trans (findClass_of_methodNamed hnamed))
  have hrm2 := zRm2_of hrm
  have hK2 : Back l R p e below s args M'.1 3 8 (PreOf R (zcells M') (zslots M') _) (PostOf _ (zcells M') (zslots M') _) := back_of (bytes := M'.2.1) (maxL := M'.2.2.1) (ret := M'.2.2.2.1) (hc l E ad H.size) hpre.1 rfl rfl (by rw [hR]; exact hrm2.1) (by rw [hR]; exact hrm2.2) (pay_in hts (zG hm)) (List.mem_cons_self) (fun a' U hW => word_at hW (Or.inl (by first | rfl | simp [Cond.onTables, Cond.keeps, Cond.steady])) (hts _ hm.2.1))
  intro T hT X
  obtain ⟨vm₁, X₁, hstep₁⟩ := X.invokespecialUp hx hown (hts _ hlk) (hts _ hsm) hn2 hmethM hstM habM (by rw [hxm.1]; exact hno) hdk hnid hps hsuper (by rw [← hpm]; exact z_sub hdk2 hsuper2) (a := ad k) (cell := cellB) (by rw [hT]; exact hcB)
    (fun z h => by rw [h] at hoB; cases hoB) hkB (g := F0 m pc ls ((as.reverse ++ .ref k :: st).map (zc E ad))) rfl (argsL := as.map (zc E ad)) (rest := st.map (zc E ad)) (by
      rw [List.length_map, hn]
      have h2 := hm.2.2.2.2
      rw [hsigM] at h2
      exact (Option.some.inj h2).symm) (by simp [zc]) (by rw [hb]; exact hd)
  obtain ⟨v2, Bp, X', hpost, hsteps⟩ := hK2 m meth c ⟨T.setVm vm₁, locs, u, w⟩ { F0 m pc ls ((as.reverse ++ .ref k :: st).map (zc E ad)) with stack := st.map (zc E ad) } (.invokespecial idx) mk (Value.ref (ad k) :: as.map (zc E ad)).toArray X₁ rfl (by have := hl.1; simpa [hml] using this) (by rw [hb]; exact hd) (by
    show 2 * (F0 m pc ls _).monitorRoom + _ ≤ 8
    rw [zcats hF.1]
    simpa [F0, JFrame.monitorRoom] using hcat) (X₁.named hnamed) ⟨by rw [hR]; show u + zcells M' ≤ zcells M; rw [hz.1]; exact hcl, by rw [hR]; show w + zslots M' ≤ zslots M; rw [hz.2]; exact hsl, hpre.2 (T.setVm vm₁) hT X₁.warmed⟩
  obtain ⟨U', l2, c2, s2⟩ := Bp
  obtain ⟨g', mk', t, Lc, e1, e2, hq2, h1, hL, h2, h3⟩ := hpost
  dsimp only [Pt.U, Pt.locs, Pt.cells, Pt.slots] at X' e1 e2 h1 h2 h3 hsteps
  subst h1; subst h2; subst h3
  exact ⟨v2, (T.setVm vm₁).calling g' mk' (Value.ref (ad k) :: as.map (zc E ad)).toArray, t, U', Lc, hT, X', hL, e1, e2, hq2, fun target h => hstep₁ _ (by rw [doInvoke_state]; exact hsteps.trans h)⟩
end
