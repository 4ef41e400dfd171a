/-! making an object; constructors; calls that make something; instanceof -/
def zCl (σ : zSt) : Prop := ∀ k f q, zR σ k f = some q → q < zN σ
def zPl0 (κ : zCtx) : Nat := κ.2.2.2.2.2.2.2.2.2.2.2.2.2.1
theorem Ct.ofN {M : zM} {σ : zSt} {as : List Value} {Post : Option Value → zSt → Prop} (hp : plainName M.1.cls = true) (hn : (as.map fun v => v.category).sum ≤ M.2.2.1)
    (h : ∀ κ, zB M κ → zRt M Post κ → zPl0 κ = zN σ → Z κ 0 0 σ 0 (lv_args 0 as) []) : Ct M as σ Post := by
  intro l E ad sz
  refine Met.ofW (cc := M.2.1) (maxL := M.2.2.1) (ret := M.2.2.2.1) (ws' := zT) hp rfl ?_
  intro p e s m args below meth c s₁ B hml hv
  obtain ⟨rfl, hsz, hw, hK, hF⟩ := hv
  subst hsz
  have hts := atoms_spec (ws := zTs M) B.pre
  rw [lg_entry_eq]
  have hl := lv_entry (as.map (zc E ad)) (n := M.2.2.1) (by rw [zlg, zcats hF.1]; exact hn)
  have h0 := h (p, l, e, zRm M, s, m, (as.map (zc E ad)).toArray, below, meth, c, E, va_A (zWs E ad σ) s.heap.size, ad, zN σ, MQ below (zQ M E ad σ s.heap.size Post) (as.map (zc E ad)).toArray s M.2.2.2.2.2.2.1 M.2.2.2.2.2.2.2 (va_A (zWs E ad σ) s.heap.size)) ⟨B.exec, B.bytes, hml, findClass_of_methodNamed B.named, fun w hw => hts w (List.mem_cons_of_mem _ hw), B.returns, B.notSynchronized, (name_of_methodNamed B.named B.method).1, rfl, hK, hF, fun q h => Or.inr h⟩ ⟨σ, rfl, rfl, rfl⟩ rfl
  exact h0 ad s.heap [] _ ⟨hw.1, hw.2.self⟩ ⟨fun _ => rfl, fun _ _ => rfl⟩ va_S.rf (by rw [hml, ← zargs hF.1]; exact hl)
theorem Dt.ofN {M : zM} {σ τ : zSt} {as : List Value} {r : Option Value} (hp : plainName M.1.cls = true) (hn : (as.map fun v => v.category).sum ≤ M.2.2.1)
    (h : ∀ κ, zB M κ → zRt M (fun r' σ' => r' = r ∧ σ' = τ) κ → zPl0 κ = zN σ → Z κ 0 0 σ 0 (lv_args 0 as) []) : Dt M as σ r τ := Ct.ofN hp hn h
theorem zmap_ad {ad ad' : Nat → Nat} {n : Nat} {r : Option Nat} (h : ∀ k, k < n → ad' k = ad k) (hr : ∀ q, r = some q → q < n) : r.map ad' = r.map ad := by
  cases r with
  | none => rfl
  | some q => exact congrArg some (h q (hr q rfl))
theorem zE_ad {E : zEnv} {ad ad' : Nat → Nat} {σ : zSt} {k : Nat} (hc : zCl σ) (h : ∀ k, k < zN σ → ad' k = ad k) : zE E ad' σ k = zE E ad σ k := by
  have hz : zF ad' σ k = zF ad σ k := by
    funext ci f
    simp only [zF]
    rw [zmap_ad h (fun q hq => hc k f q hq)]
  have hy : (fun i => (zR σ k i).map ad') = (fun i => (zR σ k i).map ad) := by
    funext i
    exact zmap_ad h (fun q hq => hc k i q hq)
  simp only [zE, zFs, hz, hy]
theorem zNew_o {σ : zSt} {c n k : Nat} (hk : k ≠ zN σ) : zK (zNew σ c n) k = zK σ k ∧ zL (zNew σ c n) k = zL σ k ∧ zX (zNew σ c n) k = zX σ k ∧ zY (zNew σ c n) k = zY σ k ∧ zR (zNew σ c n) k = zR σ k :=
  ⟨zfu_ne hk, zfu_ne hk, zfu_ne hk, zfu_ne hk, zfu_ne hk⟩
theorem zNew_n {σ : zSt} {c n : Nat} : zN (zNew σ c n) = zN σ + 1 ∧ zK (zNew σ c n) (zN σ) = c ∧ zL (zNew σ c n) (zN σ) = n ∧ zX (zNew σ c n) (zN σ) = (fun _ => 0) ∧ zY (zNew σ c n) (zN σ) = (fun _ => 0) ∧ zR (zNew σ c n) (zN σ) = (fun _ => none) :=
  ⟨rfl, zfu_self, zfu_self, zfu_self, zfu_self, zfu_self⟩
theorem zCl.new {σ : zSt} {c n : Nat} (h : zCl σ) : zCl (zNew σ c n) := by
  intro k f q hq
  by_cases hk : k = zN σ
  · subst hk
    rw [zNew_n.2.2.2.2.2] at hq
    cases hq
  · rw [(zNew_o hk).2.2.2.2] at hq
    exact Nat.lt_succ_of_lt (h k f q hq)
theorem Lay.new {σ : zSt} {c n : Nat} (h : Lay σ) : Lay (zNew σ c n) := by
  have hne : ∀ k, k < 66 → k ≠ zN σ := fun k hk e => by have := h.1; omega
  exact ⟨Nat.le_succ_of_le h.1, fun k hk => ((zNew_o (hne k hk)).1).trans (h.2.1 k hk), fun k hk => ((zNew_o (hne k hk)).2.1).trans (h.2.2.1 k hk), fun k f hk hf => by rw [(zNew_o (hne k hk)).2.2.2.2]; exact h.2.2.2 k f hk hf⟩
theorem zWs_new {E : zEnv} {ad : Nat → Nat} {σ : zSt} {c n q : Nat} (hc : zCl σ) : zWs E (fun k => if k = zN σ then q else ad k) (zNew σ c n) = zWs E ad σ ++ [(q, zE E (fun k => if k = zN σ then q else ad k) (zNew σ c n) (zN σ))] := by
  show (List.range (zN σ + 1)).map _ = _
  rw [List.range_succ, List.map_append]
  congr 1
  · refine List.map_congr_left fun k hk => ?_
    have hk := List.mem_range.mp hk
    have hne : k ≠ zN σ := by omega
    have h1 : zE E (fun k => if k = zN σ then q else ad k) (zNew σ c n) k = zE E (fun k => if k = zN σ then q else ad k) σ k := zE_congr (zNew_o hne).1 (zNew_o hne).2.1 (zNew_o hne).2.2.1 (zNew_o hne).2.2.2.1 (zNew_o hne).2.2.2.2
    rw [h1, zE_ad hc (ad := ad) (fun j hj => if_neg (by omega))]
    simp only [if_neg hne]
  · simp
/-- what a new object of class ci holds -/
def zDfT (ci N : Nat) (T : u_T) : Prop := ∀ ty : Nat → FieldType, (∀ k, k < N → parseFieldDescriptor (T k).2.2.1 = some (ty k)) → ∀ j, j < N → defaultValue (ty j) = (if zTr ci j then .null else .int 0)
section
variable {M M' : zM} {κ : zCtx} {u w : Nat} {σ τ : zSt} {pc k : Nat} {L : List (Nat × Value)} {st : List Value}
theorem Z.new (B : zB M κ) {idx ci N : Nat} {C : String} {T : u_T} (hd : decode M.2.1 pc = .ok (.new idx, 3)) (hlk : Cond.classLink M.1.cls idx C ∈ zT) (hq : vwCl[ci]? = some (C, T, N)) (hci : ci < 13) (hNf : zNf ci = N) (hinst : Cond.instantiable C N ∈ zT) (hini : Cond.initialized C ∈ zT) (hdf : zDfT ci N T)
    (hcl : zCl σ) (hL : ∀ q ∈ L, zLt (zN σ) q.2) (hst : ∀ v ∈ st, zLt (zN σ) v) (hn0 : zPl0 κ ≤ zN σ) (hu : u + 1 ≤ zcells M) (hw : w + N ≤ zslots M)
    (kk : Z κ (u + 1) (w + N) (zNew σ ci 0) (pc + 3) L (.ref (zN σ) :: st)) : Z κ u w σ pc L st := by
  obtain ⟨p, l, e, R, s, m, args, below, meth, c, E, A, ad0, n0, Q⟩ := κ
  obtain ⟨hx, hb, hml, hown, hts, hr, hlck, hnm, hR, hK, hF, hA⟩ := B
  intro ad H locs ls hwd ha hS hl
  obtain ⟨ty, hty, -⟩ := zTy hq
  refine va_new (cc := M.2.1) (ci := ci) hx hb hts (zU hq) ty hty hown (hts _ hlk) (hts _ hinst) (hts _ hini) hK hwd.1 hwd.2 hS hA hq (fs := (List.range N).map fun j => if zTr ci j then .null else .int 0) (fun j hj => by
    rw [hdf ty hty j hj]
    simp [vp_V, hj]) (by rw [hR]; exact hu) (by rw [hR]; exact hw) hd fun q H1 hP1 hD1 hS1 => ?_
  have hnew : zE E (fun k => if k = zN σ then q else ad k) (zNew σ ci 0) (zN σ) = .inr (ci, (List.range N).map fun j => if zTr ci j then .null else .int 0) := by
    rw [zE_O (σ := zNew σ ci 0) zNew_n.2.1 hci]
    refine congrArg (fun z => Sum.inr (ci, z)) ?_
    unfold zFs
    rw [hNf]
    refine List.map_congr_left fun j _ => ?_
    unfold zF
    rw [zNew_n.2.2.2.1, zNew_n.2.2.2.2.2]
    cases zTr ci j <;> rfl
  have e := zWs_new (E := E) (ad := ad) (c := ci) (n := 0) (q := q) hcl
  rw [hnew] at e
  rw [← e] at hP1 hD1
  have hcR : ¬ R.cells = 0 := by rw [hR]; show ¬ zcells M = 0; omega
  have hold : ∀ k, k < zN σ → (fun k => if k = zN σ then q else ad k) k = ad k := fun k hk => if_neg (by omega)
  have hLL : zcL E (fun k => if k = zN σ then q else ad k) L = zcL E ad L := List.map_congr_left fun x hx => by rw [zc_same hold (hL x hx)]
  have hss : st.map (zc E (fun k => if k = zN σ then q else ad k)) = st.map (zc E ad) := List.map_congr_left fun v hv => zc_same hold (hst v hv)
  have k2 := kk (fun k => if k = zN σ then q else ad k) H1 locs ls ⟨hP1, hD1⟩ ⟨fun h => absurd h hcR, fun k hk => (hold k (Nat.lt_of_lt_of_le hk hn0)).trans (ha.2 k hk)⟩ hS1 (by rw [hLL]; exact hl)
  have hs2 : (Value.ref (zN σ) :: st).map (zc E (fun k => if k = zN σ then q else ad k)) = .ref q :: st.map (zc E ad) := by
    rw [List.map_cons, hss]
    show Value.ref (if zN σ = zN σ then q else ad (zN σ)) :: _ = _
    rw [if_pos rfl]
  rw [hs2] at k2
  exact k2
theorem Z.callIN (B : zB M κ) {as : List Value} {idx n : Nat} {stk : List Value} (hd : decode M.2.1 pc = .ok (.invokespecial idx, 3)) (hm : zMw M' n) (hi : Cond.instanceMethod M'.1 ∈ zT) (hlk : Cond.methodLink M.1.cls idx M'.1 ∈ zT) (hin : M'.1.name = "<init>") (hrn : M'.2.2.2.1 = none)
    (hc : Dt M' (.ref k :: as) σ none τ) (hst : stk = as.reverse ++ .ref k :: st) (hn : as.length = n) (hrm : zRm2 M M' = true) (hz : zcells M' = 0 ∧ zslots M' = 0) (hcat : (st.map fun v => v.category).sum ≤ 8) (hu : u ≤ zcells M) (hw : w ≤ zslots M)
    (kk : Z κ u w τ (pc + 3) L st) : Z κ u w σ pc L stk := Z.callI B hd hc hst hm hi hlk hin hrn hn hrm hcat (by rw [hz.1]; exact hu) (by rw [hz.2]; exact hw) (Or.inl hz.1) (by rintro r σ' ⟨rfl, rfl⟩; rw [hz.1, hz.2]; exact kk)
/-- a virtual call that makes something -/
theorem Z.callVA (B : zB M κ) {as : List Value} {r : Option Value} {idx n : Nat} {stk : List Value} (hd : decode M.2.1 pc = .ok (.invokevirtual idx, 3)) (hm : zMw M' n) (hi : Cond.instanceMethod M'.1 ∈ zT) (hs : Cond.selects M'.1.cls M'.1 M'.1 ∈ zT) (hlk : Cond.methodLink M.1.cls idx M'.1 ∈ zT) {ci : Nat} {q : vw_C} (hk : k < zN σ) (hKd : zK σ k = ci) (hci : ci < 13) (hq : vwCl[ci]? = some q) (hqc : q.1 = M'.1.cls)
    (hc : Dt M' (.ref k :: as) σ r τ) (hst : stk = as.reverse ++ .ref k :: st) (hn : as.length = n) (hrm : zRm2 M M' = true) (hcat : (st.map fun v => v.category).sum ≤ 8) (hu : u + zcells M' ≤ zcells M) (hw : w + zslots M' ≤ zslots M)
    (hM0 : zcells M ≠ 0) (hn0 : zPl0 κ ≤ zN σ) (hL : ∀ q ∈ L, zLt (zN σ) q.2) (hS : ∀ v ∈ st, zLt (zN σ) v)
    (kk : Z κ (u + zcells M') (w + zslots M') τ (pc + 3) L (r.toList ++ st)) : Z κ u w σ pc L stk := Z.callV B hd hc hst hm hi hs hlk hk hKd hci hq hqc hn hrm hcat hu hw (Or.inr ⟨hM0, hn0, hL, hS⟩) (by rintro r σ' ⟨rfl, rfl⟩; exact kk)
theorem Z.instY (B : zB M κ) {idx ci : Nat} {nm : String} {q : vw_C} (hd : decode M.2.1 pc = .ok (.instanceof idx, 3)) (hlk : Cond.classLink M.1.cls idx nm ∈ zT) (hk : k < zN σ) (hKd : zK σ k = ci) (hci : ci < 13) (hq : vwCl[ci]? = some q) (hc : (q.1, nm) ∈ zCa ∨ q.1 = nm) (kk : Z κ u w σ (pc + 3) L (.int (nI 1) :: st)) : Z κ u w σ pc L (.ref k :: st) := by
  obtain ⟨p, l, e, R, s, m, args, below, meth, c, E, A, ad0, n0, Q⟩ := κ
  obtain ⟨hx, hb, hml, hown, hts, hr, hlck, hnm, hR, hK, hF, hA⟩ := B
  intro ad H locs ls hw ha hS hl
  have hrec := va_recv (q := q) (ci := ci) hK hw.1 hq ((zWs_get hk).trans (by rw [zE_O hKd hci]))
  rcases hc with hc | hc
  · exact va_instY hx hb hown (hts _ hlk) (hF.2.2.2.2.2.2.2.1 _ hc) hrec hd (kk ad H locs ls hw ha hS hl)
  · subst hc
    exact va_instS hx hb hown (hts _ hlk) (hK.1 ci q hq).2 hrec hd (kk ad H locs ls hw ha hS hl)
theorem Z.instNo (B : zB M κ) {idx ci : Nat} {nm : String} {q : vw_C} (hd : decode M.2.1 pc = .ok (.instanceof idx, 3)) (hlk : Cond.classLink M.1.cls idx nm ∈ zT) (hk : k < zN σ) (hKd : zK σ k = ci) (hci : ci < 13) (hq : vwCl[ci]? = some q) (hc : (q.1, nm) ∈ zNc) (kk : Z κ u w σ (pc + 3) L (.int (nI 0) :: st)) : Z κ u w σ pc L (.ref k :: st) := by
  obtain ⟨p, l, e, R, s, m, args, below, meth, c, E, A, ad0, n0, Q⟩ := κ
  obtain ⟨hx, hb, hml, hown, hts, hr, hlck, hnm, hR, hK, hF, hA⟩ := B
  intro ad H locs ls hw ha hS hl
  have hrec := va_recv (q := q) (ci := ci) hK hw.1 hq ((zWs_get hk).trans (by rw [zE_O hKd hci]))
  exact va_instNo hx hb hown (hts _ hlk) (hF.2.2.2.2.2.2.2.2.1 _ hc) hrec hd (kk ad H locs ls hw ha hS hl)
theorem Z.cast (B : zB M κ) {idx ci : Nat} {nm : String} {q : vw_C} (hd : decode M.2.1 pc = .ok (.checkcast idx, 3)) (hlk : Cond.classLink M.1.cls idx nm ∈ zT) (hk : k < zN σ) (hKd : zK σ k = ci) (hci : ci < 13) (hq : vwCl[ci]? = some q) (hc : (q.1, nm) ∈ zCa ∨ q.1 = nm) (kk : Z κ u w σ (pc + 3) L (.ref k :: st)) : Z κ u w σ pc L (.ref k :: st) := by
  obtain ⟨p, l, e, R, s, m, args, below, meth, c, E, A, ad0, n0, Q⟩ := κ
  obtain ⟨hx, hb, hml, hown, hts, hr, hlck, hnm, hR, hK, hF, hA⟩ := B
  intro ad H locs ls hw ha hS hl
  have hrec := va_recv (q := q) (ci := ci) hK hw.1 hq ((zWs_get hk).trans (by rw [zE_O hKd hci]))
  rcases hc with hc | hc
  · exact va_castY hx hb hown (hts _ hlk) (hF.2.2.2.2.2.2.2.1 _ hc) hrec hd (kk ad H locs ls hw ha hS hl)
  · subst hc
    exact va_castS hx hb hown (hts _ hlk) (hK.1 ci q hq).2 hrec hd (kk ad H locs ls hw ha hS hl)
end

theorem zDf_9 : zDfT 9 4 TX9 := by
  intro ty h j hj
  have e := fun k hk => Option.some.inj ((h k hk).symm.trans (tyX9_ok k hk))
  rw [e j hj]
  match j, hj with
  | 0, _ => rfl
  | 1, _ => rfl
  | 2, _ => rfl
  | 3, _ => rfl

theorem zDf_7 : zDfT 7 4 TX7 := by
  intro ty h j hj
  have e := fun k hk => Option.some.inj ((h k hk).symm.trans (tyX7_ok k hk))
  rw [e j hj]
  match j, hj with
  | 0, _ => rfl
  | 1, _ => rfl
  | 2, _ => rfl
  | 3, _ => rfl

theorem zDf_4 : zDfT 4 4 TX4 := by
  intro ty h j hj
  have e := fun k hk => Option.some.inj ((h k hk).symm.trans (tyX4_ok k hk))
  rw [e j hj]
  match j, hj with
  | 0, _ => rfl
  | 1, _ => rfl
  | 2, _ => rfl
  | 3, _ => rfl

theorem zDf_10 : zDfT 10 4 TX10 := by
  intro ty h j hj
  have e := fun k hk => Option.some.inj ((h k hk).symm.trans (tyX10_ok k hk))
  rw [e j hj]
  match j, hj with
  | 0, _ => rfl
  | 1, _ => rfl
  | 2, _ => rfl
  | 3, _ => rfl

theorem zDf_3 : zDfT 3 4 TX3 := by
  intro ty h j hj
  have e := fun k hk => Option.some.inj ((h k hk).symm.trans (tyX3_ok k hk))
  rw [e j hj]
  match j, hj with
  | 0, _ => rfl
  | 1, _ => rfl
  | 2, _ => rfl
  | 3, _ => rfl

theorem zDf_5 : zDfT 5 4 TX5 := by
  intro ty h j hj
  have e := fun k hk => Option.some.inj ((h k hk).symm.trans (tyX5_ok k hk))
  rw [e j hj]
  match j, hj with
  | 0, _ => rfl
  | 1, _ => rfl
  | 2, _ => rfl
  | 3, _ => rfl

theorem zDf_0 : zDfT 0 4 TX0 := by
  intro ty h j hj
  have e := fun k hk => Option.some.inj ((h k hk).symm.trans (tyX0_ok k hk))
  rw [e j hj]
  match j, hj with
  | 0, _ => rfl
  | 1, _ => rfl
  | 2, _ => rfl
  | 3, _ => rfl
