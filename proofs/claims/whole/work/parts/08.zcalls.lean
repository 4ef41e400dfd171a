/-! calls: what a call owes and what comes behind it -/
section
variable {M M' : zM} {u w : Nat} {σ : zSt} {pc : Nat} {L : List (Nat × Value)} {st : List Value}
def zLt (n : Nat) : Value → Prop
  | .ref k => k < n
  | _ => True
theorem zc_same {E : zEnv} {ad ad' : Nat → Nat} {n : Nat} (h : ∀ k, k < n → ad' k = ad k) {v : Value} (hv : zLt n v) : zc E ad' v = zc E ad v := by
  cases v with
  | ref k => show Value.ref (ad' k) = Value.ref (ad k); rw [h k hv]
  | _ => rfl
def zcells (M : zM) : Nat := M.2.2.2.2.2.2.1
def zslots (M : zM) : Nat := M.2.2.2.2.2.2.2
/-- the callee makes nothing, or what the caller holds stands already -/
def zOld (M M' : zM) (κ : zCtx) (σ : zSt) (L : List (Nat × Value)) (st : List Value) : Prop := zcells M' = 0 ∨ (zcells M ≠ 0 ∧ κ.2.2.2.2.2.2.2.2.2.2.2.2.2.1 ≤ zN σ ∧ (∀ q ∈ L, zLt (zN σ) q.2) ∧ ∀ v ∈ st, zLt (zN σ) v)
theorem z_after {p : Program} {l : Launch} {e : Env} {R : Room} {s : State} {m : MethodId} {args : Array Value} {below : List Frame} {meth : Method} {c : Code} {E : zEnv} {A : Nat → Prop} {ad0 : Nat → Nat} {n0 : Nat} {Q : State → Prop}
    (B : zB M (p, l, e, R, s, m, args, below, meth, c, E, A, ad0, n0, Q)) {Post : Option Value → zSt → Prop} {stk : List Value} {a : Array Value}
    (ho : zOld M M' (p, l, e, R, s, m, args, below, meth, c, E, A, ad0, n0, Q) σ L st)
    {ad : Nat → Nat} {H : Heap} {locs : List Loc} {ls : Array Slot} (hw : zWd E ad σ A H) (ha : (R.cells = 0 → ad = ad0) ∧ ∀ k, k < n0 → ad k = ad0 k) (hS : va_S A s.heap H locs) (hl : lv_has ls c.maxLocals (zcL E ad L))
    (hr : va_Run p l e R s m args below meth c H locs u w (zcells M') (zslots M') (F0 m pc ls stk) (st.map (zc E ad)) (zQ M' E ad σ H.size Post a) (va_A (zWs E ad σ) H.size))
    (kk : ∀ r σ', Post r σ' → Z (p, l, e, R, s, m, args, below, meth, c, E, A, ad0, n0, Q) (u + zcells M') (w + zslots M') σ' (pc + 3) L (r.toList ++ st)) : W p l e R s m args below meth c H locs u w Q (F0 m pc ls stk) := by
  obtain ⟨hx, hb, hml, hown, hts, hrt, hlk, hnm, hR, hK, hF, hA⟩ := B
  have hAA : ∀ q, va_A (zWs E ad σ) H.size q → A q := by
    intro q hq
    rcases hq with ⟨k, e, hq⟩ | hq
    · exact hw.2.2 k (q, e) hq
    · exact hA q (Nat.le_trans hS.1 hq)
  intro T hT X
  obtain ⟨v, st₀, t, T', Lc, h0, X', hL, e1, e2, ⟨⟨r, σ', ad', hv, hp, had, hold, hwd⟩, hz, hk⟩, stp⟩ := hr T hT X
  cases hv
  rw [h0] at hz hk
  have hLs : va_S A s.heap T'.heap (locs ++ Lc) := ⟨Nat.le_trans hS.1 (by rw [e1]; exact hz), fun q h1 h2 => by rw [e1, hk q (Nat.lt_of_lt_of_le h1 hS.1) (fun z => h2 (hAA q z))]; exact hS.2.1 q h1 h2, fun q hq => by
      rcases List.mem_append.mp hq with h | h
      · exact hS.2.2 q h
      · exact hAA _ (hL q h)⟩
  have hwd' : zWd E ad' σ' A T'.heap := by
    rw [e1]
    exact ⟨hwd.1, hwd.2.1, fun k q hq => hAA _ (hwd.2.2 k q hq)⟩
  have hLL : zcL E ad' L = zcL E ad L := by
    rcases ho with h | ⟨-, -, h, -⟩
    · rw [had h]
    · exact List.map_congr_left fun q hq => by rw [zc_same hold (h q hq)]
  have hst : st.map (zc E ad') = st.map (zc E ad) := by
    rcases ho with h | ⟨-, -, -, h⟩
    · rw [had h]
    · exact List.map_congr_left fun v hv => zc_same hold (h v hv)
  have ha' : (R.cells = 0 → ad' = ad0) ∧ ∀ k, k < n0 → ad' k = ad0 k := by
    rcases ho with h | ⟨h1, h2, -, -⟩
    · rw [had h]; exact ha
    · exact ⟨fun h => absurd (by rw [hR] at h; exact h) h1, fun k hk => (hold k (Nat.lt_of_lt_of_le hk h2)).trans (ha.2 k hk)⟩
  obtain ⟨t2, a1, b1⟩ := kk r σ' hp ad' T'.heap (locs ++ Lc) ls hwd' ha' hLs (by rw [hLL]; exact hl) T' rfl X'
  refine ⟨t2, stp t2 ?_, b1⟩
  have hs : (r.toList ++ st).map (zc E ad') = (r.map (zc E ad')).toList ++ st.map (zc E ad) := by
    rw [List.map_append, hst]
    cases r <;> rfl
  rw [hs] at a1
  exact a1
/-- what a callee's start asks -/
theorem z_pre {p : Program} {l : Launch} {e : Env} {R : Room} {s : State} {m : MethodId} {args : Array Value} {below : List Frame} {meth : Method} {c : Code} {E : zEnv} {A : Nat → Prop} {ad0 : Nat → Nat} {n0 : Nat} {Q : State → Prop}
    (B : zB M (p, l, e, R, s, m, args, below, meth, c, E, A, ad0, n0, Q)) {ad : Nat → Nat} {H : Heap} {locs : List Loc} (hw : zWd E ad σ A H) (hS : va_S A s.heap H locs) (as : List Value) :
    FrameBlind (va_Pc (as.map (zc E ad)) (fun U => U.heap.size = H.size ∧ zWd E ad σ (fun _ => True) U.heap ∧ va_K E.1 vwCl (zTys E) U ∧ zSF E (va_A (zWs E ad σ) H.size) U U.heap)) ∧
    ∀ U : State, U.heap = H → s.WarmedH U.vm → va_Pc (as.map (zc E ad)) (fun U => U.heap.size = H.size ∧ zWd E ad σ (fun _ => True) U.heap ∧ va_K E.1 vwCl (zTys E) U ∧ zSF E (va_A (zWs E ad σ) H.size) U U.heap) (as.map (zc E ad)).toArray U := by
  obtain ⟨hx, hb, hml, hown, hts, hrt, hlk, hnm, hR, hK, hF, hA⟩ := B
  have hAA : ∀ q, va_A (zWs E ad σ) H.size q → A q := by
    intro q hq
    rcases hq with ⟨k, e, hq⟩ | hq
    · exact hw.2.2 k (q, e) hq
    · exact hA q (Nat.le_trans hS.1 hq)
  refine ⟨fun a U g mk h => ⟨h.1, h.2.1, h.2.2.1, h.2.2.2.1.moved (Vm.Alike.refl _), h.2.2.2.2.same rfl⟩, fun U hU hW => ⟨rfl, by rw [hU], ⟨by rw [hU]; exact hw.1, hw.2.1, fun _ _ _ => trivial⟩, hK.moved hW.alike, ?_⟩⟩
  rw [hU]
  exact hF.to hW hS.2.1 hAA
/-- a callee's own words and its room -/
def zMw (M' : zM) (n : Nat) : Prop := Cond.code M'.1 M'.2.1 M'.2.2.1 M'.2.2.2.1 ∈ zT ∧ Cond.initialized M'.1.cls ∈ zT ∧ M'.1.cls ≠ "java/lang/invoke/MethodHandle" ∧ M'.1.cls ≠ "java/lang/invoke/VarHandle" ∧ (parseMethodDescriptor M'.1.desc).map (fun d => d.parameters.length) = some n
def zRm2 (M M' : zM) : Bool := Nat.ble (M'.2.2.2.2.1 + 1) M.2.2.2.2.1 && Nat.ble (8 + (M'.2.2.1 + 11) + M'.2.2.2.2.2.1) M.2.2.2.2.2.1
theorem zRm2_of (h : zRm2 M M' = true) : (zRm M').frames + 1 ≤ (zRm M).frames ∧ 8 + (M'.2.2.1 + 11) + (zRm M').locals ≤ (zRm M).locals := by
  unfold zRm2 at h
  have h' := (Bool.and_eq_true _ _).mp h
  exact ⟨Nat.le_of_ble_eq_true h'.1, Nat.le_of_ble_eq_true h'.2⟩
theorem zG {M' : zM} {n : Nat} (hm : zMw M' n) : GoodIn zT (zTs M') := by
  intro w hw
  rcases List.mem_cons.mp hw with h | h
  · rw [h]; exact zT_in hm.1
  · exact zT_in h
variable {κ : zCtx}
theorem Z.callV (B : zB M κ) {as : List Value} {k : Nat} {Post : Option Value → zSt → Prop} {idx n ci : Nat} {q : vw_C} {stk : List Value} (hd : decode M.2.1 pc = .ok (.invokevirtual idx, 3)) (hc : Ct M' (.ref k :: as) σ Post)
    (hst : stk = as.reverse ++ .ref k :: st) (hm : zMw M' n) (hi : Cond.instanceMethod M'.1 ∈ zT) (hs : Cond.selects M'.1.cls M'.1 M'.1 ∈ zT) (hlk : Cond.methodLink M.1.cls idx M'.1 ∈ zT)
    (hk : k < zN σ) (hKd : zK σ k = ci) (hci : ci < 13) (hq : vwCl[ci]? = some q) (hqc : q.1 = M'.1.cls) (hn : as.length = n) (hrm : zRm2 M M' = true) (hcat : (st.map fun v => v.category).sum ≤ 8)
    (hcl : u + zcells M' ≤ zcells M) (hsl : w + zslots M' ≤ zslots M) (ho : zOld M M' κ σ L st)
    (kk : ∀ r σ', Post r σ' → Z κ (u + zcells M') (w + zslots M') σ' (pc + 3) L (r.toList ++ st)) : Z κ u w σ pc L stk := by
  obtain ⟨p, l, e, R, s, m, args, below, meth, c, E, A, ad0, n0, Q⟩ := κ
  have B' := B
  obtain ⟨hx, hb, hml, hown, hts, hrt, hlck, hnm, hR, hK, hF, hA⟩ := B
  intro ad H locs ls hw ha hS hl
  subst hst
  have hpre := z_pre B' hw hS (.ref k :: as)
  refine z_after B' (a := (Value.ref (ad k) :: as.map (zc E ad)).toArray) ho hw ha hS hl ?_ kk
  have hrec := va_recv (q := q) (ci := ci) hK hw.1 hq ((zWs_get hk).trans (by rw [zE_O hKd hci]))
  rw [hqc] at hrec
  have hcw := cwV (R := R) (own := M.1.cls) (index := idx) (C := M'.1.cls) (y := M'.1) (bytes := M'.2.1) (maxL := M'.2.2.1) (ret := M'.2.2.2.1) (rm := zRm M') (mc := zcells M') (ms := zslots M') n hts (fun w hw2 => by
    unfold wsV at hw2
    rcases List.mem_append.mp hw2 with h | h
    · simp only [List.mem_cons, List.not_mem_nil, or_false] at h
      rcases h with rfl | rfl | rfl | rfl
      · exact zT_in hlk
      · exact zT_in hi
      · exact zT_in hs
      · exact zT_in hm.2.1
    · exact zG hm w h) rfl rfl rfl ⟨rfl, hm.2.2⟩ (by rw [hR]; exact zRm2_of hrm)
  exact va_runV (p := p) (l := l) (e := e) (below := below) (meth := meth) (H := H) (locs := locs) (cells := u) (slots := w) (g := F0 m pc ls ((as.reverse ++ .ref k :: st).map (zc E ad))) (As := as.map (zc E ad)) (b := ad k) ⟨hx, hb, hml, hown, hts⟩ (hc l E ad H.size) hcw ⟨hpre.1, hrec, hpre.2⟩ rfl (by rw [List.length_map]; exact hn) (by have := hl.1; simpa [hml] using this) (by simp [zc]) (by
    show 2 * (F0 m pc ls _).monitorRoom + _ ≤ 8
    rw [zcats hF.1]
    simpa [F0, JFrame.monitorRoom] using hcat) hd (by rw [hR]; exact ⟨hcl, hsl⟩)
theorem Z.callS (B : zB M κ) {as : List Value} {Post : Option Value → zSt → Prop} {idx n : Nat} {stk : List Value} (hd : decode M.2.1 pc = .ok (.invokestatic idx, 3)) (hc : Ct M' as σ Post)
    (hst : stk = as.reverse ++ st) (hm : zMw M' n) (hi : Cond.static M'.1 ∈ zT) (hlk : Cond.methodLink M.1.cls idx M'.1 ∈ zT) (hn : as.length = n) (hrm : zRm2 M M' = true) (hcat : (st.map fun v => v.category).sum ≤ 8)
    (hcl : u + zcells M' ≤ zcells M) (hsl : w + zslots M' ≤ zslots M) (ho : zOld M M' κ σ L st)
    (kk : ∀ r σ', Post r σ' → Z κ (u + zcells M') (w + zslots M') σ' (pc + 3) L (r.toList ++ st)) : Z κ u w σ pc L stk := by
  obtain ⟨p, l, e, R, s, m, args, below, meth, c, E, A, ad0, n0, Q⟩ := κ
  have B' := B
  obtain ⟨hx, hb, hml, hown, hts, hrt, hlck, hnm, hR, hK, hF, hA⟩ := B
  intro ad H locs ls hw ha hS hl
  subst hst
  have hpre := z_pre B' hw hS (as)
  refine z_after B' (a := (as.map (zc E ad)).toArray) ho hw ha hS hl ?_ kk
  have hcw := va_cwS (R := R) (own := M.1.cls) (index := idx) (y := M'.1) (bytes := M'.2.1) (maxL := M'.2.2.1) (ret := M'.2.2.2.1) (rm := zRm M') (mc := zcells M') (ms := zslots M') n hts (fun w hw2 => by
    unfold va_wsS at hw2
    rcases List.mem_append.mp hw2 with h | h
    · simp only [List.mem_cons, List.not_mem_nil, or_false] at h
      rcases h with rfl | rfl | rfl
      · exact zT_in hlk
      · exact zT_in hi
      · exact zT_in hm.2.1
    · exact zG hm w h) rfl rfl rfl hm.2.2 (by rw [hR]; exact zRm2_of hrm)
  exact va_runS (p := p) (l := l) (e := e) (below := below) (meth := meth) (H := H) (locs := locs) (cells := u) (slots := w) (g := F0 m pc ls ((as.reverse ++ st).map (zc E ad))) (As := as.map (zc E ad)) ⟨hx, hb, hml, hown, hts⟩ (hc l E ad H.size) hcw hpre rfl (by rw [List.length_map]; exact hn) (by have := hl.1; simpa [hml] using this) (by simp [zc]) (by
    show 2 * (F0 m pc ls _).monitorRoom + _ ≤ 8
    rw [zcats hF.1]
    simpa [F0, JFrame.monitorRoom] using hcat) hd (by rw [hR]; exact ⟨hcl, hsl⟩)
theorem Z.callI (B : zB M κ) {as : List Value} {k : Nat} {Post : Option Value → zSt → Prop} {idx n : Nat} {stk : List Value} (hd : decode M.2.1 pc = .ok (.invokespecial idx, 3)) (hc : Ct M' (.ref k :: as) σ Post)
    (hst : stk = as.reverse ++ .ref k :: st) (hm : zMw M' n) (hi : Cond.instanceMethod M'.1 ∈ zT) (hlk : Cond.methodLink M.1.cls idx M'.1 ∈ zT) (hin : M'.1.name = "<init>") (hrn : M'.2.2.2.1 = none) (hn : as.length = n) (hrm : zRm2 M M' = true) (hcat : (st.map fun v => v.category).sum ≤ 8)
    (hcl : u + zcells M' ≤ zcells M) (hsl : w + zslots M' ≤ zslots M) (ho : zOld M M' κ σ L st)
    (kk : ∀ r σ', Post r σ' → Z κ (u + zcells M') (w + zslots M') σ' (pc + 3) L (r.toList ++ st)) : Z κ u w σ pc L stk := by
  obtain ⟨p, l, e, R, s, m, args, below, meth, c, E, A, ad0, n0, Q⟩ := κ
  have B' := B
  obtain ⟨hx, hb, hml, hown, hts, hrt, hlck, hnm, hR, hK, hF, hA⟩ := B
  intro ad H locs ls hw ha hS hl
  subst hst
  have hpre := z_pre B' hw hS (.ref k :: as)
  refine z_after B' (a := (Value.ref (ad k) :: as.map (zc E ad)).toArray) ho hw ha hS hl ?_ kk
  have hcw := cwI (R := R) (own := M.1.cls) (index := idx) (y := M'.1) (bytes := M'.2.1) (maxL := M'.2.2.1) (ws := zTs M') (ws' := zT) (rm := zRm M') (mc := zcells M') (ms := zslots M') n hts (zG hm) (by rw [← hrn]; rfl) rfl rfl (hts _ hm.2.1) (hts _ hlk) (hts _ hi) hin hm.2.2 (by rw [hR]; exact zRm2_of hrm)
  exact va_runI (p := p) (l := l) (e := e) (below := below) (meth := meth) (H := H) (locs := locs) (cells := u) (slots := w) (g := F0 m pc ls ((as.reverse ++ .ref k :: st).map (zc E ad))) (As := as.map (zc E ad)) (b := ad k) ⟨hx, hb, hml, hown, hts⟩ (hc l E ad H.size) hcw hpre rfl (by rw [List.length_map]; exact hn) (by have := hl.1; simpa [hml] using this) (by simp [zc]) (by
    show 2 * (F0 m pc ls _).monitorRoom + _ ≤ 8
    rw [zcats hF.1]
    simpa [F0, JFrame.monitorRoom] using hcat) hd (by rw [hR]; exact ⟨hcl, hsl⟩)
/-- a virtual call: the reference names x, the receiver's class ci selects the callee -/
theorem Z.callU (B : zB M κ) {as : List Value} {k : Nat} {Post : Option Value → zSt → Prop} {idx n ci : Nat} {q : vw_C} {stk : List Value} {x : MethodName} {owner : String} {b0 : ByteArray} {m0 : Nat} {r0 : Option FieldType} (hd : decode M.2.1 pc = .ok (.invokevirtual idx, 3)) (hc : Ct M' (.ref k :: as) σ Post)
    (hst : stk = as.reverse ++ .ref k :: st) (hm : zMw M' n) (hi : Cond.instanceMethod M'.1 ∈ zT) (hlk : Cond.methodLink M.1.cls idx x ∈ zT) (hsm : Cond.sameMethod x.cls owner x.name x.desc ∈ zT) (hio : Cond.instanceMethod ⟨owner, x.name, x.desc⟩ ∈ zT) (hco : Cond.code ⟨owner, x.name, x.desc⟩ b0 m0 r0 ∈ zT) (how : owner ≠ "java/lang/invoke/MethodHandle" ∧ owner ≠ "java/lang/invoke/VarHandle" ∧ (parseMethodDescriptor x.desc).map (fun d => d.parameters.length) = some n)
    (hk : k < zN σ) (hKd : zK σ k = ci) (hci : ci < 13) (hq : vwCl[ci]? = some q) (hs : Cond.selects q.1 x M'.1 ∈ zT) (hn : as.length = n) (hrm : zRm2 M M' = true) (hcat : (st.map fun v => v.category).sum ≤ 8)
    (hcl : u + zcells M' ≤ zcells M) (hsl : w + zslots M' ≤ zslots M) (ho : zOld M M' κ σ L st)
    (kk : ∀ r σ', Post r σ' → Z κ (u + zcells M') (w + zslots M') σ' (pc + 3) L (r.toList ++ st)) : Z κ u w σ pc L stk := by
  obtain ⟨p, l, e, R, s, m, args, below, meth, c, E, A, ad0, n0, Q⟩ := κ
  have B' := B
  obtain ⟨hx, hb, hml, hown, hts, hrt, hlck, hnm, hR, hK, hF, hA⟩ := B
  intro ad H locs ls hw ha hS hl
  subst hst
  have hpre := z_pre B' hw hS (.ref k :: as)
  refine z_after B' (a := (Value.ref (ad k) :: as.map (zc E ad)).toArray) ho hw ha hS hl ?_ kk
  have hrec := va_recv (q := q) (ci := ci) hK hw.1 hq ((zWs_get hk).trans (by rw [zE_O hKd hci]))
  have hcw := va_cwO (R := R) (own := M.1.cls) (index := idx) (C := q.1) (owner := owner) (x := x) (y := M'.1) (bytes := M'.2.1) (maxL := M'.2.2.1) (ret := M'.2.2.2.1) (rm := zRm M') (mc := zcells M') (ms := zslots M') n hts (fun w hw2 => by
    unfold va_wsO at hw2
    rcases List.mem_append.mp hw2 with h | h
    · simp only [List.mem_cons, List.not_mem_nil, or_false] at h
      rcases h with rfl | rfl | rfl | rfl | rfl | rfl
      · exact zT_in hlk
      · exact zT_in hsm
      · exact zT_in hio
      · exact zT_in hs
      · exact zT_in hi
      · exact zT_in hm.2.1
    · exact zG hm w h) rfl rfl rfl (hts _ hco |> fun _ => hco) how (by rw [hR]; exact zRm2_of hrm)
  exact va_runU (p := p) (l := l) (e := e) (below := below) (meth := meth) (H := H) (locs := locs) (cells := u) (slots := w) (g := F0 m pc ls ((as.reverse ++ .ref k :: st).map (zc E ad))) (As := as.map (zc E ad)) (b := ad k) ⟨hx, hb, hml, hown, hts⟩ (hc l E ad H.size) hcw ⟨hpre.1, hrec, hpre.2⟩ rfl (by rw [List.length_map]; exact hn) (by have := hl.1; simpa [hml] using this) (by simp [zc]) (by
    show 2 * (F0 m pc ls _).monitorRoom + _ ≤ 8
    rw [zcats hF.1]
    simpa [F0, JFrame.monitorRoom] using hcat) hd (by rw [hR]; exact ⟨hcl, hsl⟩)
/-- super.m(..): the superclass's own method -/
theorem Z.callSU (B : zB M κ) {as : List Value} {k : Nat} {Post : Option Value → zSt → Prop} {idx n ci : Nat} {q : vw_C} {stk : List Value} (hd : decode M.2.1 pc = .ok (.invokespecial idx, 3)) (hc : Ct M' (.ref k :: as) σ Post)
    (hst : stk = as.reverse ++ .ref k :: st) (hm : zMw M' n) (hi : Cond.instanceMethod M'.1 ∈ zT) (hlk : Cond.methodLink M.1.cls idx M'.1 ∈ zT) (hsm : Cond.sameMethod M'.1.cls M'.1.cls M'.1.name M'.1.desc ∈ zT) (hsu : Cond.superclass M.1.cls M'.1.cls ∈ zT) (hno : M'.1.name ≠ "<init>")
    (hk : k < zN σ) (hKd : zK σ k = ci) (hci : ci < 13) (hq : vwCl[ci]? = some q) (hn : as.length = n) (hrm : zRm2 M M' = true) (hcat : (st.map fun v => v.category).sum ≤ 8)
    (hcl : u + zcells M' ≤ zcells M) (hsl : w + zslots M' ≤ zslots M) (ho : zOld M M' κ σ L st)
    (kk : ∀ r σ', Post r σ' → Z κ (u + zcells M') (w + zslots M') σ' (pc + 3) L (r.toList ++ st)) : Z κ u w σ pc L stk := by
  obtain ⟨p, l, e, R, s, m, args, below, meth, c, E, A, ad0, n0, Q⟩ := κ
  have B' := B
  obtain ⟨hx, hb, hml, hown, hts, hrt, hlck, hnm, hR, hK, hF, hA⟩ := B
  intro ad H locs ls hw ha hS hl
  subst hst
  have hpre := z_pre B' hw hS (.ref k :: as)
  refine z_after B' (a := (Value.ref (ad k) :: as.map (zc E ad)).toArray) ho hw ha hS hl ?_ kk
  have hrec := va_recv (q := q) (ci := ci) hK hw.1 hq ((zWs_get hk).trans (by rw [zE_O hKd hci]))
  have hcw := va_cwSU (R := R) (own := M.1.cls) (index := idx) (y := M'.1) (bytes := M'.2.1) (maxL := M'.2.2.1) (ret := M'.2.2.2.1) (rm := zRm M') (mc := zcells M') (ms := zslots M') n hts (fun w hw2 => by
    unfold va_wsSU at hw2
    rcases List.mem_append.mp hw2 with h | h
    · simp only [List.mem_cons, List.not_mem_nil, or_false] at h
      rcases h with rfl | rfl | rfl | rfl | rfl
      · exact zT_in hlk
      · exact zT_in hsm
      · exact zT_in hsu
      · exact zT_in hi
      · exact zT_in hm.2.1
    · exact zG hm w h) rfl rfl rfl ⟨hno, hm.2.2.2.2⟩ (by rw [hR]; exact zRm2_of hrm)
  exact va_runSU (p := p) (l := l) (e := e) (below := below) (meth := meth) (H := H) (locs := locs) (cells := u) (slots := w) (g := F0 m pc ls ((as.reverse ++ .ref k :: st).map (zc E ad))) (As := as.map (zc E ad)) (b := ad k) (hK.1 ci q hq).2 ⟨hx, hb, hml, hown, hts⟩ (hc l E ad H.size) hcw ⟨hpre.1, hrec, hpre.2⟩ rfl (by rw [List.length_map]; exact hn) (by have := hl.1; simpa [hml] using this) (by simp [zc]) (by
    show 2 * (F0 m pc ls _).monitorRoom + _ ≤ 8
    rw [zcats hF.1]
    simpa [F0, JFrame.monitorRoom] using hcat) hd (by rw [hR]; exact ⟨hcl, hsl⟩)
end
