/-! the law: its frame, its script, its end -/
def R_law : String := "FourAskOneLaw"
def lw_P (b : Addr) (xs : List Int32) (args : Array Value) (s : State) : Prop := args = #[.ref b] ∧ s.IntsAt b xs ∧ xs.length ≤ 3072 ∧ (Jvm.Cond.and given_1 narrow_1).before args s = true
def lw_Q (_ : Array Value) (s : State) (o : Outcome) (t : State) : Prop := o = .returned (some (.int 1)) ∧ Framed s o t [] 600000 7302250
def lw_Z (below : List Frame) (a : Array Value) (s : State) : State → Prop := fun t => ∃ o, t.status = .running ∧ Ended t below o ∧ lw_Q a s o t
/-- the law's own end, with 1 on the stack, nothing written that was there before, its room as the claim has it -/
theorem lw_ret {p : Program} {l : Launch} {e : Env} {s : State} {m : MethodId} {below : List Frame} {meth : Method} {c : Code} {b : Nat} (hx : p.tables.exec = Jvm.exec) (hb : c.code = code) (hr : meth.sig.returnType = ret) (hlocks : meth.locks = false) {pc : Nat} {H : Heap} {ls : Array Slot} (hdg : decode code pc = .ok (.ireturn, 1)) : W p l e room_1 s m #[Value.ref b] below meth c H [] 600000 7302250 (lw_Z below #[Value.ref b] s) (F0 m pc ls [.int 1]) := by
  intro T hT X
  obtain ⟨fs, hret, hrun, hended, hW, hframe⟩ := X.leave (v := some (.int 1)) (hlocks := hlocks) (fun h => by rw [hr] at h; cases h)
  have hmeth' : T.vm.method? m = some meth := X.method'
  refine ⟨T.setFrames fs, ?_, .returned (some (.int 1)), hrun, hended, rfl, ⟨_, rfl⟩, hW, hframe⟩
  jvm_step X.here [X.here.top, hx, hb, hdg, hmeth', hr, ret, narrow_b1]
  (try refine ⟨rfl, ?_⟩); (try refine ⟨rfl, ?_⟩)
  first | (intro acts; rw [hret _ acts rfl rfl rfl]) | rw [hret _ _ rfl rfl rfl]
  exact Steps.refl _
/-- what holds at the law's entry: the machine, the code, the tables' words (any of lw_tbl by 'hts w (by decide +kernel)'), the script of L ints xs at the cell b, what the Statement gives of the start (any of its parts by flat_of_before) -/
def lw_At (p : Program) (s : State) (m : MethodId) (meth : Method) (c : Code) (b L : Nat) (xs : Nat → Int32) : Prop :=
  p.tables.exec = Jvm.exec ∧ c.code = code ∧ meth.sig.returnType = ret ∧ c.maxLocals = 4 ∧ s.vm.findClass R_law = some m.cls ∧ (∀ w ∈ lw_tbl, w.before #[Value.ref b] s = true) ∧ va_X b L xs s s.heap ∧ b < s.heap.size ∧ meth.locks = false ∧ (Jvm.Cond.and given_1 narrow_1).before #[Value.ref b] s = true
def mLaw (nm : String) : zM := (⟨R_law, nm, "([I)Z"⟩, code, 4, ret, (12, 456, 600000, 7302250))
def zScr (b N : Nat) (xs : Nat → Int32) : zCtx → Prop := fun (p, l, e, R, s, m, args, below, meth, c, E, A, ad0, n0, Q) => E.2.2 12 = .ref b ∧ va_X b N xs s s.heap ∧ b < s.heap.size ∧ A = (fun q => s.heap.size ≤ q) ∧ args = #[Value.ref b] ∧ Q = lw_Z below #[Value.ref b] s ∧ n0 = 0 ∧ N ≤ 3072
/-- the law's locals in its loop -/
def zLL (i : Nat) : List (Nat × Value) := [(0, .float 12), (1, .ref 0), (2, .ref 45), (3, .int (nI i))]
section
variable {nm : String} {κ : zCtx} {u w : Nat} {σ : zSt} {pc b N : Nat} {xs : Nat → Int32} {L : List (Nat × Value)} {st : List Value}
theorem zScr.p0 (S : zScr b N xs κ) : zPl0 κ = 0 := by
  obtain ⟨p, l, e, R, s, m, args, below, meth, c, E, A, ad0, n0, Q⟩ := κ
  exact S.2.2.2.2.2.2.1
theorem zScr.le (S : zScr b N xs κ) : N ≤ 3072 := by
  obtain ⟨p, l, e, R, s, m, args, below, meth, c, E, A, ad0, n0, Q⟩ := κ
  exact S.2.2.2.2.2.2.2
theorem Z.sld (B : zB (mLaw nm) κ) (S : zScr b N xs κ) {j : Nat} (hd : decode code pc = .ok (.iaload, 1)) (hlt : j < N) (kk : Z κ u w σ (pc + 1) L (.int (xs j) :: st)) : Z κ u w σ pc L (.int (nI j) :: .float 12 :: st) := by
  have hle := S.le
  obtain ⟨p, l, e, R, s, m, args, below, meth, c, E, A, ad0, n0, Q⟩ := κ
  obtain ⟨hx, hb, hml, hown, hts, hr, hlk, hnm, hR, hK, hF, hA⟩ := B
  obtain ⟨s1, s2, s3, s4, -⟩ := S
  intro ad H locs ls hw ha hS hl
  have e1 : (Value.int (nI j) :: .float 12 :: st).map (zc E ad) = .int (nI j) :: .ref b :: st.map (zc E ad) := by
    show _ :: E.2.2 12 :: _ = _
    rw [s1]; rfl
  rw [e1]
  exact va_sld hx hb s2 s3 (by rw [s4]; exact Nat.not_le.mpr s3) hS (vp_in_nI hlt (by omega)) hd (by rw [nI_clamp (by omega)]; exact kk ad H locs ls hw ha hS hl)
theorem Z.slen (B : zB (mLaw nm) κ) (S : zScr b N xs κ) (hd : decode code pc = .ok (.arraylength, 1)) (kk : Z κ u w σ (pc + 1) L (.int (nI N) :: st)) : Z κ u w σ pc L (.float 12 :: st) := by
  obtain ⟨p, l, e, R, s, m, args, below, meth, c, E, A, ad0, n0, Q⟩ := κ
  obtain ⟨hx, hb, hml, hown, hts, hr, hlk, hnm, hR, hK, hF, hA⟩ := B
  obtain ⟨s1, s2, s3, s4, -⟩ := S
  intro ad H locs ls hw ha hS hl
  have e1 : (Value.float 12 :: st).map (zc E ad) = .ref b :: st.map (zc E ad) := by
    show E.2.2 12 :: _ = _
    rw [s1]
  rw [e1]
  exact va_slen hx hb s2 s3 (by rw [s4]; exact Nat.not_le.mpr s3) hS hd (kk ad H locs ls hw ha hS hl)
/-- the law's good end -/
theorem Z.lawEnd (B : zB (mLaw nm) κ) (S : zScr b N xs κ) (hd : decode code pc = .ok (.ireturn, 1)) (hu : u ≤ 600000) (hw2 : w ≤ 7302250) : Z κ u w σ pc L [.int 1] := by
  obtain ⟨p, l, e, R, s, m, args, below, meth, c, E, A, ad0, n0, Q⟩ := κ
  obtain ⟨hx, hb, hml, hown, hts, hr, hlk, hnm, hR, hK, hF, hA⟩ := B
  obtain ⟨s1, s2, s3, s4, s5, s6, s7, s8⟩ := S
  subst s4; subst s5; subst s6; subst hR
  intro ad H locs ls hw ha hS hl
  refine va_forget (fun q hq => hS.2.2 q hq) ?_
  exact W.widen hu hw2 (lw_ret hx hb hr hlk hd)
/-- script[i + k] onto the stack -/
theorem Z.sarg (B : zB (mLaw nm) κ) (S : zScr b N xs κ) {i k : Nat} {z : Int} (d0 : decode code pc = .ok (.aload_n 0, 1)) (d1 : decode code (pc + 1) = .ok (.iload_n 3, 1)) (d2 : decode code (pc + 2) = .ok (.iconst z, 1)) (d3 : decode code (pc + 3) = .ok (.iadd, 1)) (d4 : decode code (pc + 4) = .ok (.iaload, 1)) (hz : Int32.ofInt z = nI k) (hi : i + k < N)
    (kk : Z κ u w σ (pc + 5) (zLL i) (.int (xs (i + k)) :: st)) : Z κ u w σ pc (zLL i) st := by
  refine Z.aload_n B d0 (v := .float 12) rfl rfl ?_
  refine Z.iload_n B d1 (x := nI i) rfl ?_
  refine Z.iconst B d2 (v := nI k) hz ?_
  refine Z.iaddN B d3 ?_
  exact Z.sld B S d4 hi kk
/-- an int taken for a boolean -/
def nzB (x : Int32) : Bool := !(x == 0)
theorem Z.sbool (B : zB (mLaw nm) κ) {x : Int32} (d0 : decode code pc = .ok (.ifCond .eq 7, 3)) (d1 : decode code (pc + 3) = .ok (.iconst 1, 1)) (d2 : decode code (pc + 4) = .ok (.goto 4, 3)) (d3 : decode code (pc + 7) = .ok (.iconst 0, 1))
    (kk : Z κ u w σ (pc + 8) L (.int (zb (nzB x)) :: st)) : Z κ u w σ pc L (.int x :: st) := by
  refine Z.if_eq B d0 (tgt := pc + 7) (by omega) (fun h => ?_) (fun h => ?_)
  · subst h
    exact Z.iconst B d3 (v := zb (nzB 0)) rfl kk
  · have e1 : zb (nzB x) = 1 := by
      have : nzB x = true := by
        unfold nzB
        simpa using h
      rw [this]; rfl
    rw [e1] at kk
    refine Z.iconst B d1 (v := 1) rfl ?_
    exact Z.goto B d2 (tgt := pc + 8) (by omega) kk
/-- a call of the class -/
theorem Z.lawK (B : zB (mLaw nm) κ) (S : zScr b N xs κ) {K : zM} {as stk : List Value} {i idx n : Nat} {Post : Option Value → zSt → Prop} (hd : decode code pc = .ok (.invokevirtual idx, 3)) (hc : Ct K (.ref 0 :: as) σ Post) (hst : stk = as.reverse ++ [.ref 0]) (hm : zMw K n) (hi : Cond.instanceMethod K.1 ∈ zT) (hs : Cond.selects K.1.cls K.1 K.1 ∈ zT) (hlk : Cond.methodLink R_law idx K.1 ∈ zT)
    (hl : Lay σ) (hqc : RX11 = K.1.cls) (hn : as.length = n) (hrm : zRm2 (mLaw nm) K = true) (hu : u + zcells K ≤ 600000) (hw : w + zslots K ≤ 7302250)
    (kk : ∀ r σ', Post r σ' → Z κ (u + zcells K) (w + zslots K) σ' (pc + 3) (zLL i) (r.toList ++ [])) : Z κ u w σ pc (zLL i) stk := by
  have h0 : 0 < zN σ := hl.n (by decide)
  have h45 : 45 < zN σ := hl.n (by decide)
  refine Z.callV (M := mLaw nm) (ci := 11) (st := []) B hd hc hst hm hi hs hlk h0 (hl.k (k := 0) (by decide)) (by decide) (q := (RX11, TX11, 9)) rfl hqc hn hrm (by decide) hu hw (Or.inr ⟨by show (600000 : Nat) ≠ 0; decide, ?_, ?_, fun v hv => by cases hv⟩) kk
  · have := S.p0
    show zPl0 κ ≤ zN σ
    omega
  · intro q hq
    unfold zLL at hq
    simp only [List.mem_cons, List.not_mem_nil, or_false] at hq
    rcases hq with rfl | rfl | rfl | rfl
    · trivial
    · exact h0
    · exact h45
    · trivial
/-- a call of the model -/
theorem Z.lawM (B : zB (mLaw nm) κ) {K : zM} {as stk : List Value} {v : Value} {i idx n : Nat} {Post : Option Value → zSt → Prop} (hd : decode code pc = .ok (.invokevirtual idx, 3)) (hc : Ct K (.ref 45 :: as) σ Post) (hst : stk = as.reverse ++ .ref 45 :: [v]) (hm : zMw K n) (hi : Cond.instanceMethod K.1 ∈ zT) (hs : Cond.selects K.1.cls K.1 K.1 ∈ zT) (hlk : Cond.methodLink R_law idx K.1 ∈ zT)
    (hl : 45 < zN σ ∧ zK σ 45 = 12) (hqc : RX12 = K.1.cls) (hn : as.length = n) (hrm : zRm2 (mLaw nm) K = true) (hz : zcells K = 0 ∧ zslots K = 0) (hu : u ≤ 600000) (hw : w ≤ 7302250)
    (kk : ∀ r σ', Post r σ' → Z κ u w σ' (pc + 3) (zLL i) (r.toList ++ [v])) : Z κ u w σ pc (zLL i) stk := by
  have hcat : ([v].map fun v => v.category).sum ≤ 8 := by
    rcases lv_cat v with h | h <;> simp [h]
  refine Z.callV (M := mLaw nm) (ci := 12) (st := [v]) B hd hc hst hm hi hs hlk hl.1 hl.2 (by decide) (q := (RX12, TX12, 33)) rfl hqc hn hrm hcat (by rw [hz.1]; exact hu) (by rw [hz.2]; exact hw) (Or.inl hz.1) ?_
  rw [hz.1, hz.2]
  exact kk
end

theorem kLaw_9 : Cond.methodLink R_law 9 yX11_init ∈ zT := zT_at 84 (by decide +kernel) rfl
theorem kLaw_13 : Cond.methodLink R_law 13 yX11_row ∈ zT := zT_at 214 (by decide +kernel) rfl
theorem kLaw_20 : Cond.methodLink R_law 20 yX11_set ∈ zT := zT_at 239 (by decide +kernel) rfl
theorem kLaw_25 : Cond.methodLink R_law 25 yX11_copy ∈ zT := zT_at 267 (by decide +kernel) rfl
theorem kLaw_30 : Cond.methodLink R_law 30 yX11_element ∈ zT := zT_at 283 (by decide +kernel) rfl
theorem kLaw_35 : Cond.methodLink R_law 35 yX11_show ∈ zT := zT_at 291 (by decide +kernel) rfl
theorem kLaw_40 : Cond.methodLink R_law 40 yX11_holds ∈ zT := zT_at 303 (by decide +kernel) rfl
theorem kLaw_45 : Cond.methodLink R_law 45 yX11_says ∈ zT := zT_at 315 (by decide +kernel) rfl
theorem kLaw_49 : Cond.methodLink R_law 49 yX11_comer ∈ zT := zT_at 432 (by decide +kernel) rfl
theorem kLaw_53 : Cond.methodLink R_law 53 yX11_asker ∈ zT := zT_at 455 (by decide +kernel) rfl
theorem kLaw_57 : Cond.methodLink R_law 57 yX11_way ∈ zT := zT_at 465 (by decide +kernel) rfl
theorem kLaw_61 : Cond.methodLink R_law 61 yX11_comerOf ∈ zT := zT_at 582 (by decide +kernel) rfl
theorem kLaw_65 : Cond.methodLink R_law 65 yX11_askerOf ∈ zT := zT_at 591 (by decide +kernel) rfl
theorem kLaw_69 : Cond.methodLink R_law 69 yX11_wayOf ∈ zT := zT_at 604 (by decide +kernel) rfl
theorem kLaw_73 : Cond.methodLink R_law 73 yX11_change ∈ zT := zT_at 608 (by decide +kernel) rfl
theorem kLaw_77 : Cond.methodLink R_law 77 yX11_drawn ∈ zT := zT_at 617 (by decide +kernel) rfl
theorem kLaw_81 : Cond.methodLink R_law 81 yX11_chief ∈ zT := zT_at 626 (by decide +kernel) rfl
theorem kLaw_85 : Cond.methodLink R_law 85 yX11_house ∈ zT := zT_at 635 (by decide +kernel) rfl
theorem kLaw_89 : Cond.methodLink R_law 89 yX11_fault ∈ zT := zT_at 765 (by decide +kernel) rfl
theorem kLaw_94 : Cond.methodLink R_law 94 yX11_shows ∈ zT := zT_at 769 (by decide +kernel) rfl
theorem kLaw_98 : Cond.methodLink R_law 98 yX11_said ∈ zT := zT_at 774 (by decide +kernel) rfl
theorem kLaw_103 : Cond.methodLink R_law 103 yX11_total ∈ zT := zT_at 782 (by decide +kernel) rfl
theorem kLaw_108 : Cond.methodLink R_law 108 yX11_taken ∈ zT := zT_at 788 (by decide +kernel) rfl
theorem kLaw_113 : Cond.methodLink R_law 113 yX11_best ∈ zT := zT_at 792 (by decide +kernel) rfl
theorem kLaw_117 : Cond.methodLink R_law 117 yX11_tells ∈ zT := zT_at 796 (by decide +kernel) rfl
theorem kLaw_121 : Cond.methodLink R_law 121 yX11_righted ∈ zT := zT_at 819 (by decide +kernel) rfl
theorem kLaw_125 : Cond.methodLink R_law 125 yX11_head ∈ zT := zT_at 831 (by decide +kernel) rfl
theorem kLaw_129 : Cond.methodLink R_law 129 yX11_joined ∈ zT := zT_at 835 (by decide +kernel) rfl
theorem kLaw_133 : Cond.methodLink R_law 133 yX11_weights ∈ zT := zT_at 843 (by decide +kernel) rfl
theorem kLaw_137 : Cond.methodLink R_law 137 yX11_heads ∈ zT := zT_at 847 (by decide +kernel) rfl
theorem kLaw_141 : Cond.methodLink R_law 141 yX11_agree ∈ zT := zT_at 855 (by decide +kernel) rfl
theorem kLaw_145 : Cond.methodLink R_law 145 yX11_wrong ∈ zT := zT_at 863 (by decide +kernel) rfl
theorem kLaw_149 : Cond.methodLink R_law 149 yX11_lost ∈ zT := zT_at 872 (by decide +kernel) rfl
theorem kLaw_153 : Cond.methodLink R_law 153 yX11_turned ∈ zT := zT_at 885 (by decide +kernel) rfl
theorem kLaw_157 : Cond.methodLink R_law 157 yX11_piece ∈ zT := zT_at 893 (by decide +kernel) rfl
theorem kLaw_161 : Cond.methodLink R_law 161 yX11_comes ∈ zT := zT_at 901 (by decide +kernel) rfl
theorem kLaw_165 : Cond.methodLink R_law 165 yX11_lets ∈ zT := zT_at 914 (by decide +kernel) rfl
theorem kLaw_169 : Cond.methodLink R_law 169 yX11_judge ∈ zT := zT_at 918 (by decide +kernel) rfl
theorem kLaw_173 : Cond.methodLink R_law 173 yX11_told ∈ zT := zT_at 928 (by decide +kernel) rfl
theorem kLaw_177 : Cond.methodLink R_law 177 yX11_come ∈ zT := zT_at 936 (by decide +kernel) rfl
theorem kLaw_181 : Cond.methodLink R_law 181 yX11_clear ∈ zT := zT_at 950 (by decide +kernel) rfl
theorem kLaw_185 : Cond.methodLink R_law 185 yX11_seed ∈ zT := zT_at 958 (by decide +kernel) rfl
theorem kLaw_189 : Cond.methodLink R_law 189 yX11_act ∈ zT := zT_at 970 (by decide +kernel) rfl
theorem kLaw_193 : Cond.methodLink R_law 193 yX11_trace ∈ zT := zT_at 1052 (by decide +kernel) rfl
theorem kLaw_197 : Cond.methodLink R_law 197 yX11_image ∈ zT := zT_at 1060 (by decide +kernel) rfl
theorem kLaw_201 : Cond.methodLink R_law 201 yX11_restore ∈ zT := zT_at 1068 (by decide +kernel) rfl
theorem kLaw_205 : Cond.methodLink R_law 205 yX11_status ∈ zT := zT_at 1072 (by decide +kernel) rfl
theorem kLaw_12 : Cond.methodLink R_law 12 yX12_init ∈ zT := zT_at 1090 (by decide +kernel) rfl
theorem kLaw_17 : Cond.methodLink R_law 17 yX12_row ∈ zT := zT_at 1194 (by decide +kernel) rfl
theorem kLaw_24 : Cond.methodLink R_law 24 yX12_set ∈ zT := zT_at 1206 (by decide +kernel) rfl
theorem kLaw_29 : Cond.methodLink R_law 29 yX12_copy ∈ zT := zT_at 1210 (by decide +kernel) rfl
theorem kLaw_34 : Cond.methodLink R_law 34 yX12_element ∈ zT := zT_at 1214 (by decide +kernel) rfl
theorem kLaw_39 : Cond.methodLink R_law 39 yX12_show ∈ zT := zT_at 1218 (by decide +kernel) rfl
theorem kLaw_44 : Cond.methodLink R_law 44 yX12_holds ∈ zT := zT_at 1226 (by decide +kernel) rfl
theorem kLaw_48 : Cond.methodLink R_law 48 yX12_says ∈ zT := zT_at 1230 (by decide +kernel) rfl
theorem kLaw_52 : Cond.methodLink R_law 52 yX12_comer ∈ zT := zT_at 1258 (by decide +kernel) rfl
theorem kLaw_56 : Cond.methodLink R_law 56 yX12_asker ∈ zT := zT_at 1274 (by decide +kernel) rfl
theorem kLaw_60 : Cond.methodLink R_law 60 yX12_way ∈ zT := zT_at 1282 (by decide +kernel) rfl
theorem kLaw_64 : Cond.methodLink R_law 64 yX12_comerOf ∈ zT := zT_at 1290 (by decide +kernel) rfl
theorem kLaw_68 : Cond.methodLink R_law 68 yX12_askerOf ∈ zT := zT_at 1298 (by decide +kernel) rfl
theorem kLaw_72 : Cond.methodLink R_law 72 yX12_wayOf ∈ zT := zT_at 1310 (by decide +kernel) rfl
theorem kLaw_76 : Cond.methodLink R_law 76 yX12_change ∈ zT := zT_at 1314 (by decide +kernel) rfl
theorem kLaw_80 : Cond.methodLink R_law 80 yX12_drawn ∈ zT := zT_at 1318 (by decide +kernel) rfl
theorem kLaw_84 : Cond.methodLink R_law 84 yX12_chief ∈ zT := zT_at 1322 (by decide +kernel) rfl
theorem kLaw_88 : Cond.methodLink R_law 88 yX12_house ∈ zT := zT_at 1330 (by decide +kernel) rfl
theorem kLaw_93 : Cond.methodLink R_law 93 yX12_fault ∈ zT := zT_at 1374 (by decide +kernel) rfl
theorem kLaw_97 : Cond.methodLink R_law 97 yX12_shows ∈ zT := zT_at 1378 (by decide +kernel) rfl
theorem kLaw_102 : Cond.methodLink R_law 102 yX12_said ∈ zT := zT_at 1382 (by decide +kernel) rfl
theorem kLaw_107 : Cond.methodLink R_law 107 yX12_total ∈ zT := zT_at 1386 (by decide +kernel) rfl
theorem kLaw_112 : Cond.methodLink R_law 112 yX12_taken ∈ zT := zT_at 1390 (by decide +kernel) rfl
theorem kLaw_116 : Cond.methodLink R_law 116 yX12_best ∈ zT := zT_at 1398 (by decide +kernel) rfl
theorem kLaw_120 : Cond.methodLink R_law 120 yX12_tells ∈ zT := zT_at 1406 (by decide +kernel) rfl
theorem kLaw_124 : Cond.methodLink R_law 124 yX12_righted ∈ zT := zT_at 1422 (by decide +kernel) rfl
theorem kLaw_128 : Cond.methodLink R_law 128 yX12_head ∈ zT := zT_at 1426 (by decide +kernel) rfl
theorem kLaw_132 : Cond.methodLink R_law 132 yX12_joined ∈ zT := zT_at 1430 (by decide +kernel) rfl
theorem kLaw_136 : Cond.methodLink R_law 136 yX12_weights ∈ zT := zT_at 1438 (by decide +kernel) rfl
theorem kLaw_140 : Cond.methodLink R_law 140 yX12_heads ∈ zT := zT_at 1442 (by decide +kernel) rfl
theorem kLaw_144 : Cond.methodLink R_law 144 yX12_agree ∈ zT := zT_at 1446 (by decide +kernel) rfl
theorem kLaw_148 : Cond.methodLink R_law 148 yX12_wrong_ ∈ zT := zT_at 1450 (by decide +kernel) rfl
theorem kLaw_152 : Cond.methodLink R_law 152 yX12_lost ∈ zT := zT_at 1454 (by decide +kernel) rfl
theorem kLaw_156 : Cond.methodLink R_law 156 yX12_turned ∈ zT := zT_at 1458 (by decide +kernel) rfl
theorem kLaw_160 : Cond.methodLink R_law 160 yX12_piece ∈ zT := zT_at 1462 (by decide +kernel) rfl
theorem kLaw_164 : Cond.methodLink R_law 164 yX12_comes ∈ zT := zT_at 1466 (by decide +kernel) rfl
theorem kLaw_168 : Cond.methodLink R_law 168 yX12_lets ∈ zT := zT_at 1474 (by decide +kernel) rfl
theorem kLaw_172 : Cond.methodLink R_law 172 yX12_judge ∈ zT := zT_at 1478 (by decide +kernel) rfl
theorem kLaw_176 : Cond.methodLink R_law 176 yX12_told ∈ zT := zT_at 1486 (by decide +kernel) rfl
theorem kLaw_180 : Cond.methodLink R_law 180 yX12_come ∈ zT := zT_at 1490 (by decide +kernel) rfl
theorem kLaw_184 : Cond.methodLink R_law 184 yX12_clear ∈ zT := zT_at 1499 (by decide +kernel) rfl
theorem kLaw_188 : Cond.methodLink R_law 188 yX12_seed ∈ zT := zT_at 1503 (by decide +kernel) rfl
theorem kLaw_192 : Cond.methodLink R_law 192 yX12_act ∈ zT := zT_at 1507 (by decide +kernel) rfl
theorem kLaw_196 : Cond.methodLink R_law 196 yX12_trace ∈ zT := zT_at 1527 (by decide +kernel) rfl
theorem kLaw_200 : Cond.methodLink R_law 200 yX12_image ∈ zT := zT_at 1531 (by decide +kernel) rfl
theorem kLaw_204 : Cond.methodLink R_law 204 yX12_restore ∈ zT := zT_at 1535 (by decide +kernel) rfl
theorem kLaw_208 : Cond.methodLink R_law 208 yX12_status ∈ zT := zT_at 1539 (by decide +kernel) rfl
theorem kLawN7 : Cond.classLink R_law 7 RX11 ∈ zT := zT_at 82 (by decide +kernel) rfl
theorem kLawN10 : Cond.classLink R_law 10 RX12 ∈ zT := zT_at 1088 (by decide +kernel) rfl
theorem kLawC18 : Cond.constantLong R_law 18 4294967295 ∈ zT := zT_at 1543 (by decide +kernel) rfl
