/-! the four words: the JDK's own members on string constants -/
theorem zStr {E : zEnv} {A : Nat → Prop} {U : State} {H : Heap} (h : zSF E A U H) : ∃ adK adV : Nat → Nat, (∀ i, i < 4 → E.2.2 (3 + i) = .ref (adK i) ∧ E.2.2 (7 + i) = .ref (adV i)) ∧ vk_S 4 zWl zWb adK adV A U H ∧ vk_R "FourAskOne$HouseText" 113 "comer" (adK 0) U ∧ vk_R "FourAskOne$HouseText" 115 "asker" (adK 1) U ∧ vk_R "FourAskOne$HouseText" 117 "way" (adK 2) U ∧ vk_R "FourAskOne$HouseText" 119 "chief" (adK 3) U := h.2.2.2.2.1
section
variable {M M' : zM} {κ : zCtx} {u w : Nat} {σ τ : zSt} {pc k : Nat} {L : List (Nat × Value)} {st : List Value}
theorem Z.callVC (B : zB M κ) {as : List Value} {v : Value} {i idx n : Nat} {x : UInt32} {stk : List Value} (hx3 : x.toNat = 3 + i) (hi4 : i < 4) (hd : decode M.2.1 pc = .ok (.invokevirtual idx, 3)) (hm : zMw M' n) (hcls : M'.1.cls = "java/lang/String") (hi : Cond.instanceMethod M'.1 ∈ zT) (hs : Cond.selects M'.1.cls M'.1 M'.1 ∈ zT) (hlk : Cond.methodLink M.1.cls idx M'.1 ∈ zT)
    (hc : Dt M' (.float x :: as) σ (some v) τ) (hst : stk = as.reverse ++ .float x :: st) (hn : as.length = n) (hrm : zRm2 M M' = true) (hz : zcells M' = 0 ∧ zslots M' = 0) (hcat : (st.map fun v => v.category).sum ≤ 8) (hcl : u ≤ zcells M) (hsl : w ≤ zslots M)
    (kk : Z κ u w τ (pc + 3) L (v :: st)) : Z κ u w σ pc L stk := by
  obtain ⟨p, l, e, R, s, m, args, below, meth, c, E, A, ad0, n0, Q⟩ := κ
  have B' := B
  obtain ⟨hx, hb, hml, hown, hts, hrt, hlck, hnm, hR, hK, hF, hA⟩ := B
  intro ad H locs ls hw ha hS hl
  subst hst
  obtain ⟨adK, adV, h1, h2, -⟩ := zStr hF
  have he : ((Value.float x :: as).map (zc E ad)) = .ref (adK i) :: as.map (zc E ad) := by
    show E.2.2 x.toNat :: _ = _
    rw [hx3, (h1 i hi4).1]
  have hpre := z_pre B' hw hS (.float x :: as)
  have hM := hc l E ad H.size
  rw [he] at hpre hM
  refine z_after B' (a := (Value.ref (adK i) :: as.map (zc E ad)).toArray) (M' := M') (Or.inl hz.1) hw ha hS hl ?_ (Post := fun r' σ' => r' = some v ∧ σ' = τ) (by rintro r σ' ⟨rfl, rfl⟩; rw [hz.1, hz.2]; exact kk)
  have hrec := vk_recv h2 hi4 hS
  rw [← hcls] at hrec
  have hcw := cwV (R := R) (own := M.1.cls) (index := idx) (C := M'.1.cls) (y := M'.1) (bytes := M'.2.1) (maxL := M'.2.2.1) (ret := M'.2.2.2.1) (rm := zRm M') (mc := zcells M') (ms := zslots M') n hts (fun w hw2 => by
    unfold wsV at hw2
    rcases List.mem_append.mp hw2 with h | h
    · simp only [List.mem_cons, List.not_mem_nil, or_false] at h
      rcases h with rfl | rfl | rfl | rfl
      · exact zT_in hlk
      · exact zT_in hi
      · exact zT_in hs
      · exact zT_in hm.2.1
    · exact zG hm w h) rfl rfl rfl ⟨rfl, hm.2.2⟩ (by rw [hR]; exact zRm2_of hrm)
  exact va_runV (p := p) (l := l) (e := e) (below := below) (meth := meth) (H := H) (locs := locs) (cells := u) (slots := w) (g := F0 m pc ls (((as.reverse ++ .float x :: st)).map (zc E ad))) (As := as.map (zc E ad)) (b := adK i) ⟨hx, hb, hml, hown, hts⟩ hM hcw ⟨hpre.1, hrec, hpre.2⟩ rfl (by rw [List.length_map]; exact hn) (by have := hl.1; simpa [hml] using this) (by
    show (as.reverse ++ .float x :: st).map (zc E ad) = _
    rw [List.map_append, List.map_cons, List.map_reverse]
    show _ ++ E.2.2 x.toNat :: _ = _
    rw [hx3, (h1 i hi4).1]) (by
    show 2 * (F0 m pc ls _).monitorRoom + _ ≤ 8
    rw [zcats hF.1]
    simpa [F0, JFrame.monitorRoom] using hcat) hd (by rw [hR]; exact ⟨by show u + zcells M' ≤ zcells M; rw [hz.1]; exact hcl, by show w + zslots M' ≤ zslots M; rw [hz.2]; exact hsl⟩)

theorem Z.strV (B : zB M κ) {i idx : Nat} {x y : UInt32} (hx3 : x.toNat = 3 + i) (hy7 : y.toNat = 7 + i) (hi4 : i < 4) (hlk : Cond.fieldLink M.1.cls idx "java/lang/String" "value" "[B" ∈ zT) (hd : decode M.2.1 pc = .ok (.getfield idx, 3)) (kk : Z κ u w σ (pc + 3) L (.float y :: st)) : Z κ u w σ pc L (.float x :: st) := by
  obtain ⟨p, l, e, R, s, m, args, below, meth, c, E, A, ad0, n0, Q⟩ := κ
  obtain ⟨hx, hb, hml, hown, hts, hr, hlck, hnm, hR, hK, hF, hA⟩ := B
  intro ad H locs ls hw ha hS hl
  obtain ⟨adK, adV, h1, h2, r0, r1, r2, r3⟩ := zStr hF
  have k2 := kk ad H locs ls hw ha hS hl
  have e1 : (Value.float x :: st).map (zc E ad) = .ref (adK i) :: st.map (zc E ad) := by show E.2.2 x.toNat :: _ = _; rw [hx3, (h1 i hi4).1]
  have e2 : (Value.float y :: st).map (zc E ad) = .ref (adV i) :: st.map (zc E ad) := by show E.2.2 y.toNat :: _ = _; rw [hy7, (h1 i hi4).2]
  rw [e1]
  rw [e2] at k2
  exact vk_getf hx hb (h2.1 i hi4).2.2.1 hS hown (hts _ hlk) (fun _ h => h) hd k2
theorem Z.strC (B : zB M κ) {i idx : Nat} {x : UInt32} (hx3 : x.toNat = 3 + i) (hi4 : i < 4) (hlk : Cond.fieldLink M.1.cls idx "java/lang/String" "coder" "B" ∈ zT) (hd : decode M.2.1 pc = .ok (.getfield idx, 3)) (kk : Z κ u w σ (pc + 3) L (.int (nI 0) :: st)) : Z κ u w σ pc L (.float x :: st) := by
  obtain ⟨p, l, e, R, s, m, args, below, meth, c, E, A, ad0, n0, Q⟩ := κ
  obtain ⟨hx, hb, hml, hown, hts, hr, hlck, hnm, hR, hK, hF, hA⟩ := B
  intro ad H locs ls hw ha hS hl
  obtain ⟨adK, adV, h1, h2, r0, r1, r2, r3⟩ := zStr hF
  have k2 := kk ad H locs ls hw ha hS hl
  have e1 : (Value.float x :: st).map (zc E ad) = .ref (adK i) :: st.map (zc E ad) := by show E.2.2 x.toNat :: _ = _; rw [hx3, (h1 i hi4).1]
  rw [e1]
  exact vk_getf (v := .int 0) hx hb (h2.1 i hi4).2.1 hS hown (hts _ hlk) (fun _ h => h) hd k2
theorem Z.getsC (B : zB M κ) {idx : Nat} (hlk : Cond.fieldLink M.1.cls idx "java/lang/String" "COMPACT_STRINGS" "Z" ∈ zT) (hd : decode M.2.1 pc = .ok (.getstatic idx, 3)) (kk : Z κ u w σ (pc + 3) L (.int (nI 1) :: st)) : Z κ u w σ pc L st := by
  obtain ⟨p, l, e, R, s, m, args, below, meth, c, E, A, ad0, n0, Q⟩ := κ
  obtain ⟨hx, hb, hml, hown, hts, hr, hlck, hnm, hR, hK, hF, hA⟩ := B
  intro ad H locs ls hw ha hS hl
  obtain ⟨adK, adV, h1, h2, r0, r1, r2, r3⟩ := zStr hF
  exact va_gets (v := .int 1) hx hb hF.2.2.2.2.2.1 hS hown (hts _ hlk) (fun _ h => h) hd (kk ad H locs ls hw ha hS hl)
theorem zKon11 : zKon 11 "jdk/internal/util/Preconditions" "SIOOBE_FORMATTER" "Ljava/util/function/BiFunction;" := fun E A U H h => h.2.2.2.2.2.2.1
theorem Z.cbld (B : zB M κ) {i j : Nat} {y : UInt32} {v : Int32} (hy7 : y.toNat = 7 + i) (hi4 : i < 4) (hd : decode M.2.1 pc = .ok (.baload, 1)) (hlt : j < zWl.getD i 0) (h31 : zWl.getD i 0 < 2 ^ 31) (hv : (zWb.getD i []).getD j 0 = v) (kk : Z κ u w σ (pc + 1) L (.int v :: st)) : Z κ u w σ pc L (.int (nI j) :: .float y :: st) := by
  obtain ⟨p, l, e, R, s, m, args, below, meth, c, E, A, ad0, n0, Q⟩ := κ
  obtain ⟨hx, hb, hml, hown, hts, hr, hlck, hnm, hR, hK, hF, hA⟩ := B
  intro ad H locs ls hw ha hS hl
  obtain ⟨adK, adV, h1, h2, r0, r1, r2, r3⟩ := zStr hF
  have e1 : (Value.int (nI j) :: .float y :: st).map (zc E ad) = .int (nI j) :: .ref (adV i) :: st.map (zc E ad) := by show _ :: E.2.2 y.toNat :: _ = _; rw [hy7, (h1 i hi4).2]; rfl
  rw [e1]
  exact va_tb hx hb (h2.1 i hi4).2.2.2 hS (vp_in_nI hlt h31) (by rw [nI_clamp (by omega), hv]; rfl) hd (kk ad H locs ls hw ha hS hl)
theorem Z.cblen (B : zB M κ) {i : Nat} {y : UInt32} (hy7 : y.toNat = 7 + i) (hi4 : i < 4) (hd : decode M.2.1 pc = .ok (.arraylength, 1)) (kk : Z κ u w σ (pc + 1) L (.int (nI (zWl.getD i 0)) :: st)) : Z κ u w σ pc L (.float y :: st) := by
  obtain ⟨p, l, e, R, s, m, args, below, meth, c, E, A, ad0, n0, Q⟩ := κ
  obtain ⟨hx, hb, hml, hown, hts, hr, hlck, hnm, hR, hK, hF, hA⟩ := B
  intro ad H locs ls hw ha hS hl
  obtain ⟨adK, adV, h1, h2, r0, r1, r2, r3⟩ := zStr hF
  have e1 : (Value.float y :: st).map (zc E ad) = .ref (adV i) :: st.map (zc E ad) := by show E.2.2 y.toNat :: _ = _; rw [hy7, (h1 i hi4).2]
  rw [e1]
  exact va_tlen hx hb (h2.1 i hi4).2.2.2 hS rfl hd (kk ad H locs ls hw ha hS hl)
theorem Z.ldcS0 (B : zB M κ) (hM : M.1.cls = "FourAskOne$HouseText") (hd : decode M.2.1 pc = .ok (.ldc 113, 2)) (kk : Z κ u w σ (pc + 2) L (.float 3 :: st)) : Z κ u w σ pc L st := by
  obtain ⟨p, l, e, R, s, m, args, below, meth, c, E, A, ad0, n0, Q⟩ := κ
  obtain ⟨hx, hb, hml, hown, hts, hr, hlck, hnm, hR, hK, hF, hA⟩ := B
  intro ad H locs ls hw ha hS hl
  obtain ⟨adK, adV, h1, h2, r0, r1, r2, r3⟩ := zStr hF
  have k2 := kk ad H locs ls hw ha hS hl
  have e1 : (Value.float 3 :: st).map (zc E ad) = .ref (adK 0) :: st.map (zc E ad) := by show E.2.2 (3 + 0) :: _ = _; rw [(h1 0 (by decide)).1]
  rw [e1] at k2
  exact va_ldcS hx hb (by rw [← hM]; exact hown) r0 hd k2
theorem Z.ldcS1 (B : zB M κ) (hM : M.1.cls = "FourAskOne$HouseText") (hd : decode M.2.1 pc = .ok (.ldc 115, 2)) (kk : Z κ u w σ (pc + 2) L (.float 4 :: st)) : Z κ u w σ pc L st := by
  obtain ⟨p, l, e, R, s, m, args, below, meth, c, E, A, ad0, n0, Q⟩ := κ
  obtain ⟨hx, hb, hml, hown, hts, hr, hlck, hnm, hR, hK, hF, hA⟩ := B
  intro ad H locs ls hw ha hS hl
  obtain ⟨adK, adV, h1, h2, r0, r1, r2, r3⟩ := zStr hF
  have k2 := kk ad H locs ls hw ha hS hl
  have e1 : (Value.float 4 :: st).map (zc E ad) = .ref (adK 1) :: st.map (zc E ad) := by show E.2.2 (3 + 1) :: _ = _; rw [(h1 1 (by decide)).1]
  rw [e1] at k2
  exact va_ldcS hx hb (by rw [← hM]; exact hown) r1 hd k2
theorem Z.ldcS2 (B : zB M κ) (hM : M.1.cls = "FourAskOne$HouseText") (hd : decode M.2.1 pc = .ok (.ldc 117, 2)) (kk : Z κ u w σ (pc + 2) L (.float 5 :: st)) : Z κ u w σ pc L st := by
  obtain ⟨p, l, e, R, s, m, args, below, meth, c, E, A, ad0, n0, Q⟩ := κ
  obtain ⟨hx, hb, hml, hown, hts, hr, hlck, hnm, hR, hK, hF, hA⟩ := B
  intro ad H locs ls hw ha hS hl
  obtain ⟨adK, adV, h1, h2, r0, r1, r2, r3⟩ := zStr hF
  have k2 := kk ad H locs ls hw ha hS hl
  have e1 : (Value.float 5 :: st).map (zc E ad) = .ref (adK 2) :: st.map (zc E ad) := by show E.2.2 (3 + 2) :: _ = _; rw [(h1 2 (by decide)).1]
  rw [e1] at k2
  exact va_ldcS hx hb (by rw [← hM]; exact hown) r2 hd k2
theorem Z.ldcS3 (B : zB M κ) (hM : M.1.cls = "FourAskOne$HouseText") (hd : decode M.2.1 pc = .ok (.ldc 119, 2)) (kk : Z κ u w σ (pc + 2) L (.float 6 :: st)) : Z κ u w σ pc L st := by
  obtain ⟨p, l, e, R, s, m, args, below, meth, c, E, A, ad0, n0, Q⟩ := κ
  obtain ⟨hx, hb, hml, hown, hts, hr, hlck, hnm, hR, hK, hF, hA⟩ := B
  intro ad H locs ls hw ha hS hl
  obtain ⟨adK, adV, h1, h2, r0, r1, r2, r3⟩ := zStr hF
  have k2 := kk ad H locs ls hw ha hS hl
  have e1 : (Value.float 6 :: st).map (zc E ad) = .ref (adK 3) :: st.map (zc E ad) := by show E.2.2 (3 + 3) :: _ = _; rw [(h1 3 (by decide)).1]
  rw [e1] at k2
  exact va_ldcS hx hb (by rw [← hM]; exact hown) r3 hd k2
end
theorem t_coder_0 {σ : zSt}  : Dt mJ0_coder_7d493 [.float 3] σ (some (.int (nI 0))) σ := by
  refine Dt.of (by decide) (Nat.le_of_ble_eq_true rfl) fun κ B Rt => ?_
  show Z κ 0 0 σ 0 [(0, .float 3)] []
  refine Z.getsC B (zT_at 678 (by decide +kernel) rfl) dJ0_coder_7d493_0 ?_
  refine Z.if_eqN B dJ0_coder_7d493_3 (tgt := 13) rfl (by omega) (fun h3 => by exfalso; first | omega | contradiction | simp_all) (fun h3 => ?_)
  refine Z.aload_n B dJ0_coder_7d493_6 (v := .float 3) rfl rfl ?_
  refine Z.strC B (i := 0) rfl (by decide) (zT_at 1563 (by decide +kernel) rfl) dJ0_coder_7d493_7 ?_
  refine Z.goto B dJ0_coder_7d493_10 (tgt := 14) rfl ?_
  refine Z.iret B Rt dJ0_coder_7d493_14 (ty := .byte) rfl rfl (by decide) (by decide) ?_
  exact ⟨rfl, rfl⟩

theorem t_latin_0 {σ : zSt}  : Dt mJ0_isLatin1_aae02 [.float 3] σ (some (.int (nI 1))) σ := by
  refine Dt.of (by decide) (Nat.le_of_ble_eq_true rfl) fun κ B Rt => ?_
  show Z κ 0 0 σ 0 [(0, .float 3)] []
  refine Z.getsC B (zT_at 678 (by decide +kernel) rfl) dJ0_isLatin1_aae02_0 ?_
  refine Z.if_eqN B dJ0_isLatin1_aae02_3 (tgt := 17) rfl (by omega) (fun h3 => by exfalso; first | omega | contradiction | simp_all) (fun h3 => ?_)
  refine Z.aload_n B dJ0_isLatin1_aae02_6 (v := .float 3) rfl rfl ?_
  refine Z.strC B (i := 0) rfl (by decide) (zT_at 1563 (by decide +kernel) rfl) dJ0_isLatin1_aae02_7 ?_
  refine Z.if_neN B dJ0_isLatin1_aae02_10 (tgt := 17) rfl (by omega) (fun h10 => by exfalso; first | omega | contradiction | simp_all) (fun h10 => ?_)
  refine Z.iconst B dJ0_isLatin1_aae02_13 (v := nI 1) rfl ?_
  refine Z.goto B dJ0_isLatin1_aae02_14 (tgt := 18) rfl ?_
  refine Z.iret B Rt dJ0_isLatin1_aae02_18 (ty := .boolean) rfl rfl (by decide) (by decide) ?_
  exact ⟨rfl, rfl⟩

theorem t_slen_0 {σ : zSt}  : Dt mJ0_length_8abf5 [.float 3] σ (some (.int (nI 5))) σ := by
  refine Dt.of (by decide) (Nat.le_of_ble_eq_true rfl) fun κ B Rt => ?_
  show Z κ 0 0 σ 0 [(0, .float 3)] []
  refine Z.aload_n B dJ0_length_8abf5_0 (v := .float 3) rfl rfl ?_
  refine Z.strV B (i := 0) (y := 7) rfl rfl (by decide) (zT_at 1562 (by decide +kernel) rfl) dJ0_length_8abf5_1 ?_
  refine Z.cblen B (i := 0) rfl (by decide) dJ0_length_8abf5_4 ?_
  show Z κ 0 0 σ 5 [(0, .float 3)] [.int (nI 5)]
  refine Z.aload_n B dJ0_length_8abf5_5 (v := .float 3) rfl rfl ?_
  refine Z.callVC (σ := σ) B (M' := mJ0_coder_7d493) (as := []) (st := [.int (nI 5)]) (v := .int (nI 0)) (i := 0) rfl (by decide) dJ0_length_8abf5_6 wJ0_coder_7d493 rfl iJ0_coder_7d493 sJ0_coder_7d493 kJ0_335 t_coder_0 rfl rfl (by decide) (by decide) (Nat.le_of_ble_eq_true rfl) (by decide) (by decide) ?_
  refine Z.ishr B dJ0_length_8abf5_9 ?_
  refine Z.eqS (st' := [.int (nI 5)]) (by rw [show (nI 5 >>> (nI 0 &&& 31)) = nI 5 from by decide]) ?_
  refine Z.iret B Rt dJ0_length_8abf5_10 (ty := .int) rfl rfl (by decide) (by decide) ?_
  exact ⟨rfl, rfl⟩

theorem t_coder_1 {σ : zSt}  : Dt mJ0_coder_7d493 [.float 4] σ (some (.int (nI 0))) σ := by
  refine Dt.of (by decide) (Nat.le_of_ble_eq_true rfl) fun κ B Rt => ?_
  show Z κ 0 0 σ 0 [(0, .float 4)] []
  refine Z.getsC B (zT_at 678 (by decide +kernel) rfl) dJ0_coder_7d493_0 ?_
  refine Z.if_eqN B dJ0_coder_7d493_3 (tgt := 13) rfl (by omega) (fun h3 => by exfalso; first | omega | contradiction | simp_all) (fun h3 => ?_)
  refine Z.aload_n B dJ0_coder_7d493_6 (v := .float 4) rfl rfl ?_
  refine Z.strC B (i := 1) rfl (by decide) (zT_at 1563 (by decide +kernel) rfl) dJ0_coder_7d493_7 ?_
  refine Z.goto B dJ0_coder_7d493_10 (tgt := 14) rfl ?_
  refine Z.iret B Rt dJ0_coder_7d493_14 (ty := .byte) rfl rfl (by decide) (by decide) ?_
  exact ⟨rfl, rfl⟩

theorem t_latin_1 {σ : zSt}  : Dt mJ0_isLatin1_aae02 [.float 4] σ (some (.int (nI 1))) σ := by
  refine Dt.of (by decide) (Nat.le_of_ble_eq_true rfl) fun κ B Rt => ?_
  show Z κ 0 0 σ 0 [(0, .float 4)] []
  refine Z.getsC B (zT_at 678 (by decide +kernel) rfl) dJ0_isLatin1_aae02_0 ?_
  refine Z.if_eqN B dJ0_isLatin1_aae02_3 (tgt := 17) rfl (by omega) (fun h3 => by exfalso; first | omega | contradiction | simp_all) (fun h3 => ?_)
  refine Z.aload_n B dJ0_isLatin1_aae02_6 (v := .float 4) rfl rfl ?_
  refine Z.strC B (i := 1) rfl (by decide) (zT_at 1563 (by decide +kernel) rfl) dJ0_isLatin1_aae02_7 ?_
  refine Z.if_neN B dJ0_isLatin1_aae02_10 (tgt := 17) rfl (by omega) (fun h10 => by exfalso; first | omega | contradiction | simp_all) (fun h10 => ?_)
  refine Z.iconst B dJ0_isLatin1_aae02_13 (v := nI 1) rfl ?_
  refine Z.goto B dJ0_isLatin1_aae02_14 (tgt := 18) rfl ?_
  refine Z.iret B Rt dJ0_isLatin1_aae02_18 (ty := .boolean) rfl rfl (by decide) (by decide) ?_
  exact ⟨rfl, rfl⟩

theorem t_slen_1 {σ : zSt}  : Dt mJ0_length_8abf5 [.float 4] σ (some (.int (nI 5))) σ := by
  refine Dt.of (by decide) (Nat.le_of_ble_eq_true rfl) fun κ B Rt => ?_
  show Z κ 0 0 σ 0 [(0, .float 4)] []
  refine Z.aload_n B dJ0_length_8abf5_0 (v := .float 4) rfl rfl ?_
  refine Z.strV B (i := 1) (y := 8) rfl rfl (by decide) (zT_at 1562 (by decide +kernel) rfl) dJ0_length_8abf5_1 ?_
  refine Z.cblen B (i := 1) rfl (by decide) dJ0_length_8abf5_4 ?_
  show Z κ 0 0 σ 5 [(0, .float 4)] [.int (nI 5)]
  refine Z.aload_n B dJ0_length_8abf5_5 (v := .float 4) rfl rfl ?_
  refine Z.callVC (σ := σ) B (M' := mJ0_coder_7d493) (as := []) (st := [.int (nI 5)]) (v := .int (nI 0)) (i := 1) rfl (by decide) dJ0_length_8abf5_6 wJ0_coder_7d493 rfl iJ0_coder_7d493 sJ0_coder_7d493 kJ0_335 t_coder_1 rfl rfl (by decide) (by decide) (Nat.le_of_ble_eq_true rfl) (by decide) (by decide) ?_
  refine Z.ishr B dJ0_length_8abf5_9 ?_
  refine Z.eqS (st' := [.int (nI 5)]) (by rw [show (nI 5 >>> (nI 0 &&& 31)) = nI 5 from by decide]) ?_
  refine Z.iret B Rt dJ0_length_8abf5_10 (ty := .int) rfl rfl (by decide) (by decide) ?_
  exact ⟨rfl, rfl⟩

theorem t_coder_2 {σ : zSt}  : Dt mJ0_coder_7d493 [.float 5] σ (some (.int (nI 0))) σ := by
  refine Dt.of (by decide) (Nat.le_of_ble_eq_true rfl) fun κ B Rt => ?_
  show Z κ 0 0 σ 0 [(0, .float 5)] []
  refine Z.getsC B (zT_at 678 (by decide +kernel) rfl) dJ0_coder_7d493_0 ?_
  refine Z.if_eqN B dJ0_coder_7d493_3 (tgt := 13) rfl (by omega) (fun h3 => by exfalso; first | omega | contradiction | simp_all) (fun h3 => ?_)
  refine Z.aload_n B dJ0_coder_7d493_6 (v := .float 5) rfl rfl ?_
  refine Z.strC B (i := 2) rfl (by decide) (zT_at 1563 (by decide +kernel) rfl) dJ0_coder_7d493_7 ?_
  refine Z.goto B dJ0_coder_7d493_10 (tgt := 14) rfl ?_
  refine Z.iret B Rt dJ0_coder_7d493_14 (ty := .byte) rfl rfl (by decide) (by decide) ?_
  exact ⟨rfl, rfl⟩

theorem t_latin_2 {σ : zSt}  : Dt mJ0_isLatin1_aae02 [.float 5] σ (some (.int (nI 1))) σ := by
  refine Dt.of (by decide) (Nat.le_of_ble_eq_true rfl) fun κ B Rt => ?_
  show Z κ 0 0 σ 0 [(0, .float 5)] []
  refine Z.getsC B (zT_at 678 (by decide +kernel) rfl) dJ0_isLatin1_aae02_0 ?_
  refine Z.if_eqN B dJ0_isLatin1_aae02_3 (tgt := 17) rfl (by omega) (fun h3 => by exfalso; first | omega | contradiction | simp_all) (fun h3 => ?_)
  refine Z.aload_n B dJ0_isLatin1_aae02_6 (v := .float 5) rfl rfl ?_
  refine Z.strC B (i := 2) rfl (by decide) (zT_at 1563 (by decide +kernel) rfl) dJ0_isLatin1_aae02_7 ?_
  refine Z.if_neN B dJ0_isLatin1_aae02_10 (tgt := 17) rfl (by omega) (fun h10 => by exfalso; first | omega | contradiction | simp_all) (fun h10 => ?_)
  refine Z.iconst B dJ0_isLatin1_aae02_13 (v := nI 1) rfl ?_
  refine Z.goto B dJ0_isLatin1_aae02_14 (tgt := 18) rfl ?_
  refine Z.iret B Rt dJ0_isLatin1_aae02_18 (ty := .boolean) rfl rfl (by decide) (by decide) ?_
  exact ⟨rfl, rfl⟩

theorem t_slen_2 {σ : zSt}  : Dt mJ0_length_8abf5 [.float 5] σ (some (.int (nI 3))) σ := by
  refine Dt.of (by decide) (Nat.le_of_ble_eq_true rfl) fun κ B Rt => ?_
  show Z κ 0 0 σ 0 [(0, .float 5)] []
  refine Z.aload_n B dJ0_length_8abf5_0 (v := .float 5) rfl rfl ?_
  refine Z.strV B (i := 2) (y := 9) rfl rfl (by decide) (zT_at 1562 (by decide +kernel) rfl) dJ0_length_8abf5_1 ?_
  refine Z.cblen B (i := 2) rfl (by decide) dJ0_length_8abf5_4 ?_
  show Z κ 0 0 σ 5 [(0, .float 5)] [.int (nI 3)]
  refine Z.aload_n B dJ0_length_8abf5_5 (v := .float 5) rfl rfl ?_
  refine Z.callVC (σ := σ) B (M' := mJ0_coder_7d493) (as := []) (st := [.int (nI 3)]) (v := .int (nI 0)) (i := 2) rfl (by decide) dJ0_length_8abf5_6 wJ0_coder_7d493 rfl iJ0_coder_7d493 sJ0_coder_7d493 kJ0_335 t_coder_2 rfl rfl (by decide) (by decide) (Nat.le_of_ble_eq_true rfl) (by decide) (by decide) ?_
  refine Z.ishr B dJ0_length_8abf5_9 ?_
  refine Z.eqS (st' := [.int (nI 3)]) (by rw [show (nI 3 >>> (nI 0 &&& 31)) = nI 3 from by decide]) ?_
  refine Z.iret B Rt dJ0_length_8abf5_10 (ty := .int) rfl rfl (by decide) (by decide) ?_
  exact ⟨rfl, rfl⟩

theorem t_coder_3 {σ : zSt}  : Dt mJ0_coder_7d493 [.float 6] σ (some (.int (nI 0))) σ := by
  refine Dt.of (by decide) (Nat.le_of_ble_eq_true rfl) fun κ B Rt => ?_
  show Z κ 0 0 σ 0 [(0, .float 6)] []
  refine Z.getsC B (zT_at 678 (by decide +kernel) rfl) dJ0_coder_7d493_0 ?_
  refine Z.if_eqN B dJ0_coder_7d493_3 (tgt := 13) rfl (by omega) (fun h3 => by exfalso; first | omega | contradiction | simp_all) (fun h3 => ?_)
  refine Z.aload_n B dJ0_coder_7d493_6 (v := .float 6) rfl rfl ?_
  refine Z.strC B (i := 3) rfl (by decide) (zT_at 1563 (by decide +kernel) rfl) dJ0_coder_7d493_7 ?_
  refine Z.goto B dJ0_coder_7d493_10 (tgt := 14) rfl ?_
  refine Z.iret B Rt dJ0_coder_7d493_14 (ty := .byte) rfl rfl (by decide) (by decide) ?_
  exact ⟨rfl, rfl⟩

theorem t_latin_3 {σ : zSt}  : Dt mJ0_isLatin1_aae02 [.float 6] σ (some (.int (nI 1))) σ := by
  refine Dt.of (by decide) (Nat.le_of_ble_eq_true rfl) fun κ B Rt => ?_
  show Z κ 0 0 σ 0 [(0, .float 6)] []
  refine Z.getsC B (zT_at 678 (by decide +kernel) rfl) dJ0_isLatin1_aae02_0 ?_
  refine Z.if_eqN B dJ0_isLatin1_aae02_3 (tgt := 17) rfl (by omega) (fun h3 => by exfalso; first | omega | contradiction | simp_all) (fun h3 => ?_)
  refine Z.aload_n B dJ0_isLatin1_aae02_6 (v := .float 6) rfl rfl ?_
  refine Z.strC B (i := 3) rfl (by decide) (zT_at 1563 (by decide +kernel) rfl) dJ0_isLatin1_aae02_7 ?_
  refine Z.if_neN B dJ0_isLatin1_aae02_10 (tgt := 17) rfl (by omega) (fun h10 => by exfalso; first | omega | contradiction | simp_all) (fun h10 => ?_)
  refine Z.iconst B dJ0_isLatin1_aae02_13 (v := nI 1) rfl ?_
  refine Z.goto B dJ0_isLatin1_aae02_14 (tgt := 18) rfl ?_
  refine Z.iret B Rt dJ0_isLatin1_aae02_18 (ty := .boolean) rfl rfl (by decide) (by decide) ?_
  exact ⟨rfl, rfl⟩

theorem t_slen_3 {σ : zSt}  : Dt mJ0_length_8abf5 [.float 6] σ (some (.int (nI 5))) σ := by
  refine Dt.of (by decide) (Nat.le_of_ble_eq_true rfl) fun κ B Rt => ?_
  show Z κ 0 0 σ 0 [(0, .float 6)] []
  refine Z.aload_n B dJ0_length_8abf5_0 (v := .float 6) rfl rfl ?_
  refine Z.strV B (i := 3) (y := 10) rfl rfl (by decide) (zT_at 1562 (by decide +kernel) rfl) dJ0_length_8abf5_1 ?_
  refine Z.cblen B (i := 3) rfl (by decide) dJ0_length_8abf5_4 ?_
  show Z κ 0 0 σ 5 [(0, .float 6)] [.int (nI 5)]
  refine Z.aload_n B dJ0_length_8abf5_5 (v := .float 6) rfl rfl ?_
  refine Z.callVC (σ := σ) B (M' := mJ0_coder_7d493) (as := []) (st := [.int (nI 5)]) (v := .int (nI 0)) (i := 3) rfl (by decide) dJ0_length_8abf5_6 wJ0_coder_7d493 rfl iJ0_coder_7d493 sJ0_coder_7d493 kJ0_335 t_coder_3 rfl rfl (by decide) (by decide) (Nat.le_of_ble_eq_true rfl) (by decide) (by decide) ?_
  refine Z.ishr B dJ0_length_8abf5_9 ?_
  refine Z.eqS (st' := [.int (nI 5)]) (by rw [show (nI 5 >>> (nI 0 &&& 31)) = nI 5 from by decide]) ?_
  refine Z.iret B Rt dJ0_length_8abf5_10 (ty := .int) rfl rfl (by decide) (by decide) ?_
  exact ⟨rfl, rfl⟩

theorem t_jcheck {σ : zSt} {k n : Nat} (hk : k < n) (hn : n < 2 ^ 31) : Dt mJ3_checkIndex_8e157 [.int (nI k), .int (nI n), .float 11] σ (some (.int (nI k))) σ := by
  refine Dt.of (by decide) (Nat.le_of_ble_eq_true rfl) fun κ B Rt => ?_
  show Z κ 0 0 σ 0 [(0, .int (nI k)), (1, .int (nI n)), (2, .float 11)] []
  refine Z.iload_n B dJ3_checkIndex_8e157_0 (x := nI k) rfl ?_
  refine Z.if_ltN B dJ3_checkIndex_8e157_1 (tgt := 9) rfl (by omega) ?_
  refine Z.iload_n B dJ3_checkIndex_8e157_4 (x := nI k) rfl ?_
  refine Z.iload_n B dJ3_checkIndex_8e157_5 (x := nI n) rfl ?_
  refine Z.icmp_ltN B dJ3_checkIndex_8e157_6 (tgt := 16) rfl (by omega) (by omega) (fun h6 => ?_) (fun h6 => by exfalso; first | omega | contradiction | simp_all)
  refine Z.iload_n B dJ3_checkIndex_8e157_16 (x := nI k) rfl ?_
  refine Z.iret B Rt dJ3_checkIndex_8e157_17 (ty := .int) rfl rfl (by decide) (by decide) ?_
  exact ⟨rfl, rfl⟩

theorem t_scheck {σ : zSt} {k n : Nat} (hk : k < n) (hn : n < 2 ^ 31) : Dt mJ0_checkIndex_df160 [.int (nI k), .int (nI n)] σ (none) σ := by
  refine Dt.of (by decide) (Nat.le_of_ble_eq_true rfl) fun κ B Rt => ?_
  show Z κ 0 0 σ 0 [(0, .int (nI k)), (1, .int (nI n))] []
  refine Z.iload_n B dJ0_checkIndex_df160_0 (x := nI k) rfl ?_
  refine Z.iload_n B dJ0_checkIndex_df160_1 (x := nI n) rfl ?_
  refine Z.gets B (x := 11) zKon11 (zT_at 695 (by decide +kernel) rfl) dJ0_checkIndex_df160_2 ?_
  refine Z.callSI (σ := σ) B (M' := mJ3_checkIndex_8e157) (as := [.int (nI k), .int (nI n), .float 11]) (st := []) (v := .int (nI k)) dJ0_checkIndex_df160_5 wJ3_checkIndex_8e157 iJ3_checkIndex_8e157 kJ0_1059 (t_jcheck (σ := σ) hk hn) rfl rfl (by decide) (by decide) (Nat.le_of_ble_eq_true rfl) (by decide) (by decide) ?_
  refine Z.pop B dJ0_checkIndex_df160_8 rfl ?_
  refine Z.vret B Rt dJ0_checkIndex_df160_9 rfl (by decide) (by decide) ?_
  exact ⟨rfl, rfl⟩

theorem t_lchar_0_0 {σ : zSt}  : Dt mJ1_charAt_3b067 [.float 7, .int (nI 0)] σ (some (.int (nI 99))) σ := by
  refine Dt.of (by decide) (Nat.le_of_ble_eq_true rfl) fun κ B Rt => ?_
  show Z κ 0 0 σ 0 [(0, .float 7), (1, .int (nI 0))] []
  refine Z.iload_n B dJ1_charAt_3b067_0 (x := nI 0) rfl ?_
  refine Z.aload_n B dJ1_charAt_3b067_1 (v := .float 7) rfl rfl ?_
  refine Z.cblen B (i := 0) rfl (by decide) dJ1_charAt_3b067_2 ?_
  show Z κ 0 0 σ 3 [(0, .float 7), (1, .int (nI 0))] [.int (nI 5), .int (nI 0)]
  refine Z.callSN (σ := σ) B (M' := mJ0_checkIndex_df160) (as := [.int (nI 0), .int (nI 5)]) (st := []) dJ1_charAt_3b067_3 wJ0_checkIndex_df160 iJ0_checkIndex_df160 kJ1_9 (t_scheck (σ := σ) (k := 0) (n := 5) (by decide) (by decide)) rfl rfl (by decide) (by decide) (Nat.le_of_ble_eq_true rfl) (by decide) (by decide) ?_
  refine Z.aload_n B dJ1_charAt_3b067_6 (v := .float 7) rfl rfl ?_
  refine Z.iload_n B dJ1_charAt_3b067_7 (x := nI 0) rfl ?_
  refine Z.cbld B (i := 0) (j := 0) (v := nI 99) rfl (by decide) dJ1_charAt_3b067_8 (by decide) (by decide) (by decide) ?_
  refine Z.sipush B dJ1_charAt_3b067_9 (v := nI 255) rfl ?_
  refine Z.iandv B dJ1_charAt_3b067_12 (v := nI 99) (by decide) ?_
  refine Z.i2c B dJ1_charAt_3b067_13 ?_
  refine Z.eqS (st' := [.int (nI 99)]) (by rw [show ((nI 99).toUInt32 % 65536).toInt32 = nI 99 from by decide]) ?_
  refine Z.iret B Rt dJ1_charAt_3b067_14 (ty := .char) rfl rfl (by decide) (by decide) ?_
  exact ⟨rfl, rfl⟩

theorem t_schar_0_0 {σ : zSt}  : Dt mJ0_charAt_5068e [.float 3, .int (nI 0)] σ (some (.int (nI 99))) σ := by
  refine Dt.of (by decide) (Nat.le_of_ble_eq_true rfl) fun κ B Rt => ?_
  show Z κ 0 0 σ 0 [(0, .float 3), (1, .int (nI 0))] []
  refine Z.aload_n B dJ0_charAt_5068e_0 (v := .float 3) rfl rfl ?_
  refine Z.callVC (σ := σ) B (M' := mJ0_isLatin1_aae02) (as := []) (st := []) (v := .int (nI 1)) (i := 0) rfl (by decide) dJ0_charAt_5068e_1 wJ0_isLatin1_aae02 rfl iJ0_isLatin1_aae02 sJ0_isLatin1_aae02 kJ0_492 t_latin_0 rfl rfl (by decide) (by decide) (Nat.le_of_ble_eq_true rfl) (by decide) (by decide) ?_
  refine Z.if_eqN B dJ0_charAt_5068e_4 (tgt := 16) rfl (by omega) (fun h4 => by exfalso; first | omega | contradiction | simp_all) (fun h4 => ?_)
  refine Z.aload_n B dJ0_charAt_5068e_7 (v := .float 3) rfl rfl ?_
  refine Z.strV B (i := 0) (y := 7) rfl rfl (by decide) (zT_at 1562 (by decide +kernel) rfl) dJ0_charAt_5068e_8 ?_
  refine Z.iload_n B dJ0_charAt_5068e_11 (x := nI 0) rfl ?_
  refine Z.callSI (σ := σ) B (M' := mJ1_charAt_3b067) (as := [.float 7, .int (nI 0)]) (st := []) (v := .int (nI 99)) dJ0_charAt_5068e_12 wJ1_charAt_3b067 iJ1_charAt_3b067 kJ0_495 (t_lchar_0_0 (σ := σ)) rfl rfl (by decide) (by decide) (Nat.le_of_ble_eq_true rfl) (by decide) (by decide) ?_
  refine Z.iret B Rt dJ0_charAt_5068e_15 (ty := .char) rfl rfl (by decide) (by decide) ?_
  exact ⟨rfl, rfl⟩

theorem t_lchar_0_1 {σ : zSt}  : Dt mJ1_charAt_3b067 [.float 7, .int (nI 1)] σ (some (.int (nI 111))) σ := by
  refine Dt.of (by decide) (Nat.le_of_ble_eq_true rfl) fun κ B Rt => ?_
  show Z κ 0 0 σ 0 [(0, .float 7), (1, .int (nI 1))] []
  refine Z.iload_n B dJ1_charAt_3b067_0 (x := nI 1) rfl ?_
  refine Z.aload_n B dJ1_charAt_3b067_1 (v := .float 7) rfl rfl ?_
  refine Z.cblen B (i := 0) rfl (by decide) dJ1_charAt_3b067_2 ?_
  show Z κ 0 0 σ 3 [(0, .float 7), (1, .int (nI 1))] [.int (nI 5), .int (nI 1)]
  refine Z.callSN (σ := σ) B (M' := mJ0_checkIndex_df160) (as := [.int (nI 1), .int (nI 5)]) (st := []) dJ1_charAt_3b067_3 wJ0_checkIndex_df160 iJ0_checkIndex_df160 kJ1_9 (t_scheck (σ := σ) (k := 1) (n := 5) (by decide) (by decide)) rfl rfl (by decide) (by decide) (Nat.le_of_ble_eq_true rfl) (by decide) (by decide) ?_
  refine Z.aload_n B dJ1_charAt_3b067_6 (v := .float 7) rfl rfl ?_
  refine Z.iload_n B dJ1_charAt_3b067_7 (x := nI 1) rfl ?_
  refine Z.cbld B (i := 0) (j := 1) (v := nI 111) rfl (by decide) dJ1_charAt_3b067_8 (by decide) (by decide) (by decide) ?_
  refine Z.sipush B dJ1_charAt_3b067_9 (v := nI 255) rfl ?_
  refine Z.iandv B dJ1_charAt_3b067_12 (v := nI 111) (by decide) ?_
  refine Z.i2c B dJ1_charAt_3b067_13 ?_
  refine Z.eqS (st' := [.int (nI 111)]) (by rw [show ((nI 111).toUInt32 % 65536).toInt32 = nI 111 from by decide]) ?_
  refine Z.iret B Rt dJ1_charAt_3b067_14 (ty := .char) rfl rfl (by decide) (by decide) ?_
  exact ⟨rfl, rfl⟩

theorem t_schar_0_1 {σ : zSt}  : Dt mJ0_charAt_5068e [.float 3, .int (nI 1)] σ (some (.int (nI 111))) σ := by
  refine Dt.of (by decide) (Nat.le_of_ble_eq_true rfl) fun κ B Rt => ?_
  show Z κ 0 0 σ 0 [(0, .float 3), (1, .int (nI 1))] []
  refine Z.aload_n B dJ0_charAt_5068e_0 (v := .float 3) rfl rfl ?_
  refine Z.callVC (σ := σ) B (M' := mJ0_isLatin1_aae02) (as := []) (st := []) (v := .int (nI 1)) (i := 0) rfl (by decide) dJ0_charAt_5068e_1 wJ0_isLatin1_aae02 rfl iJ0_isLatin1_aae02 sJ0_isLatin1_aae02 kJ0_492 t_latin_0 rfl rfl (by decide) (by decide) (Nat.le_of_ble_eq_true rfl) (by decide) (by decide) ?_
  refine Z.if_eqN B dJ0_charAt_5068e_4 (tgt := 16) rfl (by omega) (fun h4 => by exfalso; first | omega | contradiction | simp_all) (fun h4 => ?_)
  refine Z.aload_n B dJ0_charAt_5068e_7 (v := .float 3) rfl rfl ?_
  refine Z.strV B (i := 0) (y := 7) rfl rfl (by decide) (zT_at 1562 (by decide +kernel) rfl) dJ0_charAt_5068e_8 ?_
  refine Z.iload_n B dJ0_charAt_5068e_11 (x := nI 1) rfl ?_
  refine Z.callSI (σ := σ) B (M' := mJ1_charAt_3b067) (as := [.float 7, .int (nI 1)]) (st := []) (v := .int (nI 111)) dJ0_charAt_5068e_12 wJ1_charAt_3b067 iJ1_charAt_3b067 kJ0_495 (t_lchar_0_1 (σ := σ)) rfl rfl (by decide) (by decide) (Nat.le_of_ble_eq_true rfl) (by decide) (by decide) ?_
  refine Z.iret B Rt dJ0_charAt_5068e_15 (ty := .char) rfl rfl (by decide) (by decide) ?_
  exact ⟨rfl, rfl⟩

theorem t_lchar_0_2 {σ : zSt}  : Dt mJ1_charAt_3b067 [.float 7, .int (nI 2)] σ (some (.int (nI 109))) σ := by
  refine Dt.of (by decide) (Nat.le_of_ble_eq_true rfl) fun κ B Rt => ?_
  show Z κ 0 0 σ 0 [(0, .float 7), (1, .int (nI 2))] []
  refine Z.iload_n B dJ1_charAt_3b067_0 (x := nI 2) rfl ?_
  refine Z.aload_n B dJ1_charAt_3b067_1 (v := .float 7) rfl rfl ?_
  refine Z.cblen B (i := 0) rfl (by decide) dJ1_charAt_3b067_2 ?_
  show Z κ 0 0 σ 3 [(0, .float 7), (1, .int (nI 2))] [.int (nI 5), .int (nI 2)]
  refine Z.callSN (σ := σ) B (M' := mJ0_checkIndex_df160) (as := [.int (nI 2), .int (nI 5)]) (st := []) dJ1_charAt_3b067_3 wJ0_checkIndex_df160 iJ0_checkIndex_df160 kJ1_9 (t_scheck (σ := σ) (k := 2) (n := 5) (by decide) (by decide)) rfl rfl (by decide) (by decide) (Nat.le_of_ble_eq_true rfl) (by decide) (by decide) ?_
  refine Z.aload_n B dJ1_charAt_3b067_6 (v := .float 7) rfl rfl ?_
  refine Z.iload_n B dJ1_charAt_3b067_7 (x := nI 2) rfl ?_
  refine Z.cbld B (i := 0) (j := 2) (v := nI 109) rfl (by decide) dJ1_charAt_3b067_8 (by decide) (by decide) (by decide) ?_
  refine Z.sipush B dJ1_charAt_3b067_9 (v := nI 255) rfl ?_
  refine Z.iandv B dJ1_charAt_3b067_12 (v := nI 109) (by decide) ?_
  refine Z.i2c B dJ1_charAt_3b067_13 ?_
  refine Z.eqS (st' := [.int (nI 109)]) (by rw [show ((nI 109).toUInt32 % 65536).toInt32 = nI 109 from by decide]) ?_
  refine Z.iret B Rt dJ1_charAt_3b067_14 (ty := .char) rfl rfl (by decide) (by decide) ?_
  exact ⟨rfl, rfl⟩

theorem t_schar_0_2 {σ : zSt}  : Dt mJ0_charAt_5068e [.float 3, .int (nI 2)] σ (some (.int (nI 109))) σ := by
  refine Dt.of (by decide) (Nat.le_of_ble_eq_true rfl) fun κ B Rt => ?_
  show Z κ 0 0 σ 0 [(0, .float 3), (1, .int (nI 2))] []
  refine Z.aload_n B dJ0_charAt_5068e_0 (v := .float 3) rfl rfl ?_
  refine Z.callVC (σ := σ) B (M' := mJ0_isLatin1_aae02) (as := []) (st := []) (v := .int (nI 1)) (i := 0) rfl (by decide) dJ0_charAt_5068e_1 wJ0_isLatin1_aae02 rfl iJ0_isLatin1_aae02 sJ0_isLatin1_aae02 kJ0_492 t_latin_0 rfl rfl (by decide) (by decide) (Nat.le_of_ble_eq_true rfl) (by decide) (by decide) ?_
  refine Z.if_eqN B dJ0_charAt_5068e_4 (tgt := 16) rfl (by omega) (fun h4 => by exfalso; first | omega | contradiction | simp_all) (fun h4 => ?_)
  refine Z.aload_n B dJ0_charAt_5068e_7 (v := .float 3) rfl rfl ?_
  refine Z.strV B (i := 0) (y := 7) rfl rfl (by decide) (zT_at 1562 (by decide +kernel) rfl) dJ0_charAt_5068e_8 ?_
  refine Z.iload_n B dJ0_charAt_5068e_11 (x := nI 2) rfl ?_
  refine Z.callSI (σ := σ) B (M' := mJ1_charAt_3b067) (as := [.float 7, .int (nI 2)]) (st := []) (v := .int (nI 109)) dJ0_charAt_5068e_12 wJ1_charAt_3b067 iJ1_charAt_3b067 kJ0_495 (t_lchar_0_2 (σ := σ)) rfl rfl (by decide) (by decide) (Nat.le_of_ble_eq_true rfl) (by decide) (by decide) ?_
  refine Z.iret B Rt dJ0_charAt_5068e_15 (ty := .char) rfl rfl (by decide) (by decide) ?_
  exact ⟨rfl, rfl⟩

theorem t_lchar_0_3 {σ : zSt}  : Dt mJ1_charAt_3b067 [.float 7, .int (nI 3)] σ (some (.int (nI 101))) σ := by
  refine Dt.of (by decide) (Nat.le_of_ble_eq_true rfl) fun κ B Rt => ?_
  show Z κ 0 0 σ 0 [(0, .float 7), (1, .int (nI 3))] []
  refine Z.iload_n B dJ1_charAt_3b067_0 (x := nI 3) rfl ?_
  refine Z.aload_n B dJ1_charAt_3b067_1 (v := .float 7) rfl rfl ?_
  refine Z.cblen B (i := 0) rfl (by decide) dJ1_charAt_3b067_2 ?_
  show Z κ 0 0 σ 3 [(0, .float 7), (1, .int (nI 3))] [.int (nI 5), .int (nI 3)]
  refine Z.callSN (σ := σ) B (M' := mJ0_checkIndex_df160) (as := [.int (nI 3), .int (nI 5)]) (st := []) dJ1_charAt_3b067_3 wJ0_checkIndex_df160 iJ0_checkIndex_df160 kJ1_9 (t_scheck (σ := σ) (k := 3) (n := 5) (by decide) (by decide)) rfl rfl (by decide) (by decide) (Nat.le_of_ble_eq_true rfl) (by decide) (by decide) ?_
  refine Z.aload_n B dJ1_charAt_3b067_6 (v := .float 7) rfl rfl ?_
  refine Z.iload_n B dJ1_charAt_3b067_7 (x := nI 3) rfl ?_
  refine Z.cbld B (i := 0) (j := 3) (v := nI 101) rfl (by decide) dJ1_charAt_3b067_8 (by decide) (by decide) (by decide) ?_
  refine Z.sipush B dJ1_charAt_3b067_9 (v := nI 255) rfl ?_
  refine Z.iandv B dJ1_charAt_3b067_12 (v := nI 101) (by decide) ?_
  refine Z.i2c B dJ1_charAt_3b067_13 ?_
  refine Z.eqS (st' := [.int (nI 101)]) (by rw [show ((nI 101).toUInt32 % 65536).toInt32 = nI 101 from by decide]) ?_
  refine Z.iret B Rt dJ1_charAt_3b067_14 (ty := .char) rfl rfl (by decide) (by decide) ?_
  exact ⟨rfl, rfl⟩

theorem t_schar_0_3 {σ : zSt}  : Dt mJ0_charAt_5068e [.float 3, .int (nI 3)] σ (some (.int (nI 101))) σ := by
  refine Dt.of (by decide) (Nat.le_of_ble_eq_true rfl) fun κ B Rt => ?_
  show Z κ 0 0 σ 0 [(0, .float 3), (1, .int (nI 3))] []
  refine Z.aload_n B dJ0_charAt_5068e_0 (v := .float 3) rfl rfl ?_
  refine Z.callVC (σ := σ) B (M' := mJ0_isLatin1_aae02) (as := []) (st := []) (v := .int (nI 1)) (i := 0) rfl (by decide) dJ0_charAt_5068e_1 wJ0_isLatin1_aae02 rfl iJ0_isLatin1_aae02 sJ0_isLatin1_aae02 kJ0_492 t_latin_0 rfl rfl (by decide) (by decide) (Nat.le_of_ble_eq_true rfl) (by decide) (by decide) ?_
  refine Z.if_eqN B dJ0_charAt_5068e_4 (tgt := 16) rfl (by omega) (fun h4 => by exfalso; first | omega | contradiction | simp_all) (fun h4 => ?_)
  refine Z.aload_n B dJ0_charAt_5068e_7 (v := .float 3) rfl rfl ?_
  refine Z.strV B (i := 0) (y := 7) rfl rfl (by decide) (zT_at 1562 (by decide +kernel) rfl) dJ0_charAt_5068e_8 ?_
  refine Z.iload_n B dJ0_charAt_5068e_11 (x := nI 3) rfl ?_
  refine Z.callSI (σ := σ) B (M' := mJ1_charAt_3b067) (as := [.float 7, .int (nI 3)]) (st := []) (v := .int (nI 101)) dJ0_charAt_5068e_12 wJ1_charAt_3b067 iJ1_charAt_3b067 kJ0_495 (t_lchar_0_3 (σ := σ)) rfl rfl (by decide) (by decide) (Nat.le_of_ble_eq_true rfl) (by decide) (by decide) ?_
  refine Z.iret B Rt dJ0_charAt_5068e_15 (ty := .char) rfl rfl (by decide) (by decide) ?_
  exact ⟨rfl, rfl⟩

theorem t_lchar_0_4 {σ : zSt}  : Dt mJ1_charAt_3b067 [.float 7, .int (nI 4)] σ (some (.int (nI 114))) σ := by
  refine Dt.of (by decide) (Nat.le_of_ble_eq_true rfl) fun κ B Rt => ?_
  show Z κ 0 0 σ 0 [(0, .float 7), (1, .int (nI 4))] []
  refine Z.iload_n B dJ1_charAt_3b067_0 (x := nI 4) rfl ?_
  refine Z.aload_n B dJ1_charAt_3b067_1 (v := .float 7) rfl rfl ?_
  refine Z.cblen B (i := 0) rfl (by decide) dJ1_charAt_3b067_2 ?_
  show Z κ 0 0 σ 3 [(0, .float 7), (1, .int (nI 4))] [.int (nI 5), .int (nI 4)]
  refine Z.callSN (σ := σ) B (M' := mJ0_checkIndex_df160) (as := [.int (nI 4), .int (nI 5)]) (st := []) dJ1_charAt_3b067_3 wJ0_checkIndex_df160 iJ0_checkIndex_df160 kJ1_9 (t_scheck (σ := σ) (k := 4) (n := 5) (by decide) (by decide)) rfl rfl (by decide) (by decide) (Nat.le_of_ble_eq_true rfl) (by decide) (by decide) ?_
  refine Z.aload_n B dJ1_charAt_3b067_6 (v := .float 7) rfl rfl ?_
  refine Z.iload_n B dJ1_charAt_3b067_7 (x := nI 4) rfl ?_
  refine Z.cbld B (i := 0) (j := 4) (v := nI 114) rfl (by decide) dJ1_charAt_3b067_8 (by decide) (by decide) (by decide) ?_
  refine Z.sipush B dJ1_charAt_3b067_9 (v := nI 255) rfl ?_
  refine Z.iandv B dJ1_charAt_3b067_12 (v := nI 114) (by decide) ?_
  refine Z.i2c B dJ1_charAt_3b067_13 ?_
  refine Z.eqS (st' := [.int (nI 114)]) (by rw [show ((nI 114).toUInt32 % 65536).toInt32 = nI 114 from by decide]) ?_
  refine Z.iret B Rt dJ1_charAt_3b067_14 (ty := .char) rfl rfl (by decide) (by decide) ?_
  exact ⟨rfl, rfl⟩

theorem t_schar_0_4 {σ : zSt}  : Dt mJ0_charAt_5068e [.float 3, .int (nI 4)] σ (some (.int (nI 114))) σ := by
  refine Dt.of (by decide) (Nat.le_of_ble_eq_true rfl) fun κ B Rt => ?_
  show Z κ 0 0 σ 0 [(0, .float 3), (1, .int (nI 4))] []
  refine Z.aload_n B dJ0_charAt_5068e_0 (v := .float 3) rfl rfl ?_
  refine Z.callVC (σ := σ) B (M' := mJ0_isLatin1_aae02) (as := []) (st := []) (v := .int (nI 1)) (i := 0) rfl (by decide) dJ0_charAt_5068e_1 wJ0_isLatin1_aae02 rfl iJ0_isLatin1_aae02 sJ0_isLatin1_aae02 kJ0_492 t_latin_0 rfl rfl (by decide) (by decide) (Nat.le_of_ble_eq_true rfl) (by decide) (by decide) ?_
  refine Z.if_eqN B dJ0_charAt_5068e_4 (tgt := 16) rfl (by omega) (fun h4 => by exfalso; first | omega | contradiction | simp_all) (fun h4 => ?_)
  refine Z.aload_n B dJ0_charAt_5068e_7 (v := .float 3) rfl rfl ?_
  refine Z.strV B (i := 0) (y := 7) rfl rfl (by decide) (zT_at 1562 (by decide +kernel) rfl) dJ0_charAt_5068e_8 ?_
  refine Z.iload_n B dJ0_charAt_5068e_11 (x := nI 4) rfl ?_
  refine Z.callSI (σ := σ) B (M' := mJ1_charAt_3b067) (as := [.float 7, .int (nI 4)]) (st := []) (v := .int (nI 114)) dJ0_charAt_5068e_12 wJ1_charAt_3b067 iJ1_charAt_3b067 kJ0_495 (t_lchar_0_4 (σ := σ)) rfl rfl (by decide) (by decide) (Nat.le_of_ble_eq_true rfl) (by decide) (by decide) ?_
  refine Z.iret B Rt dJ0_charAt_5068e_15 (ty := .char) rfl rfl (by decide) (by decide) ?_
  exact ⟨rfl, rfl⟩

theorem t_lchar_1_0 {σ : zSt}  : Dt mJ1_charAt_3b067 [.float 8, .int (nI 0)] σ (some (.int (nI 97))) σ := by
  refine Dt.of (by decide) (Nat.le_of_ble_eq_true rfl) fun κ B Rt => ?_
  show Z κ 0 0 σ 0 [(0, .float 8), (1, .int (nI 0))] []
  refine Z.iload_n B dJ1_charAt_3b067_0 (x := nI 0) rfl ?_
  refine Z.aload_n B dJ1_charAt_3b067_1 (v := .float 8) rfl rfl ?_
  refine Z.cblen B (i := 1) rfl (by decide) dJ1_charAt_3b067_2 ?_
  show Z κ 0 0 σ 3 [(0, .float 8), (1, .int (nI 0))] [.int (nI 5), .int (nI 0)]
  refine Z.callSN (σ := σ) B (M' := mJ0_checkIndex_df160) (as := [.int (nI 0), .int (nI 5)]) (st := []) dJ1_charAt_3b067_3 wJ0_checkIndex_df160 iJ0_checkIndex_df160 kJ1_9 (t_scheck (σ := σ) (k := 0) (n := 5) (by decide) (by decide)) rfl rfl (by decide) (by decide) (Nat.le_of_ble_eq_true rfl) (by decide) (by decide) ?_
  refine Z.aload_n B dJ1_charAt_3b067_6 (v := .float 8) rfl rfl ?_
  refine Z.iload_n B dJ1_charAt_3b067_7 (x := nI 0) rfl ?_
  refine Z.cbld B (i := 1) (j := 0) (v := nI 97) rfl (by decide) dJ1_charAt_3b067_8 (by decide) (by decide) (by decide) ?_
  refine Z.sipush B dJ1_charAt_3b067_9 (v := nI 255) rfl ?_
  refine Z.iandv B dJ1_charAt_3b067_12 (v := nI 97) (by decide) ?_
  refine Z.i2c B dJ1_charAt_3b067_13 ?_
  refine Z.eqS (st' := [.int (nI 97)]) (by rw [show ((nI 97).toUInt32 % 65536).toInt32 = nI 97 from by decide]) ?_
  refine Z.iret B Rt dJ1_charAt_3b067_14 (ty := .char) rfl rfl (by decide) (by decide) ?_
  exact ⟨rfl, rfl⟩

theorem t_schar_1_0 {σ : zSt}  : Dt mJ0_charAt_5068e [.float 4, .int (nI 0)] σ (some (.int (nI 97))) σ := by
  refine Dt.of (by decide) (Nat.le_of_ble_eq_true rfl) fun κ B Rt => ?_
  show Z κ 0 0 σ 0 [(0, .float 4), (1, .int (nI 0))] []
  refine Z.aload_n B dJ0_charAt_5068e_0 (v := .float 4) rfl rfl ?_
  refine Z.callVC (σ := σ) B (M' := mJ0_isLatin1_aae02) (as := []) (st := []) (v := .int (nI 1)) (i := 1) rfl (by decide) dJ0_charAt_5068e_1 wJ0_isLatin1_aae02 rfl iJ0_isLatin1_aae02 sJ0_isLatin1_aae02 kJ0_492 t_latin_1 rfl rfl (by decide) (by decide) (Nat.le_of_ble_eq_true rfl) (by decide) (by decide) ?_
  refine Z.if_eqN B dJ0_charAt_5068e_4 (tgt := 16) rfl (by omega) (fun h4 => by exfalso; first | omega | contradiction | simp_all) (fun h4 => ?_)
  refine Z.aload_n B dJ0_charAt_5068e_7 (v := .float 4) rfl rfl ?_
  refine Z.strV B (i := 1) (y := 8) rfl rfl (by decide) (zT_at 1562 (by decide +kernel) rfl) dJ0_charAt_5068e_8 ?_
  refine Z.iload_n B dJ0_charAt_5068e_11 (x := nI 0) rfl ?_
  refine Z.callSI (σ := σ) B (M' := mJ1_charAt_3b067) (as := [.float 8, .int (nI 0)]) (st := []) (v := .int (nI 97)) dJ0_charAt_5068e_12 wJ1_charAt_3b067 iJ1_charAt_3b067 kJ0_495 (t_lchar_1_0 (σ := σ)) rfl rfl (by decide) (by decide) (Nat.le_of_ble_eq_true rfl) (by decide) (by decide) ?_
  refine Z.iret B Rt dJ0_charAt_5068e_15 (ty := .char) rfl rfl (by decide) (by decide) ?_
  exact ⟨rfl, rfl⟩

theorem t_lchar_1_1 {σ : zSt}  : Dt mJ1_charAt_3b067 [.float 8, .int (nI 1)] σ (some (.int (nI 115))) σ := by
  refine Dt.of (by decide) (Nat.le_of_ble_eq_true rfl) fun κ B Rt => ?_
  show Z κ 0 0 σ 0 [(0, .float 8), (1, .int (nI 1))] []
  refine Z.iload_n B dJ1_charAt_3b067_0 (x := nI 1) rfl ?_
  refine Z.aload_n B dJ1_charAt_3b067_1 (v := .float 8) rfl rfl ?_
  refine Z.cblen B (i := 1) rfl (by decide) dJ1_charAt_3b067_2 ?_
  show Z κ 0 0 σ 3 [(0, .float 8), (1, .int (nI 1))] [.int (nI 5), .int (nI 1)]
  refine Z.callSN (σ := σ) B (M' := mJ0_checkIndex_df160) (as := [.int (nI 1), .int (nI 5)]) (st := []) dJ1_charAt_3b067_3 wJ0_checkIndex_df160 iJ0_checkIndex_df160 kJ1_9 (t_scheck (σ := σ) (k := 1) (n := 5) (by decide) (by decide)) rfl rfl (by decide) (by decide) (Nat.le_of_ble_eq_true rfl) (by decide) (by decide) ?_
  refine Z.aload_n B dJ1_charAt_3b067_6 (v := .float 8) rfl rfl ?_
  refine Z.iload_n B dJ1_charAt_3b067_7 (x := nI 1) rfl ?_
  refine Z.cbld B (i := 1) (j := 1) (v := nI 115) rfl (by decide) dJ1_charAt_3b067_8 (by decide) (by decide) (by decide) ?_
  refine Z.sipush B dJ1_charAt_3b067_9 (v := nI 255) rfl ?_
  refine Z.iandv B dJ1_charAt_3b067_12 (v := nI 115) (by decide) ?_
  refine Z.i2c B dJ1_charAt_3b067_13 ?_
  refine Z.eqS (st' := [.int (nI 115)]) (by rw [show ((nI 115).toUInt32 % 65536).toInt32 = nI 115 from by decide]) ?_
  refine Z.iret B Rt dJ1_charAt_3b067_14 (ty := .char) rfl rfl (by decide) (by decide) ?_
  exact ⟨rfl, rfl⟩

theorem t_schar_1_1 {σ : zSt}  : Dt mJ0_charAt_5068e [.float 4, .int (nI 1)] σ (some (.int (nI 115))) σ := by
  refine Dt.of (by decide) (Nat.le_of_ble_eq_true rfl) fun κ B Rt => ?_
  show Z κ 0 0 σ 0 [(0, .float 4), (1, .int (nI 1))] []
  refine Z.aload_n B dJ0_charAt_5068e_0 (v := .float 4) rfl rfl ?_
  refine Z.callVC (σ := σ) B (M' := mJ0_isLatin1_aae02) (as := []) (st := []) (v := .int (nI 1)) (i := 1) rfl (by decide) dJ0_charAt_5068e_1 wJ0_isLatin1_aae02 rfl iJ0_isLatin1_aae02 sJ0_isLatin1_aae02 kJ0_492 t_latin_1 rfl rfl (by decide) (by decide) (Nat.le_of_ble_eq_true rfl) (by decide) (by decide) ?_
  refine Z.if_eqN B dJ0_charAt_5068e_4 (tgt := 16) rfl (by omega) (fun h4 => by exfalso; first | omega | contradiction | simp_all) (fun h4 => ?_)
  refine Z.aload_n B dJ0_charAt_5068e_7 (v := .float 4) rfl rfl ?_
  refine Z.strV B (i := 1) (y := 8) rfl rfl (by decide) (zT_at 1562 (by decide +kernel) rfl) dJ0_charAt_5068e_8 ?_
  refine Z.iload_n B dJ0_charAt_5068e_11 (x := nI 1) rfl ?_
  refine Z.callSI (σ := σ) B (M' := mJ1_charAt_3b067) (as := [.float 8, .int (nI 1)]) (st := []) (v := .int (nI 115)) dJ0_charAt_5068e_12 wJ1_charAt_3b067 iJ1_charAt_3b067 kJ0_495 (t_lchar_1_1 (σ := σ)) rfl rfl (by decide) (by decide) (Nat.le_of_ble_eq_true rfl) (by decide) (by decide) ?_
  refine Z.iret B Rt dJ0_charAt_5068e_15 (ty := .char) rfl rfl (by decide) (by decide) ?_
  exact ⟨rfl, rfl⟩

theorem t_lchar_1_2 {σ : zSt}  : Dt mJ1_charAt_3b067 [.float 8, .int (nI 2)] σ (some (.int (nI 107))) σ := by
  refine Dt.of (by decide) (Nat.le_of_ble_eq_true rfl) fun κ B Rt => ?_
  show Z κ 0 0 σ 0 [(0, .float 8), (1, .int (nI 2))] []
  refine Z.iload_n B dJ1_charAt_3b067_0 (x := nI 2) rfl ?_
  refine Z.aload_n B dJ1_charAt_3b067_1 (v := .float 8) rfl rfl ?_
  refine Z.cblen B (i := 1) rfl (by decide) dJ1_charAt_3b067_2 ?_
  show Z κ 0 0 σ 3 [(0, .float 8), (1, .int (nI 2))] [.int (nI 5), .int (nI 2)]
  refine Z.callSN (σ := σ) B (M' := mJ0_checkIndex_df160) (as := [.int (nI 2), .int (nI 5)]) (st := []) dJ1_charAt_3b067_3 wJ0_checkIndex_df160 iJ0_checkIndex_df160 kJ1_9 (t_scheck (σ := σ) (k := 2) (n := 5) (by decide) (by decide)) rfl rfl (by decide) (by decide) (Nat.le_of_ble_eq_true rfl) (by decide) (by decide) ?_
  refine Z.aload_n B dJ1_charAt_3b067_6 (v := .float 8) rfl rfl ?_
  refine Z.iload_n B dJ1_charAt_3b067_7 (x := nI 2) rfl ?_
  refine Z.cbld B (i := 1) (j := 2) (v := nI 107) rfl (by decide) dJ1_charAt_3b067_8 (by decide) (by decide) (by decide) ?_
  refine Z.sipush B dJ1_charAt_3b067_9 (v := nI 255) rfl ?_
  refine Z.iandv B dJ1_charAt_3b067_12 (v := nI 107) (by decide) ?_
  refine Z.i2c B dJ1_charAt_3b067_13 ?_
  refine Z.eqS (st' := [.int (nI 107)]) (by rw [show ((nI 107).toUInt32 % 65536).toInt32 = nI 107 from by decide]) ?_
  refine Z.iret B Rt dJ1_charAt_3b067_14 (ty := .char) rfl rfl (by decide) (by decide) ?_
  exact ⟨rfl, rfl⟩

theorem t_schar_1_2 {σ : zSt}  : Dt mJ0_charAt_5068e [.float 4, .int (nI 2)] σ (some (.int (nI 107))) σ := by
  refine Dt.of (by decide) (Nat.le_of_ble_eq_true rfl) fun κ B Rt => ?_
  show Z κ 0 0 σ 0 [(0, .float 4), (1, .int (nI 2))] []
  refine Z.aload_n B dJ0_charAt_5068e_0 (v := .float 4) rfl rfl ?_
  refine Z.callVC (σ := σ) B (M' := mJ0_isLatin1_aae02) (as := []) (st := []) (v := .int (nI 1)) (i := 1) rfl (by decide) dJ0_charAt_5068e_1 wJ0_isLatin1_aae02 rfl iJ0_isLatin1_aae02 sJ0_isLatin1_aae02 kJ0_492 t_latin_1 rfl rfl (by decide) (by decide) (Nat.le_of_ble_eq_true rfl) (by decide) (by decide) ?_
  refine Z.if_eqN B dJ0_charAt_5068e_4 (tgt := 16) rfl (by omega) (fun h4 => by exfalso; first | omega | contradiction | simp_all) (fun h4 => ?_)
  refine Z.aload_n B dJ0_charAt_5068e_7 (v := .float 4) rfl rfl ?_
  refine Z.strV B (i := 1) (y := 8) rfl rfl (by decide) (zT_at 1562 (by decide +kernel) rfl) dJ0_charAt_5068e_8 ?_
  refine Z.iload_n B dJ0_charAt_5068e_11 (x := nI 2) rfl ?_
  refine Z.callSI (σ := σ) B (M' := mJ1_charAt_3b067) (as := [.float 8, .int (nI 2)]) (st := []) (v := .int (nI 107)) dJ0_charAt_5068e_12 wJ1_charAt_3b067 iJ1_charAt_3b067 kJ0_495 (t_lchar_1_2 (σ := σ)) rfl rfl (by decide) (by decide) (Nat.le_of_ble_eq_true rfl) (by decide) (by decide) ?_
  refine Z.iret B Rt dJ0_charAt_5068e_15 (ty := .char) rfl rfl (by decide) (by decide) ?_
  exact ⟨rfl, rfl⟩

theorem t_lchar_1_3 {σ : zSt}  : Dt mJ1_charAt_3b067 [.float 8, .int (nI 3)] σ (some (.int (nI 101))) σ := by
  refine Dt.of (by decide) (Nat.le_of_ble_eq_true rfl) fun κ B Rt => ?_
  show Z κ 0 0 σ 0 [(0, .float 8), (1, .int (nI 3))] []
  refine Z.iload_n B dJ1_charAt_3b067_0 (x := nI 3) rfl ?_
  refine Z.aload_n B dJ1_charAt_3b067_1 (v := .float 8) rfl rfl ?_
  refine Z.cblen B (i := 1) rfl (by decide) dJ1_charAt_3b067_2 ?_
  show Z κ 0 0 σ 3 [(0, .float 8), (1, .int (nI 3))] [.int (nI 5), .int (nI 3)]
  refine Z.callSN (σ := σ) B (M' := mJ0_checkIndex_df160) (as := [.int (nI 3), .int (nI 5)]) (st := []) dJ1_charAt_3b067_3 wJ0_checkIndex_df160 iJ0_checkIndex_df160 kJ1_9 (t_scheck (σ := σ) (k := 3) (n := 5) (by decide) (by decide)) rfl rfl (by decide) (by decide) (Nat.le_of_ble_eq_true rfl) (by decide) (by decide) ?_
  refine Z.aload_n B dJ1_charAt_3b067_6 (v := .float 8) rfl rfl ?_
  refine Z.iload_n B dJ1_charAt_3b067_7 (x := nI 3) rfl ?_
  refine Z.cbld B (i := 1) (j := 3) (v := nI 101) rfl (by decide) dJ1_charAt_3b067_8 (by decide) (by decide) (by decide) ?_
  refine Z.sipush B dJ1_charAt_3b067_9 (v := nI 255) rfl ?_
  refine Z.iandv B dJ1_charAt_3b067_12 (v := nI 101) (by decide) ?_
  refine Z.i2c B dJ1_charAt_3b067_13 ?_
  refine Z.eqS (st' := [.int (nI 101)]) (by rw [show ((nI 101).toUInt32 % 65536).toInt32 = nI 101 from by decide]) ?_
  refine Z.iret B Rt dJ1_charAt_3b067_14 (ty := .char) rfl rfl (by decide) (by decide) ?_
  exact ⟨rfl, rfl⟩

theorem t_schar_1_3 {σ : zSt}  : Dt mJ0_charAt_5068e [.float 4, .int (nI 3)] σ (some (.int (nI 101))) σ := by
  refine Dt.of (by decide) (Nat.le_of_ble_eq_true rfl) fun κ B Rt => ?_
  show Z κ 0 0 σ 0 [(0, .float 4), (1, .int (nI 3))] []
  refine Z.aload_n B dJ0_charAt_5068e_0 (v := .float 4) rfl rfl ?_
  refine Z.callVC (σ := σ) B (M' := mJ0_isLatin1_aae02) (as := []) (st := []) (v := .int (nI 1)) (i := 1) rfl (by decide) dJ0_charAt_5068e_1 wJ0_isLatin1_aae02 rfl iJ0_isLatin1_aae02 sJ0_isLatin1_aae02 kJ0_492 t_latin_1 rfl rfl (by decide) (by decide) (Nat.le_of_ble_eq_true rfl) (by decide) (by decide) ?_
  refine Z.if_eqN B dJ0_charAt_5068e_4 (tgt := 16) rfl (by omega) (fun h4 => by exfalso; first | omega | contradiction | simp_all) (fun h4 => ?_)
  refine Z.aload_n B dJ0_charAt_5068e_7 (v := .float 4) rfl rfl ?_
  refine Z.strV B (i := 1) (y := 8) rfl rfl (by decide) (zT_at 1562 (by decide +kernel) rfl) dJ0_charAt_5068e_8 ?_
  refine Z.iload_n B dJ0_charAt_5068e_11 (x := nI 3) rfl ?_
  refine Z.callSI (σ := σ) B (M' := mJ1_charAt_3b067) (as := [.float 8, .int (nI 3)]) (st := []) (v := .int (nI 101)) dJ0_charAt_5068e_12 wJ1_charAt_3b067 iJ1_charAt_3b067 kJ0_495 (t_lchar_1_3 (σ := σ)) rfl rfl (by decide) (by decide) (Nat.le_of_ble_eq_true rfl) (by decide) (by decide) ?_
  refine Z.iret B Rt dJ0_charAt_5068e_15 (ty := .char) rfl rfl (by decide) (by decide) ?_
  exact ⟨rfl, rfl⟩

theorem t_lchar_1_4 {σ : zSt}  : Dt mJ1_charAt_3b067 [.float 8, .int (nI 4)] σ (some (.int (nI 114))) σ := by
  refine Dt.of (by decide) (Nat.le_of_ble_eq_true rfl) fun κ B Rt => ?_
  show Z κ 0 0 σ 0 [(0, .float 8), (1, .int (nI 4))] []
  refine Z.iload_n B dJ1_charAt_3b067_0 (x := nI 4) rfl ?_
  refine Z.aload_n B dJ1_charAt_3b067_1 (v := .float 8) rfl rfl ?_
  refine Z.cblen B (i := 1) rfl (by decide) dJ1_charAt_3b067_2 ?_
  show Z κ 0 0 σ 3 [(0, .float 8), (1, .int (nI 4))] [.int (nI 5), .int (nI 4)]
  refine Z.callSN (σ := σ) B (M' := mJ0_checkIndex_df160) (as := [.int (nI 4), .int (nI 5)]) (st := []) dJ1_charAt_3b067_3 wJ0_checkIndex_df160 iJ0_checkIndex_df160 kJ1_9 (t_scheck (σ := σ) (k := 4) (n := 5) (by decide) (by decide)) rfl rfl (by decide) (by decide) (Nat.le_of_ble_eq_true rfl) (by decide) (by decide) ?_
  refine Z.aload_n B dJ1_charAt_3b067_6 (v := .float 8) rfl rfl ?_
  refine Z.iload_n B dJ1_charAt_3b067_7 (x := nI 4) rfl ?_
  refine Z.cbld B (i := 1) (j := 4) (v := nI 114) rfl (by decide) dJ1_charAt_3b067_8 (by decide) (by decide) (by decide) ?_
  refine Z.sipush B dJ1_charAt_3b067_9 (v := nI 255) rfl ?_
  refine Z.iandv B dJ1_charAt_3b067_12 (v := nI 114) (by decide) ?_
  refine Z.i2c B dJ1_charAt_3b067_13 ?_
  refine Z.eqS (st' := [.int (nI 114)]) (by rw [show ((nI 114).toUInt32 % 65536).toInt32 = nI 114 from by decide]) ?_
  refine Z.iret B Rt dJ1_charAt_3b067_14 (ty := .char) rfl rfl (by decide) (by decide) ?_
  exact ⟨rfl, rfl⟩

theorem t_schar_1_4 {σ : zSt}  : Dt mJ0_charAt_5068e [.float 4, .int (nI 4)] σ (some (.int (nI 114))) σ := by
  refine Dt.of (by decide) (Nat.le_of_ble_eq_true rfl) fun κ B Rt => ?_
  show Z κ 0 0 σ 0 [(0, .float 4), (1, .int (nI 4))] []
  refine Z.aload_n B dJ0_charAt_5068e_0 (v := .float 4) rfl rfl ?_
  refine Z.callVC (σ := σ) B (M' := mJ0_isLatin1_aae02) (as := []) (st := []) (v := .int (nI 1)) (i := 1) rfl (by decide) dJ0_charAt_5068e_1 wJ0_isLatin1_aae02 rfl iJ0_isLatin1_aae02 sJ0_isLatin1_aae02 kJ0_492 t_latin_1 rfl rfl (by decide) (by decide) (Nat.le_of_ble_eq_true rfl) (by decide) (by decide) ?_
  refine Z.if_eqN B dJ0_charAt_5068e_4 (tgt := 16) rfl (by omega) (fun h4 => by exfalso; first | omega | contradiction | simp_all) (fun h4 => ?_)
  refine Z.aload_n B dJ0_charAt_5068e_7 (v := .float 4) rfl rfl ?_
  refine Z.strV B (i := 1) (y := 8) rfl rfl (by decide) (zT_at 1562 (by decide +kernel) rfl) dJ0_charAt_5068e_8 ?_
  refine Z.iload_n B dJ0_charAt_5068e_11 (x := nI 4) rfl ?_
  refine Z.callSI (σ := σ) B (M' := mJ1_charAt_3b067) (as := [.float 8, .int (nI 4)]) (st := []) (v := .int (nI 114)) dJ0_charAt_5068e_12 wJ1_charAt_3b067 iJ1_charAt_3b067 kJ0_495 (t_lchar_1_4 (σ := σ)) rfl rfl (by decide) (by decide) (Nat.le_of_ble_eq_true rfl) (by decide) (by decide) ?_
  refine Z.iret B Rt dJ0_charAt_5068e_15 (ty := .char) rfl rfl (by decide) (by decide) ?_
  exact ⟨rfl, rfl⟩

theorem t_lchar_2_0 {σ : zSt}  : Dt mJ1_charAt_3b067 [.float 9, .int (nI 0)] σ (some (.int (nI 119))) σ := by
  refine Dt.of (by decide) (Nat.le_of_ble_eq_true rfl) fun κ B Rt => ?_
  show Z κ 0 0 σ 0 [(0, .float 9), (1, .int (nI 0))] []
  refine Z.iload_n B dJ1_charAt_3b067_0 (x := nI 0) rfl ?_
  refine Z.aload_n B dJ1_charAt_3b067_1 (v := .float 9) rfl rfl ?_
  refine Z.cblen B (i := 2) rfl (by decide) dJ1_charAt_3b067_2 ?_
  show Z κ 0 0 σ 3 [(0, .float 9), (1, .int (nI 0))] [.int (nI 3), .int (nI 0)]
  refine Z.callSN (σ := σ) B (M' := mJ0_checkIndex_df160) (as := [.int (nI 0), .int (nI 3)]) (st := []) dJ1_charAt_3b067_3 wJ0_checkIndex_df160 iJ0_checkIndex_df160 kJ1_9 (t_scheck (σ := σ) (k := 0) (n := 3) (by decide) (by decide)) rfl rfl (by decide) (by decide) (Nat.le_of_ble_eq_true rfl) (by decide) (by decide) ?_
  refine Z.aload_n B dJ1_charAt_3b067_6 (v := .float 9) rfl rfl ?_
  refine Z.iload_n B dJ1_charAt_3b067_7 (x := nI 0) rfl ?_
  refine Z.cbld B (i := 2) (j := 0) (v := nI 119) rfl (by decide) dJ1_charAt_3b067_8 (by decide) (by decide) (by decide) ?_
  refine Z.sipush B dJ1_charAt_3b067_9 (v := nI 255) rfl ?_
  refine Z.iandv B dJ1_charAt_3b067_12 (v := nI 119) (by decide) ?_
  refine Z.i2c B dJ1_charAt_3b067_13 ?_
  refine Z.eqS (st' := [.int (nI 119)]) (by rw [show ((nI 119).toUInt32 % 65536).toInt32 = nI 119 from by decide]) ?_
  refine Z.iret B Rt dJ1_charAt_3b067_14 (ty := .char) rfl rfl (by decide) (by decide) ?_
  exact ⟨rfl, rfl⟩

theorem t_schar_2_0 {σ : zSt}  : Dt mJ0_charAt_5068e [.float 5, .int (nI 0)] σ (some (.int (nI 119))) σ := by
  refine Dt.of (by decide) (Nat.le_of_ble_eq_true rfl) fun κ B Rt => ?_
  show Z κ 0 0 σ 0 [(0, .float 5), (1, .int (nI 0))] []
  refine Z.aload_n B dJ0_charAt_5068e_0 (v := .float 5) rfl rfl ?_
  refine Z.callVC (σ := σ) B (M' := mJ0_isLatin1_aae02) (as := []) (st := []) (v := .int (nI 1)) (i := 2) rfl (by decide) dJ0_charAt_5068e_1 wJ0_isLatin1_aae02 rfl iJ0_isLatin1_aae02 sJ0_isLatin1_aae02 kJ0_492 t_latin_2 rfl rfl (by decide) (by decide) (Nat.le_of_ble_eq_true rfl) (by decide) (by decide) ?_
  refine Z.if_eqN B dJ0_charAt_5068e_4 (tgt := 16) rfl (by omega) (fun h4 => by exfalso; first | omega | contradiction | simp_all) (fun h4 => ?_)
  refine Z.aload_n B dJ0_charAt_5068e_7 (v := .float 5) rfl rfl ?_
  refine Z.strV B (i := 2) (y := 9) rfl rfl (by decide) (zT_at 1562 (by decide +kernel) rfl) dJ0_charAt_5068e_8 ?_
  refine Z.iload_n B dJ0_charAt_5068e_11 (x := nI 0) rfl ?_
  refine Z.callSI (σ := σ) B (M' := mJ1_charAt_3b067) (as := [.float 9, .int (nI 0)]) (st := []) (v := .int (nI 119)) dJ0_charAt_5068e_12 wJ1_charAt_3b067 iJ1_charAt_3b067 kJ0_495 (t_lchar_2_0 (σ := σ)) rfl rfl (by decide) (by decide) (Nat.le_of_ble_eq_true rfl) (by decide) (by decide) ?_
  refine Z.iret B Rt dJ0_charAt_5068e_15 (ty := .char) rfl rfl (by decide) (by decide) ?_
  exact ⟨rfl, rfl⟩

theorem t_lchar_2_1 {σ : zSt}  : Dt mJ1_charAt_3b067 [.float 9, .int (nI 1)] σ (some (.int (nI 97))) σ := by
  refine Dt.of (by decide) (Nat.le_of_ble_eq_true rfl) fun κ B Rt => ?_
  show Z κ 0 0 σ 0 [(0, .float 9), (1, .int (nI 1))] []
  refine Z.iload_n B dJ1_charAt_3b067_0 (x := nI 1) rfl ?_
  refine Z.aload_n B dJ1_charAt_3b067_1 (v := .float 9) rfl rfl ?_
  refine Z.cblen B (i := 2) rfl (by decide) dJ1_charAt_3b067_2 ?_
  show Z κ 0 0 σ 3 [(0, .float 9), (1, .int (nI 1))] [.int (nI 3), .int (nI 1)]
  refine Z.callSN (σ := σ) B (M' := mJ0_checkIndex_df160) (as := [.int (nI 1), .int (nI 3)]) (st := []) dJ1_charAt_3b067_3 wJ0_checkIndex_df160 iJ0_checkIndex_df160 kJ1_9 (t_scheck (σ := σ) (k := 1) (n := 3) (by decide) (by decide)) rfl rfl (by decide) (by decide) (Nat.le_of_ble_eq_true rfl) (by decide) (by decide) ?_
  refine Z.aload_n B dJ1_charAt_3b067_6 (v := .float 9) rfl rfl ?_
  refine Z.iload_n B dJ1_charAt_3b067_7 (x := nI 1) rfl ?_
  refine Z.cbld B (i := 2) (j := 1) (v := nI 97) rfl (by decide) dJ1_charAt_3b067_8 (by decide) (by decide) (by decide) ?_
  refine Z.sipush B dJ1_charAt_3b067_9 (v := nI 255) rfl ?_
  refine Z.iandv B dJ1_charAt_3b067_12 (v := nI 97) (by decide) ?_
  refine Z.i2c B dJ1_charAt_3b067_13 ?_
  refine Z.eqS (st' := [.int (nI 97)]) (by rw [show ((nI 97).toUInt32 % 65536).toInt32 = nI 97 from by decide]) ?_
  refine Z.iret B Rt dJ1_charAt_3b067_14 (ty := .char) rfl rfl (by decide) (by decide) ?_
  exact ⟨rfl, rfl⟩

theorem t_schar_2_1 {σ : zSt}  : Dt mJ0_charAt_5068e [.float 5, .int (nI 1)] σ (some (.int (nI 97))) σ := by
  refine Dt.of (by decide) (Nat.le_of_ble_eq_true rfl) fun κ B Rt => ?_
  show Z κ 0 0 σ 0 [(0, .float 5), (1, .int (nI 1))] []
  refine Z.aload_n B dJ0_charAt_5068e_0 (v := .float 5) rfl rfl ?_
  refine Z.callVC (σ := σ) B (M' := mJ0_isLatin1_aae02) (as := []) (st := []) (v := .int (nI 1)) (i := 2) rfl (by decide) dJ0_charAt_5068e_1 wJ0_isLatin1_aae02 rfl iJ0_isLatin1_aae02 sJ0_isLatin1_aae02 kJ0_492 t_latin_2 rfl rfl (by decide) (by decide) (Nat.le_of_ble_eq_true rfl) (by decide) (by decide) ?_
  refine Z.if_eqN B dJ0_charAt_5068e_4 (tgt := 16) rfl (by omega) (fun h4 => by exfalso; first | omega | contradiction | simp_all) (fun h4 => ?_)
  refine Z.aload_n B dJ0_charAt_5068e_7 (v := .float 5) rfl rfl ?_
  refine Z.strV B (i := 2) (y := 9) rfl rfl (by decide) (zT_at 1562 (by decide +kernel) rfl) dJ0_charAt_5068e_8 ?_
  refine Z.iload_n B dJ0_charAt_5068e_11 (x := nI 1) rfl ?_
  refine Z.callSI (σ := σ) B (M' := mJ1_charAt_3b067) (as := [.float 9, .int (nI 1)]) (st := []) (v := .int (nI 97)) dJ0_charAt_5068e_12 wJ1_charAt_3b067 iJ1_charAt_3b067 kJ0_495 (t_lchar_2_1 (σ := σ)) rfl rfl (by decide) (by decide) (Nat.le_of_ble_eq_true rfl) (by decide) (by decide) ?_
  refine Z.iret B Rt dJ0_charAt_5068e_15 (ty := .char) rfl rfl (by decide) (by decide) ?_
  exact ⟨rfl, rfl⟩

theorem t_lchar_2_2 {σ : zSt}  : Dt mJ1_charAt_3b067 [.float 9, .int (nI 2)] σ (some (.int (nI 121))) σ := by
  refine Dt.of (by decide) (Nat.le_of_ble_eq_true rfl) fun κ B Rt => ?_
  show Z κ 0 0 σ 0 [(0, .float 9), (1, .int (nI 2))] []
  refine Z.iload_n B dJ1_charAt_3b067_0 (x := nI 2) rfl ?_
  refine Z.aload_n B dJ1_charAt_3b067_1 (v := .float 9) rfl rfl ?_
  refine Z.cblen B (i := 2) rfl (by decide) dJ1_charAt_3b067_2 ?_
  show Z κ 0 0 σ 3 [(0, .float 9), (1, .int (nI 2))] [.int (nI 3), .int (nI 2)]
  refine Z.callSN (σ := σ) B (M' := mJ0_checkIndex_df160) (as := [.int (nI 2), .int (nI 3)]) (st := []) dJ1_charAt_3b067_3 wJ0_checkIndex_df160 iJ0_checkIndex_df160 kJ1_9 (t_scheck (σ := σ) (k := 2) (n := 3) (by decide) (by decide)) rfl rfl (by decide) (by decide) (Nat.le_of_ble_eq_true rfl) (by decide) (by decide) ?_
  refine Z.aload_n B dJ1_charAt_3b067_6 (v := .float 9) rfl rfl ?_
  refine Z.iload_n B dJ1_charAt_3b067_7 (x := nI 2) rfl ?_
  refine Z.cbld B (i := 2) (j := 2) (v := nI 121) rfl (by decide) dJ1_charAt_3b067_8 (by decide) (by decide) (by decide) ?_
  refine Z.sipush B dJ1_charAt_3b067_9 (v := nI 255) rfl ?_
  refine Z.iandv B dJ1_charAt_3b067_12 (v := nI 121) (by decide) ?_
  refine Z.i2c B dJ1_charAt_3b067_13 ?_
  refine Z.eqS (st' := [.int (nI 121)]) (by rw [show ((nI 121).toUInt32 % 65536).toInt32 = nI 121 from by decide]) ?_
  refine Z.iret B Rt dJ1_charAt_3b067_14 (ty := .char) rfl rfl (by decide) (by decide) ?_
  exact ⟨rfl, rfl⟩

theorem t_schar_2_2 {σ : zSt}  : Dt mJ0_charAt_5068e [.float 5, .int (nI 2)] σ (some (.int (nI 121))) σ := by
  refine Dt.of (by decide) (Nat.le_of_ble_eq_true rfl) fun κ B Rt => ?_
  show Z κ 0 0 σ 0 [(0, .float 5), (1, .int (nI 2))] []
  refine Z.aload_n B dJ0_charAt_5068e_0 (v := .float 5) rfl rfl ?_
  refine Z.callVC (σ := σ) B (M' := mJ0_isLatin1_aae02) (as := []) (st := []) (v := .int (nI 1)) (i := 2) rfl (by decide) dJ0_charAt_5068e_1 wJ0_isLatin1_aae02 rfl iJ0_isLatin1_aae02 sJ0_isLatin1_aae02 kJ0_492 t_latin_2 rfl rfl (by decide) (by decide) (Nat.le_of_ble_eq_true rfl) (by decide) (by decide) ?_
  refine Z.if_eqN B dJ0_charAt_5068e_4 (tgt := 16) rfl (by omega) (fun h4 => by exfalso; first | omega | contradiction | simp_all) (fun h4 => ?_)
  refine Z.aload_n B dJ0_charAt_5068e_7 (v := .float 5) rfl rfl ?_
  refine Z.strV B (i := 2) (y := 9) rfl rfl (by decide) (zT_at 1562 (by decide +kernel) rfl) dJ0_charAt_5068e_8 ?_
  refine Z.iload_n B dJ0_charAt_5068e_11 (x := nI 2) rfl ?_
  refine Z.callSI (σ := σ) B (M' := mJ1_charAt_3b067) (as := [.float 9, .int (nI 2)]) (st := []) (v := .int (nI 121)) dJ0_charAt_5068e_12 wJ1_charAt_3b067 iJ1_charAt_3b067 kJ0_495 (t_lchar_2_2 (σ := σ)) rfl rfl (by decide) (by decide) (Nat.le_of_ble_eq_true rfl) (by decide) (by decide) ?_
  refine Z.iret B Rt dJ0_charAt_5068e_15 (ty := .char) rfl rfl (by decide) (by decide) ?_
  exact ⟨rfl, rfl⟩

theorem t_lchar_3_0 {σ : zSt}  : Dt mJ1_charAt_3b067 [.float 10, .int (nI 0)] σ (some (.int (nI 99))) σ := by
  refine Dt.of (by decide) (Nat.le_of_ble_eq_true rfl) fun κ B Rt => ?_
  show Z κ 0 0 σ 0 [(0, .float 10), (1, .int (nI 0))] []
  refine Z.iload_n B dJ1_charAt_3b067_0 (x := nI 0) rfl ?_
  refine Z.aload_n B dJ1_charAt_3b067_1 (v := .float 10) rfl rfl ?_
  refine Z.cblen B (i := 3) rfl (by decide) dJ1_charAt_3b067_2 ?_
  show Z κ 0 0 σ 3 [(0, .float 10), (1, .int (nI 0))] [.int (nI 5), .int (nI 0)]
  refine Z.callSN (σ := σ) B (M' := mJ0_checkIndex_df160) (as := [.int (nI 0), .int (nI 5)]) (st := []) dJ1_charAt_3b067_3 wJ0_checkIndex_df160 iJ0_checkIndex_df160 kJ1_9 (t_scheck (σ := σ) (k := 0) (n := 5) (by decide) (by decide)) rfl rfl (by decide) (by decide) (Nat.le_of_ble_eq_true rfl) (by decide) (by decide) ?_
  refine Z.aload_n B dJ1_charAt_3b067_6 (v := .float 10) rfl rfl ?_
  refine Z.iload_n B dJ1_charAt_3b067_7 (x := nI 0) rfl ?_
  refine Z.cbld B (i := 3) (j := 0) (v := nI 99) rfl (by decide) dJ1_charAt_3b067_8 (by decide) (by decide) (by decide) ?_
  refine Z.sipush B dJ1_charAt_3b067_9 (v := nI 255) rfl ?_
  refine Z.iandv B dJ1_charAt_3b067_12 (v := nI 99) (by decide) ?_
  refine Z.i2c B dJ1_charAt_3b067_13 ?_
  refine Z.eqS (st' := [.int (nI 99)]) (by rw [show ((nI 99).toUInt32 % 65536).toInt32 = nI 99 from by decide]) ?_
  refine Z.iret B Rt dJ1_charAt_3b067_14 (ty := .char) rfl rfl (by decide) (by decide) ?_
  exact ⟨rfl, rfl⟩

theorem t_schar_3_0 {σ : zSt}  : Dt mJ0_charAt_5068e [.float 6, .int (nI 0)] σ (some (.int (nI 99))) σ := by
  refine Dt.of (by decide) (Nat.le_of_ble_eq_true rfl) fun κ B Rt => ?_
  show Z κ 0 0 σ 0 [(0, .float 6), (1, .int (nI 0))] []
  refine Z.aload_n B dJ0_charAt_5068e_0 (v := .float 6) rfl rfl ?_
  refine Z.callVC (σ := σ) B (M' := mJ0_isLatin1_aae02) (as := []) (st := []) (v := .int (nI 1)) (i := 3) rfl (by decide) dJ0_charAt_5068e_1 wJ0_isLatin1_aae02 rfl iJ0_isLatin1_aae02 sJ0_isLatin1_aae02 kJ0_492 t_latin_3 rfl rfl (by decide) (by decide) (Nat.le_of_ble_eq_true rfl) (by decide) (by decide) ?_
  refine Z.if_eqN B dJ0_charAt_5068e_4 (tgt := 16) rfl (by omega) (fun h4 => by exfalso; first | omega | contradiction | simp_all) (fun h4 => ?_)
  refine Z.aload_n B dJ0_charAt_5068e_7 (v := .float 6) rfl rfl ?_
  refine Z.strV B (i := 3) (y := 10) rfl rfl (by decide) (zT_at 1562 (by decide +kernel) rfl) dJ0_charAt_5068e_8 ?_
  refine Z.iload_n B dJ0_charAt_5068e_11 (x := nI 0) rfl ?_
  refine Z.callSI (σ := σ) B (M' := mJ1_charAt_3b067) (as := [.float 10, .int (nI 0)]) (st := []) (v := .int (nI 99)) dJ0_charAt_5068e_12 wJ1_charAt_3b067 iJ1_charAt_3b067 kJ0_495 (t_lchar_3_0 (σ := σ)) rfl rfl (by decide) (by decide) (Nat.le_of_ble_eq_true rfl) (by decide) (by decide) ?_
  refine Z.iret B Rt dJ0_charAt_5068e_15 (ty := .char) rfl rfl (by decide) (by decide) ?_
  exact ⟨rfl, rfl⟩

theorem t_lchar_3_1 {σ : zSt}  : Dt mJ1_charAt_3b067 [.float 10, .int (nI 1)] σ (some (.int (nI 104))) σ := by
  refine Dt.of (by decide) (Nat.le_of_ble_eq_true rfl) fun κ B Rt => ?_
  show Z κ 0 0 σ 0 [(0, .float 10), (1, .int (nI 1))] []
  refine Z.iload_n B dJ1_charAt_3b067_0 (x := nI 1) rfl ?_
  refine Z.aload_n B dJ1_charAt_3b067_1 (v := .float 10) rfl rfl ?_
  refine Z.cblen B (i := 3) rfl (by decide) dJ1_charAt_3b067_2 ?_
  show Z κ 0 0 σ 3 [(0, .float 10), (1, .int (nI 1))] [.int (nI 5), .int (nI 1)]
  refine Z.callSN (σ := σ) B (M' := mJ0_checkIndex_df160) (as := [.int (nI 1), .int (nI 5)]) (st := []) dJ1_charAt_3b067_3 wJ0_checkIndex_df160 iJ0_checkIndex_df160 kJ1_9 (t_scheck (σ := σ) (k := 1) (n := 5) (by decide) (by decide)) rfl rfl (by decide) (by decide) (Nat.le_of_ble_eq_true rfl) (by decide) (by decide) ?_
  refine Z.aload_n B dJ1_charAt_3b067_6 (v := .float 10) rfl rfl ?_
  refine Z.iload_n B dJ1_charAt_3b067_7 (x := nI 1) rfl ?_
  refine Z.cbld B (i := 3) (j := 1) (v := nI 104) rfl (by decide) dJ1_charAt_3b067_8 (by decide) (by decide) (by decide) ?_
  refine Z.sipush B dJ1_charAt_3b067_9 (v := nI 255) rfl ?_
  refine Z.iandv B dJ1_charAt_3b067_12 (v := nI 104) (by decide) ?_
  refine Z.i2c B dJ1_charAt_3b067_13 ?_
  refine Z.eqS (st' := [.int (nI 104)]) (by rw [show ((nI 104).toUInt32 % 65536).toInt32 = nI 104 from by decide]) ?_
  refine Z.iret B Rt dJ1_charAt_3b067_14 (ty := .char) rfl rfl (by decide) (by decide) ?_
  exact ⟨rfl, rfl⟩

theorem t_schar_3_1 {σ : zSt}  : Dt mJ0_charAt_5068e [.float 6, .int (nI 1)] σ (some (.int (nI 104))) σ := by
  refine Dt.of (by decide) (Nat.le_of_ble_eq_true rfl) fun κ B Rt => ?_
  show Z κ 0 0 σ 0 [(0, .float 6), (1, .int (nI 1))] []
  refine Z.aload_n B dJ0_charAt_5068e_0 (v := .float 6) rfl rfl ?_
  refine Z.callVC (σ := σ) B (M' := mJ0_isLatin1_aae02) (as := []) (st := []) (v := .int (nI 1)) (i := 3) rfl (by decide) dJ0_charAt_5068e_1 wJ0_isLatin1_aae02 rfl iJ0_isLatin1_aae02 sJ0_isLatin1_aae02 kJ0_492 t_latin_3 rfl rfl (by decide) (by decide) (Nat.le_of_ble_eq_true rfl) (by decide) (by decide) ?_
  refine Z.if_eqN B dJ0_charAt_5068e_4 (tgt := 16) rfl (by omega) (fun h4 => by exfalso; first | omega | contradiction | simp_all) (fun h4 => ?_)
  refine Z.aload_n B dJ0_charAt_5068e_7 (v := .float 6) rfl rfl ?_
  refine Z.strV B (i := 3) (y := 10) rfl rfl (by decide) (zT_at 1562 (by decide +kernel) rfl) dJ0_charAt_5068e_8 ?_
  refine Z.iload_n B dJ0_charAt_5068e_11 (x := nI 1) rfl ?_
  refine Z.callSI (σ := σ) B (M' := mJ1_charAt_3b067) (as := [.float 10, .int (nI 1)]) (st := []) (v := .int (nI 104)) dJ0_charAt_5068e_12 wJ1_charAt_3b067 iJ1_charAt_3b067 kJ0_495 (t_lchar_3_1 (σ := σ)) rfl rfl (by decide) (by decide) (Nat.le_of_ble_eq_true rfl) (by decide) (by decide) ?_
  refine Z.iret B Rt dJ0_charAt_5068e_15 (ty := .char) rfl rfl (by decide) (by decide) ?_
  exact ⟨rfl, rfl⟩

theorem t_lchar_3_2 {σ : zSt}  : Dt mJ1_charAt_3b067 [.float 10, .int (nI 2)] σ (some (.int (nI 105))) σ := by
  refine Dt.of (by decide) (Nat.le_of_ble_eq_true rfl) fun κ B Rt => ?_
  show Z κ 0 0 σ 0 [(0, .float 10), (1, .int (nI 2))] []
  refine Z.iload_n B dJ1_charAt_3b067_0 (x := nI 2) rfl ?_
  refine Z.aload_n B dJ1_charAt_3b067_1 (v := .float 10) rfl rfl ?_
  refine Z.cblen B (i := 3) rfl (by decide) dJ1_charAt_3b067_2 ?_
  show Z κ 0 0 σ 3 [(0, .float 10), (1, .int (nI 2))] [.int (nI 5), .int (nI 2)]
  refine Z.callSN (σ := σ) B (M' := mJ0_checkIndex_df160) (as := [.int (nI 2), .int (nI 5)]) (st := []) dJ1_charAt_3b067_3 wJ0_checkIndex_df160 iJ0_checkIndex_df160 kJ1_9 (t_scheck (σ := σ) (k := 2) (n := 5) (by decide) (by decide)) rfl rfl (by decide) (by decide) (Nat.le_of_ble_eq_true rfl) (by decide) (by decide) ?_
  refine Z.aload_n B dJ1_charAt_3b067_6 (v := .float 10) rfl rfl ?_
  refine Z.iload_n B dJ1_charAt_3b067_7 (x := nI 2) rfl ?_
  refine Z.cbld B (i := 3) (j := 2) (v := nI 105) rfl (by decide) dJ1_charAt_3b067_8 (by decide) (by decide) (by decide) ?_
  refine Z.sipush B dJ1_charAt_3b067_9 (v := nI 255) rfl ?_
  refine Z.iandv B dJ1_charAt_3b067_12 (v := nI 105) (by decide) ?_
  refine Z.i2c B dJ1_charAt_3b067_13 ?_
  refine Z.eqS (st' := [.int (nI 105)]) (by rw [show ((nI 105).toUInt32 % 65536).toInt32 = nI 105 from by decide]) ?_
  refine Z.iret B Rt dJ1_charAt_3b067_14 (ty := .char) rfl rfl (by decide) (by decide) ?_
  exact ⟨rfl, rfl⟩

theorem t_schar_3_2 {σ : zSt}  : Dt mJ0_charAt_5068e [.float 6, .int (nI 2)] σ (some (.int (nI 105))) σ := by
  refine Dt.of (by decide) (Nat.le_of_ble_eq_true rfl) fun κ B Rt => ?_
  show Z κ 0 0 σ 0 [(0, .float 6), (1, .int (nI 2))] []
  refine Z.aload_n B dJ0_charAt_5068e_0 (v := .float 6) rfl rfl ?_
  refine Z.callVC (σ := σ) B (M' := mJ0_isLatin1_aae02) (as := []) (st := []) (v := .int (nI 1)) (i := 3) rfl (by decide) dJ0_charAt_5068e_1 wJ0_isLatin1_aae02 rfl iJ0_isLatin1_aae02 sJ0_isLatin1_aae02 kJ0_492 t_latin_3 rfl rfl (by decide) (by decide) (Nat.le_of_ble_eq_true rfl) (by decide) (by decide) ?_
  refine Z.if_eqN B dJ0_charAt_5068e_4 (tgt := 16) rfl (by omega) (fun h4 => by exfalso; first | omega | contradiction | simp_all) (fun h4 => ?_)
  refine Z.aload_n B dJ0_charAt_5068e_7 (v := .float 6) rfl rfl ?_
  refine Z.strV B (i := 3) (y := 10) rfl rfl (by decide) (zT_at 1562 (by decide +kernel) rfl) dJ0_charAt_5068e_8 ?_
  refine Z.iload_n B dJ0_charAt_5068e_11 (x := nI 2) rfl ?_
  refine Z.callSI (σ := σ) B (M' := mJ1_charAt_3b067) (as := [.float 10, .int (nI 2)]) (st := []) (v := .int (nI 105)) dJ0_charAt_5068e_12 wJ1_charAt_3b067 iJ1_charAt_3b067 kJ0_495 (t_lchar_3_2 (σ := σ)) rfl rfl (by decide) (by decide) (Nat.le_of_ble_eq_true rfl) (by decide) (by decide) ?_
  refine Z.iret B Rt dJ0_charAt_5068e_15 (ty := .char) rfl rfl (by decide) (by decide) ?_
  exact ⟨rfl, rfl⟩

theorem t_lchar_3_3 {σ : zSt}  : Dt mJ1_charAt_3b067 [.float 10, .int (nI 3)] σ (some (.int (nI 101))) σ := by
  refine Dt.of (by decide) (Nat.le_of_ble_eq_true rfl) fun κ B Rt => ?_
  show Z κ 0 0 σ 0 [(0, .float 10), (1, .int (nI 3))] []
  refine Z.iload_n B dJ1_charAt_3b067_0 (x := nI 3) rfl ?_
  refine Z.aload_n B dJ1_charAt_3b067_1 (v := .float 10) rfl rfl ?_
  refine Z.cblen B (i := 3) rfl (by decide) dJ1_charAt_3b067_2 ?_
  show Z κ 0 0 σ 3 [(0, .float 10), (1, .int (nI 3))] [.int (nI 5), .int (nI 3)]
  refine Z.callSN (σ := σ) B (M' := mJ0_checkIndex_df160) (as := [.int (nI 3), .int (nI 5)]) (st := []) dJ1_charAt_3b067_3 wJ0_checkIndex_df160 iJ0_checkIndex_df160 kJ1_9 (t_scheck (σ := σ) (k := 3) (n := 5) (by decide) (by decide)) rfl rfl (by decide) (by decide) (Nat.le_of_ble_eq_true rfl) (by decide) (by decide) ?_
  refine Z.aload_n B dJ1_charAt_3b067_6 (v := .float 10) rfl rfl ?_
  refine Z.iload_n B dJ1_charAt_3b067_7 (x := nI 3) rfl ?_
  refine Z.cbld B (i := 3) (j := 3) (v := nI 101) rfl (by decide) dJ1_charAt_3b067_8 (by decide) (by decide) (by decide) ?_
  refine Z.sipush B dJ1_charAt_3b067_9 (v := nI 255) rfl ?_
  refine Z.iandv B dJ1_charAt_3b067_12 (v := nI 101) (by decide) ?_
  refine Z.i2c B dJ1_charAt_3b067_13 ?_
  refine Z.eqS (st' := [.int (nI 101)]) (by rw [show ((nI 101).toUInt32 % 65536).toInt32 = nI 101 from by decide]) ?_
  refine Z.iret B Rt dJ1_charAt_3b067_14 (ty := .char) rfl rfl (by decide) (by decide) ?_
  exact ⟨rfl, rfl⟩

theorem t_schar_3_3 {σ : zSt}  : Dt mJ0_charAt_5068e [.float 6, .int (nI 3)] σ (some (.int (nI 101))) σ := by
  refine Dt.of (by decide) (Nat.le_of_ble_eq_true rfl) fun κ B Rt => ?_
  show Z κ 0 0 σ 0 [(0, .float 6), (1, .int (nI 3))] []
  refine Z.aload_n B dJ0_charAt_5068e_0 (v := .float 6) rfl rfl ?_
  refine Z.callVC (σ := σ) B (M' := mJ0_isLatin1_aae02) (as := []) (st := []) (v := .int (nI 1)) (i := 3) rfl (by decide) dJ0_charAt_5068e_1 wJ0_isLatin1_aae02 rfl iJ0_isLatin1_aae02 sJ0_isLatin1_aae02 kJ0_492 t_latin_3 rfl rfl (by decide) (by decide) (Nat.le_of_ble_eq_true rfl) (by decide) (by decide) ?_
  refine Z.if_eqN B dJ0_charAt_5068e_4 (tgt := 16) rfl (by omega) (fun h4 => by exfalso; first | omega | contradiction | simp_all) (fun h4 => ?_)
  refine Z.aload_n B dJ0_charAt_5068e_7 (v := .float 6) rfl rfl ?_
  refine Z.strV B (i := 3) (y := 10) rfl rfl (by decide) (zT_at 1562 (by decide +kernel) rfl) dJ0_charAt_5068e_8 ?_
  refine Z.iload_n B dJ0_charAt_5068e_11 (x := nI 3) rfl ?_
  refine Z.callSI (σ := σ) B (M' := mJ1_charAt_3b067) (as := [.float 10, .int (nI 3)]) (st := []) (v := .int (nI 101)) dJ0_charAt_5068e_12 wJ1_charAt_3b067 iJ1_charAt_3b067 kJ0_495 (t_lchar_3_3 (σ := σ)) rfl rfl (by decide) (by decide) (Nat.le_of_ble_eq_true rfl) (by decide) (by decide) ?_
  refine Z.iret B Rt dJ0_charAt_5068e_15 (ty := .char) rfl rfl (by decide) (by decide) ?_
  exact ⟨rfl, rfl⟩

theorem t_lchar_3_4 {σ : zSt}  : Dt mJ1_charAt_3b067 [.float 10, .int (nI 4)] σ (some (.int (nI 102))) σ := by
  refine Dt.of (by decide) (Nat.le_of_ble_eq_true rfl) fun κ B Rt => ?_
  show Z κ 0 0 σ 0 [(0, .float 10), (1, .int (nI 4))] []
  refine Z.iload_n B dJ1_charAt_3b067_0 (x := nI 4) rfl ?_
  refine Z.aload_n B dJ1_charAt_3b067_1 (v := .float 10) rfl rfl ?_
  refine Z.cblen B (i := 3) rfl (by decide) dJ1_charAt_3b067_2 ?_
  show Z κ 0 0 σ 3 [(0, .float 10), (1, .int (nI 4))] [.int (nI 5), .int (nI 4)]
  refine Z.callSN (σ := σ) B (M' := mJ0_checkIndex_df160) (as := [.int (nI 4), .int (nI 5)]) (st := []) dJ1_charAt_3b067_3 wJ0_checkIndex_df160 iJ0_checkIndex_df160 kJ1_9 (t_scheck (σ := σ) (k := 4) (n := 5) (by decide) (by decide)) rfl rfl (by decide) (by decide) (Nat.le_of_ble_eq_true rfl) (by decide) (by decide) ?_
  refine Z.aload_n B dJ1_charAt_3b067_6 (v := .float 10) rfl rfl ?_
  refine Z.iload_n B dJ1_charAt_3b067_7 (x := nI 4) rfl ?_
  refine Z.cbld B (i := 3) (j := 4) (v := nI 102) rfl (by decide) dJ1_charAt_3b067_8 (by decide) (by decide) (by decide) ?_
  refine Z.sipush B dJ1_charAt_3b067_9 (v := nI 255) rfl ?_
  refine Z.iandv B dJ1_charAt_3b067_12 (v := nI 102) (by decide) ?_
  refine Z.i2c B dJ1_charAt_3b067_13 ?_
  refine Z.eqS (st' := [.int (nI 102)]) (by rw [show ((nI 102).toUInt32 % 65536).toInt32 = nI 102 from by decide]) ?_
  refine Z.iret B Rt dJ1_charAt_3b067_14 (ty := .char) rfl rfl (by decide) (by decide) ?_
  exact ⟨rfl, rfl⟩

theorem t_schar_3_4 {σ : zSt}  : Dt mJ0_charAt_5068e [.float 6, .int (nI 4)] σ (some (.int (nI 102))) σ := by
  refine Dt.of (by decide) (Nat.le_of_ble_eq_true rfl) fun κ B Rt => ?_
  show Z κ 0 0 σ 0 [(0, .float 6), (1, .int (nI 4))] []
  refine Z.aload_n B dJ0_charAt_5068e_0 (v := .float 6) rfl rfl ?_
  refine Z.callVC (σ := σ) B (M' := mJ0_isLatin1_aae02) (as := []) (st := []) (v := .int (nI 1)) (i := 3) rfl (by decide) dJ0_charAt_5068e_1 wJ0_isLatin1_aae02 rfl iJ0_isLatin1_aae02 sJ0_isLatin1_aae02 kJ0_492 t_latin_3 rfl rfl (by decide) (by decide) (Nat.le_of_ble_eq_true rfl) (by decide) (by decide) ?_
  refine Z.if_eqN B dJ0_charAt_5068e_4 (tgt := 16) rfl (by omega) (fun h4 => by exfalso; first | omega | contradiction | simp_all) (fun h4 => ?_)
  refine Z.aload_n B dJ0_charAt_5068e_7 (v := .float 6) rfl rfl ?_
  refine Z.strV B (i := 3) (y := 10) rfl rfl (by decide) (zT_at 1562 (by decide +kernel) rfl) dJ0_charAt_5068e_8 ?_
  refine Z.iload_n B dJ0_charAt_5068e_11 (x := nI 4) rfl ?_
  refine Z.callSI (σ := σ) B (M' := mJ1_charAt_3b067) (as := [.float 10, .int (nI 4)]) (st := []) (v := .int (nI 102)) dJ0_charAt_5068e_12 wJ1_charAt_3b067 iJ1_charAt_3b067 kJ0_495 (t_lchar_3_4 (σ := σ)) rfl rfl (by decide) (by decide) (Nat.le_of_ble_eq_true rfl) (by decide) (by decide) ?_
  refine Z.iret B Rt dJ0_charAt_5068e_15 (ty := .char) rfl rfl (by decide) (by decide) ?_
  exact ⟨rfl, rfl⟩
