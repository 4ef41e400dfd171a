/-! rules: copies, constants, the greater of two, the stores of references, Object's constructor -/
theorem zuX_uX {σ : zSt} {k : Nat} {f g : Nat → Int32} : zuX (zuX σ k f) k g = zuX σ k g := by
  unfold zuX
  have : zfu (zfu σ.2.2.2.1 k f) k g = zfu σ.2.2.2.1 k g := by
    funext j
    simp only [zfu]
    cases Nat.beq j k <;> rfl
  rw [this]
theorem zuY_uY {σ : zSt} {k : Nat} {f g : Nat → Int64} : zuY (zuY σ k f) k g = zuY σ k g := by
  unfold zuY
  have : zfu (zfu σ.2.2.2.2.1 k f) k g = zfu σ.2.2.2.2.1 k g := by
    funext j
    simp only [zfu]
    cases Nat.beq j k <;> rfl
  rw [this]
theorem zuR_uR {σ : zSt} {k : Nat} {f g : Nat → Option Nat} : zuR (zuR σ k f) k g = zuR σ k g := by
  unfold zuR
  have : zfu (zfu σ.2.2.2.2.2 k f) k g = zfu σ.2.2.2.2.2 k g := by
    funext j
    simp only [zfu]
    cases Nat.beq j k <;> rfl
  rw [this]
theorem zac_w : Cond.native arraycopyName ∈ zT ∧ Cond.static arraycopyName ∈ zT ∧ Cond.initialized "java/lang/System" ∈ zT := ⟨zT_at 282 (by decide +kernel) rfl, zT_at 281 (by decide +kernel) rfl, zT_at 70 (by decide +kernel) rfl⟩
theorem zoi_w : Cond.instanceMethod Lib.objectInit ∈ zT ∧ Cond.code Lib.objectInit ⟨#[0xb1]⟩ 1 none ∈ zT := ⟨zT_at 88 (by decide +kernel) rfl, zT_at 89 (by decide +kernel) rfl⟩
theorem zmm_w : Cond.static Lib.Math.max.name ∈ zT ∧ Cond.initialized "java/lang/Math" ∈ zT ∧ Cond.code Lib.Math.max.name Lib.Math.max.code 2 (some .int) ∈ zT := ⟨zT_at 234 (by decide +kernel) rfl, zT_at 68 (by decide +kernel) rfl, zT_at 235 (by decide +kernel) rfl⟩
theorem zmi_w : Cond.static Lib.Math.min.name ∈ zT ∧ Cond.initialized "java/lang/Math" ∈ zT ∧ Cond.code Lib.Math.min.name Lib.Math.min.code 2 (some .int) ∈ zT := ⟨zT_at 231 (by decide +kernel) rfl, zT_at 68 (by decide +kernel) rfl, zT_at 232 (by decide +kernel) rfl⟩
section
variable {M : zM} {κ : zCtx} {u w : Nat} {σ τ : zSt} {pc k k2 : Nat} {L : List (Nat × Value)} {st : List Value}

def zrm1 (M : zM) (n : Nat) : Bool := Nat.ble 1 M.2.2.2.2.1 && Nat.ble n M.2.2.2.2.2.1
theorem zrm1_f {n : Nat} (h : zrm1 M n = true) : 1 ≤ (zRm M).frames := Nat.le_of_ble_eq_true ((Bool.and_eq_true _ _).mp h).1
theorem zrm1_l {n : Nat} (h : zrm1 M n = true) : n ≤ (zRm M).locals := Nat.le_of_ble_eq_true ((Bool.and_eq_true _ _).mp h).2
theorem Z.objInit (B : zB M κ) {idx : Nat} (hd : decode M.2.1 pc = .ok (.invokespecial idx, 3)) (hlk : Cond.methodLink M.1.cls idx Lib.objectInit ∈ zT) (hrm : zrm1 M 20 = true) (hcat : (st.map fun v => v.category).sum ≤ 8) (kk : Z κ u w σ (pc + 3) L st) : Z κ u w σ pc L (.ref k :: st) := by
  obtain ⟨p, l, e, R, s, m, args, below, meth, c, E, A, ad0, n0, Q⟩ := κ
  obtain ⟨hx, hb, hml, hown, hts, hr, hlck, hnm, hR, hK, hF, hA⟩ := B
  intro ad H locs ls hw ha hS hl
  refine W.objInit (g := F0 m pc ls (.ref (ad k) :: st.map (zc E ad))) (rest := st.map (zc E ad)) hx hb hown (hts _ hlk) (hts _ zoi_w.1) (hts _ zoi_w.2) rfl hl.1 rfl hd (by rw [hR]; exact zrm1_f hrm) ?_ (kk ad H locs ls hw ha hS hl)
  rw [zcats hF.1]
  have := zrm1_l hrm
  rw [hR]
  show 2 * 0 + _ + 12 ≤ _
  omega
theorem Z.copyI (B : zB M κ) {idx sp dp n n1 n2 : Nat} (hd : decode M.2.1 pc = .ok (.invokestatic idx, 3)) (hlk : Cond.methodLink M.1.cls idx arraycopyName ∈ zT) (hrm : zrm1 M 30 = true) (hcat : (st.map fun v => v.category).sum ≤ 8)
    (hk : k < zN σ) (hKd : zK σ k = 13) (hn1 : zL σ k = n1) (hk2 : k2 < zN σ) (hKd2 : zK σ k2 = 13) (hn2 : zL σ k2 = n2) (h1 : sp + n ≤ n1) (h2 : dp + n ≤ n2) (h31 : n1 < 2 ^ 31) (h32 : n2 < 2 ^ 31) (hτ : zuX σ k2 (va_cpy (zX σ k) (zX σ k2) sp dp n) = τ)
    (kk : Z κ u w τ (pc + 3) L st) : Z κ u w σ pc L (.int (nI n) :: .int (nI dp) :: .ref k2 :: .int (nI sp) :: .ref k :: st) := by
  subst hτ; subst hn1; subst hn2
  obtain ⟨p, l, e, R, s, m, args, below, meth, c, E, A, ad0, n0, Q⟩ := κ
  obtain ⟨hx, hb, hml, hown, hts, hr, hlck, hnm, hR, hK, hF, hA⟩ := B
  intro ad H locs ls hw ha hS hl
  refine va_copyi hx hb (by rw [hl.1, hml]) hown (hts _ hlk) (hts _ zac_w.1) (hts _ zac_w.2.1) (hts _ zac_w.2.2) hK hw.1 hw.2 hS k k2 0 0 ((zWs_get hk).trans (by rw [zE_I hKd])) ((zWs_get hk2).trans (by rw [zE_I hKd2])) rfl rfl rfl (nI_pos (by omega)) (nI_pos (by omega)) (nI_pos (by omega)) (by rw [nI_clamp (by omega), nI_clamp (by omega)]; exact h1) (by rw [nI_clamp (by omega), nI_clamp (by omega)]; exact h2) (fun _ _ => rfl) (by rw [hR]; exact zrm1_f hrm) ?_ hd fun H1 locs1 hP1 hD1 hS1 => ?_
  · rw [zcats hF.1, hR]
    have := zrm1_l hrm
    have e : nativeFrameWords "java/lang/System" "arraycopy" 5 + 11 ≤ 22 := by decide +kernel
    omega
  rw [nI_clamp (by omega), nI_clamp (by omega), nI_clamp (by omega)] at hP1 hD1
  have e : (zWs E ad σ).set k2 (ad k2, .inl (E.2.1.1, zL σ k2, .inl (va_cpy (zX σ k) (zX σ k2) sp dp n))) = zWs E ad (zuX σ k2 (va_cpy (zX σ k) (zX σ k2) sp dp n)) := zWs_set rfl (by rw [zE_I (σ := zuX σ k2 (va_cpy (zX σ k) (zX σ k2) sp dp n)) hKd2, zX_self]; rfl) (fun j hj => zE_uX hj)
  rw [e] at hP1 hD1
  exact kk ad H1 locs1 ls ⟨hP1, hD1⟩ ha hS1 hl
theorem Z.copyL (B : zB M κ) {idx sp dp n n1 n2 : Nat} (hd : decode M.2.1 pc = .ok (.invokestatic idx, 3)) (hlk : Cond.methodLink M.1.cls idx arraycopyName ∈ zT) (hrm : zrm1 M 30 = true) (hcat : (st.map fun v => v.category).sum ≤ 8)
    (hk : k < zN σ) (hKd : zK σ k = 14) (hn1 : zL σ k = n1) (hk2 : k2 < zN σ) (hKd2 : zK σ k2 = 14) (hn2 : zL σ k2 = n2) (h1 : sp + n ≤ n1) (h2 : dp + n ≤ n2) (h31 : n1 < 2 ^ 31) (h32 : n2 < 2 ^ 31) (hτ : zuY σ k2 (va_cpy (zY σ k) (zY σ k2) sp dp n) = τ)
    (kk : Z κ u w τ (pc + 3) L st) : Z κ u w σ pc L (.int (nI n) :: .int (nI dp) :: .ref k2 :: .int (nI sp) :: .ref k :: st) := by
  subst hτ; subst hn1; subst hn2
  obtain ⟨p, l, e, R, s, m, args, below, meth, c, E, A, ad0, n0, Q⟩ := κ
  obtain ⟨hx, hb, hml, hown, hts, hr, hlck, hnm, hR, hK, hF, hA⟩ := B
  intro ad H locs ls hw ha hS hl
  refine va_copyl hx hb (by rw [hl.1, hml]) hown (hts _ hlk) (hts _ zac_w.1) (hts _ zac_w.2.1) (hts _ zac_w.2.2) hK hw.1 hw.2 hS k k2 1 1 ((zWs_get hk).trans (by rw [zE_J hKd])) ((zWs_get hk2).trans (by rw [zE_J hKd2])) rfl rfl rfl (nI_pos (by omega)) (nI_pos (by omega)) (nI_pos (by omega)) (by rw [nI_clamp (by omega), nI_clamp (by omega)]; exact h1) (by rw [nI_clamp (by omega), nI_clamp (by omega)]; exact h2) (fun _ _ => rfl) (by rw [hR]; exact zrm1_f hrm) ?_ hd fun H1 locs1 hP1 hD1 hS1 => ?_
  · rw [zcats hF.1, hR]
    have := zrm1_l hrm
    have e : nativeFrameWords "java/lang/System" "arraycopy" 5 + 11 ≤ 22 := by decide +kernel
    omega
  rw [nI_clamp (by omega), nI_clamp (by omega), nI_clamp (by omega)] at hP1 hD1
  have e : (zWs E ad σ).set k2 (ad k2, .inl (E.2.1.2.1, zL σ k2, .inr (.inl  (va_cpy (zY σ k) (zY σ k2) sp dp n)))) = zWs E ad (zuY σ k2 (va_cpy (zY σ k) (zY σ k2) sp dp n)) := zWs_set rfl (by rw [zE_J (σ := zuY σ k2 (va_cpy (zY σ k) (zY σ k2) sp dp n)) hKd2, zY_self]; rfl) (fun j hj => zE_uY hj)
  rw [e] at hP1 hD1
  exact kk ad H1 locs1 ls ⟨hP1, hD1⟩ ha hS1 hl
theorem Z.mmax (B : zB M κ) {idx : Nat} {x y v : Int32} (hd : decode M.2.1 pc = .ok (.invokestatic idx, 3)) (hlk : Cond.methodLink M.1.cls idx Lib.Math.max.name ∈ zT) (hrm : zrm1 M 24 = true) (hcat : (st.map fun v => v.category).sum ≤ 8) (hu : u ≤ zcells M) (hw : w ≤ zslots M) (hv : (if x < y then y else x) = v)
    (kk : Z κ u w σ (pc + 3) L (.int v :: st)) : Z κ u w σ pc L (.int y :: .int x :: st) := by
  obtain ⟨p, l, e, R, s, m, args, below, meth, c, E, A, ad0, n0, Q⟩ := κ
  obtain ⟨hx, hb, hml, hown, hts, hr, hlck, hnm, hR, hK, hF, hA⟩ := B
  intro ad H locs ls hwd ha hS hl
  refine va_mmax hx hb (by rw [hl.1, hml]) hown (hts _ hlk) (hts _ zmm_w.1) (hts _ zmm_w.2.1) (hts _ zmm_w.2.2) (by rw [hR]; exact zrm1_f hrm) ?_ (by rw [hR]; exact hu) (by rw [hR]; exact hw) hd (by rw [hv]; exact kk ad H locs ls hwd ha hS hl)
  rw [zcats hF.1, hR]
  have := zrm1_l hrm
  omega
theorem Z.mmin (B : zB M κ) {idx : Nat} {x y v : Int32} (hd : decode M.2.1 pc = .ok (.invokestatic idx, 3)) (hlk : Cond.methodLink M.1.cls idx Lib.Math.min.name ∈ zT) (hrm : zrm1 M 24 = true) (hcat : (st.map fun v => v.category).sum ≤ 8) (hu : u ≤ zcells M) (hw : w ≤ zslots M) (hv : (if y < x then y else x) = v)
    (kk : Z κ u w σ (pc + 3) L (.int v :: st)) : Z κ u w σ pc L (.int y :: .int x :: st) := by
  obtain ⟨p, l, e, R, s, m, args, below, meth, c, E, A, ad0, n0, Q⟩ := κ
  obtain ⟨hx, hb, hml, hown, hts, hr, hlck, hnm, hR, hK, hF, hA⟩ := B
  intro ad H locs ls hwd ha hS hl
  refine va_mmin hx hb (by rw [hl.1, hml]) hown (hts _ hlk) (hts _ zmi_w.1) (hts _ zmi_w.2.1) (hts _ zmi_w.2.2) (by rw [hR]; exact zrm1_f hrm) ?_ (by rw [hR]; exact hu) (by rw [hR]; exact hw) hd (by rw [hv]; exact kk ad H locs ls hwd ha hS hl)
  rw [zcats hF.1, hR]
  have := zrm1_l hrm
  omega
def zKon (j : Nat) (C n d : String) : Prop := ∀ E A U H, zSF E A U H → va_Z C n d (E.2.2 j) A U H
def zKt (j N : Nat) (f : Nat → Int32) : Prop := ∀ E A U H, zSF E A U H → ∃ t, E.2.2 j = .ref t ∧ va_T .int t N (fun i => .int (f i)) A U H
theorem zKon0 : zKon 0 "FourAskOne" "MOST_OF_COMER" "[I" := fun E A U H h => by obtain ⟨t, h1, h2, h3⟩ := h.2.1; rw [h1]; exact h2
theorem zKon1 : zKon 1 "FourAskOne" "MOST_OF_ASKER" "[I" := fun E A U H h => by obtain ⟨t, h1, h2, h3⟩ := h.2.2.1; rw [h1]; exact h2
theorem zKon2 : zKon 2 "FourAskOne" "MOST_OF_WAY" "[I" := fun E A U H h => by obtain ⟨t, h1, h2, h3⟩ := h.2.2.2.1; rw [h1]; exact h2
theorem zKt0 : zKt 0 6 zA0 := fun E A U H h => by obtain ⟨t, h1, h2, h3⟩ := h.2.1; exact ⟨t, h1, h3⟩
theorem zKt1 : zKt 1 3 zA1 := fun E A U H h => by obtain ⟨t, h1, h2, h3⟩ := h.2.2.1; exact ⟨t, h1, h3⟩
theorem zKt2 : zKt 2 2 zA2 := fun E A U H h => by obtain ⟨t, h1, h2, h3⟩ := h.2.2.2.1; exact ⟨t, h1, h3⟩
theorem Z.gets (B : zB M κ) {idx : Nat} {x : UInt32} {C n d : String} (hkn : zKon x.toNat C n d) (hlk : Cond.fieldLink M.1.cls idx C n d ∈ zT) (hd : decode M.2.1 pc = .ok (.getstatic idx, 3)) (kk : Z κ u w σ (pc + 3) L (.float x :: st)) : Z κ u w σ pc L st := by
  obtain ⟨p, l, e, R, s, m, args, below, meth, c, E, A, ad0, n0, Q⟩ := κ
  obtain ⟨hx, hb, hml, hown, hts, hr, hlck, hnm, hR, hK, hF, hA⟩ := B
  intro ad H locs ls hw ha hS hl
  exact va_gets hx hb (hkn E A s s.heap hF) hS hown (hts _ hlk) (fun _ h => h) hd (kk ad H locs ls hw ha hS hl)
theorem Z.getsN (B : zB M κ) {idx : Nat} {x : UInt32} {n d : String} (hkn : zKon x.toNat "FourAskOne" n d) (hlk : (M.1.cls, idx, n, d) ∈ zNe) (hd : decode M.2.1 pc = .ok (.getstatic idx, 3)) (kk : Z κ u w σ (pc + 3) L (.float x :: st)) : Z κ u w σ pc L st := by
  obtain ⟨p, l, e, R, s, m, args, below, meth, c, E, A, ad0, n0, Q⟩ := κ
  obtain ⟨hx, hb, hml, hown, hts, hr, hlck, hnm, hR, hK, hF, hA⟩ := B
  intro ad H locs ls hw ha hS hl
  exact va_getsN hx hb (hkn E A s s.heap hF) hS hown ((hF.2.2.2.2.2.2.2.2.2.1 _ hlk).use rfl) (fun _ h => h) hd (kk ad H locs ls hw ha hS hl)
theorem Z.cld (B : zB M κ) {x : UInt32} {N j : Nat} {f : Nat → Int32} {v : Int32} (hkt : zKt x.toNat N f) (hd : decode M.2.1 pc = .ok (.iaload, 1)) (h31 : N < 2 ^ 31) (hlt : j < N) (hv : f j = v) (kk : Z κ u w σ (pc + 1) L (.int v :: st)) : Z κ u w σ pc L (.int (nI j) :: .float x :: st) := by
  obtain ⟨p, l, e, R, s, m, args, below, meth, c, E, A, ad0, n0, Q⟩ := κ
  obtain ⟨hx, hb, hml, hown, hts, hr, hlk, hnm, hR, hK, hF, hA⟩ := B
  intro ad H locs ls hw ha hS hl
  obtain ⟨t, h1, h2⟩ := hkt E A s s.heap hF
  have e : (Value.int (nI j) :: .float x :: st).map (zc E ad) = .int (nI j) :: .ref t :: st.map (zc E ad) := by
    show _ :: E.2.2 x.toNat :: _ = _
    rw [h1]; rfl
  rw [e]
  exact va_ti hx hb h2 hS (vp_in_nI hlt h31) (by rw [nI_clamp (by omega), hv]; rfl) hd (kk ad H locs ls hw ha hS hl)
theorem Z.clen (B : zB M κ) {x : UInt32} {N : Nat} {f : Nat → Int32} (hkt : zKt x.toNat N f) (hd : decode M.2.1 pc = .ok (.arraylength, 1)) (kk : Z κ u w σ (pc + 1) L (.int (nI N) :: st)) : Z κ u w σ pc L (.float x :: st) := by
  obtain ⟨p, l, e, R, s, m, args, below, meth, c, E, A, ad0, n0, Q⟩ := κ
  obtain ⟨hx, hb, hml, hown, hts, hr, hlk, hnm, hR, hK, hF, hA⟩ := B
  intro ad H locs ls hw ha hS hl
  obtain ⟨t, h1, h2⟩ := hkt E A s s.heap hF
  have e : (Value.float x :: st).map (zc E ad) = .ref t :: st.map (zc E ad) := by
    show E.2.2 x.toNat :: _ = _
    rw [h1]
  rw [e]
  exact va_tlen hx hb h2 hS rfl hd (kk ad H locs ls hw ha hS hl)
def zIsW (ci : Nat) : Prop := ci = 9 ∨ ci = 7 ∨ ci = 4 ∨ ci = 10 ∨ ci = 3 ∨ ci = 5 ∨ ci = 0
theorem zIsW.c {ci : Nat} (h : zIsW ci) : ∃ q, vwCl[ci]? = some q ∧ (q.1 = "FourAskOne$Way" ∨ (q.1, "FourAskOne$Way") ∈ zCa) := by
  rcases h with rfl | rfl | rfl | rfl | rfl | rfl | rfl
  · exact ⟨_, rfl, Or.inl rfl⟩
  · exact ⟨_, rfl, Or.inr (by decide +kernel)⟩
  · exact ⟨_, rfl, Or.inr (by decide +kernel)⟩
  · exact ⟨_, rfl, Or.inr (by decide +kernel)⟩
  · exact ⟨_, rfl, Or.inr (by decide +kernel)⟩
  · exact ⟨_, rfl, Or.inr (by decide +kernel)⟩
  · exact ⟨_, rfl, Or.inr (by decide +kernel)⟩
theorem zIsW.lt {ci : Nat} (h : zIsW ci) : ci < 13 := by unfold zIsW at h; omega
theorem zAny {E : zEnv} {ad : Nat → Nat} {σ : zSt} {s : State} {H : Heap} {q ci : Nat} (hK : va_K E.1 vwCl (zTys E) s) (hN : zNws s) (hP : va_P E.1 vwCl (zWs E ad σ) H) (hqn : q < zN σ) (hqk : zK σ q = ci) (hci : zIsW ci) : va_Any "FourAskOne$Way" s H (ad q) := by
  obtain ⟨r, hr, hc⟩ := hci.c
  refine va_rAny hK hP ((zWs_get hqn).trans (by rw [zE_O hqk hci.lt])) hr ?_
  rcases hc with hc | hc
  · rw [hc]; exact vb_asgS
  · exact vb_asgC (hN.1 _ hc)
theorem zE_uRn {E : zEnv} {ad : Nat → Nat} {σ : zSt} {k j : Nat} {f : Nat → Option Nat} (h : j ≠ k) : zE E ad (zuR σ k f) j = zE E ad σ j := zE_uR h
theorem zup_map {ad : Nat → Nat} {f : Nat → Option Nat} {j : Nat} {r : Option Nat} : va_up (fun i => (f i).map ad) j (r.map ad) = fun i => (va_up f j r i).map ad := by
  funext i
  simp only [va_up]
  split <;> rfl
/-- a way into an array of ways -/
theorem Z.astY (B : zB M κ) {i : Int32} {j n q : Nat} (hd : decode M.2.1 pc = .ok (.aastore, 1)) (hk : k < zN σ) (hKd : zK σ k = 16) (hn : zL σ k = n) (h31 : n < 2 ^ 31) (hj : i = nI j) (hlt : j < n) (hqn : q < zN σ) {ci : Nat} (hqk : zK σ q = ci) (hci : zIsW ci) (hτ : zuR σ k (va_up (zR σ k) j (some q)) = τ) (kk : Z κ u w τ (pc + 1) L st) : Z κ u w σ pc L (.ref q :: .int i :: .ref k :: st) := by
  subst hj; subst hτ
  obtain ⟨p, l, e, R, s, m, args, below, meth, c, E, A, ad0, n0, Q⟩ := κ
  obtain ⟨hx, hb, hml, hown, hts, hr, hlk, hnm, hR, hK, hF, hA⟩ := B
  intro ad H locs ls hw ha hS hl
  refine va_astqM hx hb hK hw.1 hw.2 hS k 3 ((zWs_get hk).trans (by rw [zE_Y hKd])) rfl (zAny hK hF.2.2.2.2.2.2.2 hw.1 hqn hqk hci) (by rw [hn]; exact vp_in_nI hlt h31) hd fun H1 locs1 hP1 hD1 hS1 => ?_
  rw [nI_clamp (by omega)] at hP1 hD1
  have e : (zWs E ad σ).set k (ad k, .inl (E.2.1.2.2.2, zL σ k, .inr (.inr (.inr (.inr (va_up (fun i => (zR σ k i).map ad) j (some (ad q)))))))) = zWs E ad (zuR σ k (va_up (zR σ k) j (some q))) := zWs_set rfl (by rw [zE_Y (σ := zuR σ k (va_up (zR σ k) j (some q))) hKd, zR_self, ← zup_map]; rfl) (fun j hj => zE_uR hj)
  rw [e] at hP1 hD1
  exact kk ad H1 locs1 ls ⟨hP1, hD1⟩ ha hS1 hl
theorem Z.astN (B : zB M κ) {i : Int32} {j n : Nat} (hd : decode M.2.1 pc = .ok (.aastore, 1)) (hk : k < zN σ) (hKd : zK σ k = 16) (hn : zL σ k = n) (h31 : n < 2 ^ 31) (hj : i = nI j) (hlt : j < n) (hτ : zuR σ k (va_up (zR σ k) j none) = τ) (kk : Z κ u w τ (pc + 1) L st) : Z κ u w σ pc L (.null :: .int i :: .ref k :: st) := by
  subst hj; subst hτ
  obtain ⟨p, l, e, R, s, m, args, below, meth, c, E, A, ad0, n0, Q⟩ := κ
  obtain ⟨hx, hb, hml, hown, hts, hr, hlk, hnm, hR, hK, hF, hA⟩ := B
  intro ad H locs ls hw ha hS hl
  refine va_astqN hx hb hK hw.1 hw.2 hS k 3 ((zWs_get hk).trans (by rw [zE_Y hKd])) rfl (by rw [hn]; exact vp_in_nI hlt h31) hd fun H1 locs1 hP1 hD1 hS1 => ?_
  rw [nI_clamp (by omega)] at hP1 hD1
  have e : (zWs E ad σ).set k (ad k, .inl (E.2.1.2.2.2, zL σ k, .inr (.inr (.inr (.inr (va_up (fun i => (zR σ k i).map ad) j none)))))) = zWs E ad (zuR σ k (va_up (zR σ k) j none)) := zWs_set rfl (by rw [zE_Y (σ := zuR σ k (va_up (zR σ k) j none)) hKd, zR_self, ← zup_map]; rfl) (fun j hj => zE_uR hj)
  rw [e] at hP1 hD1
  exact kk ad H1 locs1 ls ⟨hP1, hD1⟩ ha hS1 hl
end
