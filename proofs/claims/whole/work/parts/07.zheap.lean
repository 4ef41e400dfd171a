
/-! the classes' own words and types -/
def zUok (ci : Nat) : Bool := match vwCl[ci]? with
  | some q => (u_ws q.1 q.2.1 q.2.2).all (fun w => decide (w ∈ zT))
  | none => true
theorem zU_all : (List.range 13).all zUok = true := by decide +kernel
theorem zU {ci N : Nat} {C : String} {T : u_T} (h : vwCl[ci]? = some (C, T, N)) : ∀ w ∈ u_ws C T N, w ∈ zT := by
  have hl : ci < 13 := (List.getElem?_eq_some_iff.mp h).1
  have h1 := List.all_eq_true.mp zU_all ci (List.mem_range.mpr hl)
  unfold zUok at h1
  rw [h] at h1
  intro w hw
  exact of_decide_eq_true (List.all_eq_true.mp h1 w hw)
theorem zTy {ci N : Nat} {C : String} {T : u_T} (h : vwCl[ci]? = some (C, T, N)) : ∃ ty : Nat → FieldType, (∀ k, k < N → parseFieldDescriptor (T k).2.2.1 = some (ty k)) ∧ (∀ a, a < N → ∀ b, b < N → a ≠ b → (T a).2.1 ≠ (T b).2.1) := by
  have hl : ci < 13 := (List.getElem?_eq_some_iff.mp h).1
  match ci, hl, h with
  | 0, _, h => cases h; exact ⟨tyX0, tyX0_ok, nmX0⟩
  | 1, _, h => cases h; exact ⟨tyX1, tyX1_ok, nmX1⟩
  | 2, _, h => cases h; exact ⟨tyX2, tyX2_ok, nmX2⟩
  | 3, _, h => cases h; exact ⟨tyX3, tyX3_ok, nmX3⟩
  | 4, _, h => cases h; exact ⟨tyX4, tyX4_ok, nmX4⟩
  | 5, _, h => cases h; exact ⟨tyX5, tyX5_ok, nmX5⟩
  | 6, _, h => cases h; exact ⟨tyX6, tyX6_ok, nmX6⟩
  | 7, _, h => cases h; exact ⟨tyX7, tyX7_ok, nmX7⟩
  | 8, _, h => cases h; exact ⟨tyX8, tyX8_ok, nmX8⟩
  | 9, _, h => cases h; exact ⟨tyX9, tyX9_ok, nmX9⟩
  | 10, _, h => cases h; exact ⟨tyX10, tyX10_ok, nmX10⟩
  | 11, _, h => cases h; exact ⟨tyX11, tyX11_ok, nmX11⟩
  | 12, _, h => cases h; exact ⟨tyX12, tyX12_ok, nmX12⟩
/-- a field that the code of class own names by its pool's number idx: field f of the objects of class ci -/
def zFl (own : String) (idx ci f : Nat) : Prop := ∃ (C : String) (T : u_T) (N : Nat) (ref : String), vwCl[ci]? = some (C, T, N) ∧ f < N ∧ zNf ci = N ∧ ci < 13 ∧ Cond.fieldLink own idx ref (T f).2.1 (T f).2.2.1 ∈ zT ∧ (ref = (T f).1 ∨ Cond.sameField ref (T f).1 (T f).2.1 (T f).2.2.1 ∈ zT)
/-- it isn't final, and of this type -/
def zFt (ci f : Nat) (fin : Bool) (ty : FieldType) : Prop := ∃ (C : String) (T : u_T) (N : Nat), vwCl[ci]? = some (C, T, N) ∧ (T f).2.2.2 = fin ∧ parseFieldDescriptor (T f).2.2.1 = some ty
/-- it's declared by this class -/
def zFo (ci f : Nat) (own : String) : Prop := ∃ (C : String) (T : u_T) (N : Nat), vwCl[ci]? = some (C, T, N) ∧ (T f).1 = own
theorem zsame {s : State} {args : Array Value} (hts : ∀ w ∈ zT, w.before args s = true) {ref C n d : String} (h : ref = C ∨ Cond.sameField ref C n d ∈ zT) : ∀ x, s.fieldFound? C n d = some x → s.fieldFound? ref n d = some x := by
  rcases h with rfl | h
  · exact fun _ h => h
  · exact fun x hx => u_same (hts _ h) x hx
section
variable {M : zM} {κ : zCtx} {u w : Nat} {σ τ : zSt} {pc k : Nat} {L : List (Nat × Value)} {st : List Value}
theorem Z.getI (B : zB M κ) {idx ci f : Nat} (hf : zFl M.1.cls idx ci f) (hd : decode M.2.1 pc = .ok (.getfield idx, 3)) (hk : k < zN σ) (hKd : zK σ k = ci) (ht : zTr ci f = false) {v : Int32} (hv : zX σ k f = v) (kk : Z κ u w σ (pc + 3) L (.int v :: st)) : Z κ u w σ pc L (.ref k :: st) := by
  obtain ⟨p, l, e, R, s, m, args, below, meth, c, E, A, ad0, n0, Q⟩ := κ
  obtain ⟨hx, hb, hml, hown, hts, hr, hlk, hnm, hR, hK, hF, hA⟩ := B
  intro ad H locs ls hw ha hS hl
  obtain ⟨C, T, N, ref, g1, g2, g3, g4, g5, g6⟩ := hf
  refine va_get (D := E.1) (ci := ci) (v := .int v) hx hb hts (zU g1) hown hK hw.1 k ((zWs_get hk).trans (by rw [zE_O hKd g4])) g1 f g2 (hts _ g5) (zsame hts g6) ?_ hd (kk ad H locs ls hw ha hS hl)
  rw [zFs_get (by rw [g3]; exact g2), zF_int ht, hv]
theorem Z.getR (B : zB M κ) {idx ci f : Nat} (hf : zFl M.1.cls idx ci f) (hd : decode M.2.1 pc = .ok (.getfield idx, 3)) (hk : k < zN σ) (hKd : zK σ k = ci) (ht : zTr ci f = true) {j : Nat} (hv : zR σ k f = some j) (kk : Z κ u w σ (pc + 3) L (.ref j :: st)) : Z κ u w σ pc L (.ref k :: st) := by
  obtain ⟨p, l, e, R, s, m, args, below, meth, c, E, A, ad0, n0, Q⟩ := κ
  obtain ⟨hx, hb, hml, hown, hts, hr, hlk, hnm, hR, hK, hF, hA⟩ := B
  intro ad H locs ls hw ha hS hl
  obtain ⟨C, T, N, ref, g1, g2, g3, g4, g5, g6⟩ := hf
  refine va_get (D := E.1) (ci := ci) (v := .ref (ad j)) hx hb hts (zU g1) hown hK hw.1 k ((zWs_get hk).trans (by rw [zE_O hKd g4])) g1 f g2 (hts _ g5) (zsame hts g6) ?_ hd (kk ad H locs ls hw ha hS hl)
  rw [zFs_get (by rw [g3]; exact g2), zF_ref ht, hv]
  rfl
theorem zFs_uX {ad : Nat → Nat} {σ : zSt} {k ci f : Nat} {x : Int32} (ht : zTr ci f = false) : (zFs ad σ k ci).set f (.int x) = zFs ad (zuX σ k (upd (zX σ k) f x)) k ci := by
  refine zFs_set ?_ fun j hj => ?_
  · rw [zF_int ht, zX_self, pk_us]
  · cases ht2 : zTr ci j with
    | true => rw [zF_ref ht2, zF_ref ht2]; rfl
    | false => rw [zF_int ht2, zF_int ht2, zX_self, pk_un hj]
theorem zFs_uR {ad : Nat → Nat} {σ : zSt} {k ci f : Nat} {r : Option Nat} (ht : zTr ci f = true) : (zFs ad σ k ci).set f (va_rf (r.map ad)) = zFs ad (zuR σ k (va_up (zR σ k) f r)) k ci := by
  refine zFs_set ?_ fun j hj => ?_
  · rw [zF_ref ht, zR_self, va_up_self]
  · cases ht2 : zTr ci j with
    | true => rw [zF_ref ht2, zF_ref ht2, zR_self, va_up_ne _ _ hj]
    | false => rw [zF_int ht2, zF_int ht2]; rfl
theorem Z.putI (B : zB M κ) {idx ci f : Nat} (hf : zFl M.1.cls idx ci f) {ty : FieldType} (hft : zFt ci f false ty) (hd : decode M.2.1 pc = .ok (.putfield idx, 3)) (hk : k < zN σ) (hKd : zK σ k = ci) (ht : zTr ci f = false) {v : Int32} (hn : narrow ty (.int v) = .int v) (hfit : fits ty (.int v) = true) (hτ : zuX σ k (upd (zX σ k) f v) = τ) (kk : Z κ u w τ (pc + 3) L st) : Z κ u w σ pc L (.int v :: .ref k :: st) := by
  subst hτ
  obtain ⟨p, l, e, R, s, m, args, below, meth, c, E, A, ad0, n0, Q⟩ := κ
  obtain ⟨hx, hb, hml, hown, hts, hr, hlk, hnm, hR, hK, hF, hA⟩ := B
  intro ad H locs ls hw ha hS hl
  obtain ⟨C, T, N, ref, g1, g2, g3, g4, g5, g6⟩ := hf
  obtain ⟨C', T', N', i1, i2, i3⟩ := hft
  cases g1.symm.trans i1
  obtain ⟨ty0, h5, h6⟩ := zTy g1
  have e : (zWs E ad σ).set k (ad k, .inr (ci, (zFs ad σ k ci).set f (.int v))) = zWs E ad (zuX σ k (upd (zX σ k) f v)) := zWs_set rfl (by rw [zE_O (σ := zuX σ k (upd (zX σ k) f v)) hKd g4, zFs_uX ht]) (fun j hj => zE_uX hj)
  refine va_put (D := E.1) (ci := ci) (v := .int v) hx hb hts (zU g1) ty0 h5 h6 hown hK hw.1 hw.2 hS k ((zWs_get hk).trans (by rw [zE_O hKd g4])) g1 f g2 (hts _ g5) (zsame hts g6) i2 i3 hn hfit (by simp [zFs]; rw [g3]; exact g2) hd fun H1 locs1 hP1 hD1 hS1 => ?_
  rw [e] at hP1 hD1
  exact kk ad H1 locs1 ls ⟨hP1, hD1⟩ ha hS1 hl
theorem Z.putFI (B : zB M κ) {idx ci f : Nat} (hf : zFl M.1.cls idx ci f) {ty : FieldType} (hft : zFt ci f true ty) (hin : M.1.name = "<init>") (hfo : zFo ci f M.1.cls) (hd : decode M.2.1 pc = .ok (.putfield idx, 3)) (hk : k < zN σ) (hKd : zK σ k = ci) (ht : zTr ci f = false) {v : Int32} (hn : narrow ty (.int v) = .int v) (hfit : fits ty (.int v) = true) (hτ : zuX σ k (upd (zX σ k) f v) = τ) (kk : Z κ u w τ (pc + 3) L st) : Z κ u w σ pc L (.int v :: .ref k :: st) := by
  subst hτ
  obtain ⟨p, l, e, R, s, m, args, below, meth, c, E, A, ad0, n0, Q⟩ := κ
  obtain ⟨hx, hb, hml, hown, hts, hr, hlk, hnm, hR, hK, hF, hA⟩ := B
  intro ad H locs ls hw ha hS hl
  obtain ⟨C, T, N, ref, g1, g2, g3, g4, g5, g6⟩ := hf
  obtain ⟨C', T', N', i1, i2, i3⟩ := hft
  cases g1.symm.trans i1
  obtain ⟨C', T', N', i1, i4⟩ := hfo
  cases g1.symm.trans i1
  obtain ⟨ty0, h5, h6⟩ := zTy g1
  have e : (zWs E ad σ).set k (ad k, .inr (ci, (zFs ad σ k ci).set f (.int v))) = zWs E ad (zuX σ k (upd (zX σ k) f v)) := zWs_set rfl (by rw [zE_O (σ := zuX σ k (upd (zX σ k) f v)) hKd g4, zFs_uX ht]) (fun j hj => zE_uX hj)
  refine va_putF (D := E.1) (ci := ci) (v := .int v) hx hb hts (zU g1) ty0 h5 h6 hown hK hw.1 hw.2 hS k ((zWs_get hk).trans (by rw [zE_O hKd g4])) g1 f g2 (hts _ g5) (zsame hts g6) i2 (hnm.trans hin) i4 i3 hn hfit (by simp [zFs]; rw [g3]; exact g2) hd fun H1 locs1 hP1 hD1 hS1 => ?_
  rw [e] at hP1 hD1
  exact kk ad H1 locs1 ls ⟨hP1, hD1⟩ ha hS1 hl
theorem Z.putFR (B : zB M κ) {idx ci f : Nat} (hf : zFl M.1.cls idx ci f) {ty : FieldType} (hft : zFt ci f true ty) (hin : M.1.name = "<init>") (hfo : zFo ci f M.1.cls) (hd : decode M.2.1 pc = .ok (.putfield idx, 3)) (hk : k < zN σ) (hKd : zK σ k = ci) (ht : zTr ci f = true) (hty : (∃ n, ty = .object n) ∨ ∃ t, ty = .array t) {j : Nat} (hτ : zuR σ k (va_up (zR σ k) f (some j)) = τ) (kk : Z κ u w τ (pc + 3) L st) : Z κ u w σ pc L (.ref j :: .ref k :: st) := by
  subst hτ
  obtain ⟨p, l, e, R, s, m, args, below, meth, c, E, A, ad0, n0, Q⟩ := κ
  obtain ⟨hx, hb, hml, hown, hts, hr, hlk, hnm, hR, hK, hF, hA⟩ := B
  intro ad H locs ls hw ha hS hl
  obtain ⟨C, T, N, ref, g1, g2, g3, g4, g5, g6⟩ := hf
  obtain ⟨C', T', N', i1, i2, i3⟩ := hft
  cases g1.symm.trans i1
  obtain ⟨C', T', N', i1, i4⟩ := hfo
  cases g1.symm.trans i1
  obtain ⟨ty0, h5, h6⟩ := zTy g1
  have e : (zWs E ad σ).set k (ad k, .inr (ci, (zFs ad σ k ci).set f (.ref (ad j)))) = zWs E ad (zuR σ k (va_up (zR σ k) f (some j))) := zWs_set rfl (by rw [zE_O (σ := zuR σ k (va_up (zR σ k) f (some j))) hKd g4, ← zFs_uR ht]; rfl) (fun j hj => zE_uR hj)
  refine va_putF (D := E.1) (ci := ci) (v := .ref (ad j)) hx hb hts (zU g1) ty0 h5 h6 hown hK hw.1 hw.2 hS k ((zWs_get hk).trans (by rw [zE_O hKd g4])) g1 f g2 (hts _ g5) (zsame hts g6) i2 (hnm.trans hin) i4 i3 (by rcases hty with ⟨n, rfl⟩ | ⟨t, rfl⟩ <;> rfl) (by rcases hty with ⟨n, rfl⟩ | ⟨t, rfl⟩ <;> rfl) (by simp [zFs]; rw [g3]; exact g2) hd fun H1 locs1 hP1 hD1 hS1 => ?_
  rw [e] at hP1 hD1
  exact kk ad H1 locs1 ls ⟨hP1, hD1⟩ ha hS1 hl
theorem Z.iald (B : zB M κ) {i v : Int32} {j n : Nat} (hd : decode M.2.1 pc = .ok (.iaload, 1)) (hk : k < zN σ) (hKd : zK σ k = 13) (hn : zL σ k = n) (h31 : n < 2147483648) (hj : i = nI j) (hlt : j < n) (hv : zX σ k j = v) (kk : Z κ u w σ (pc + 1) L (.int v :: st)) : Z κ u w σ pc L (.int i :: .ref k :: st) := by
  subst hj
  obtain ⟨p, l, e, R, s, m, args, below, meth, c, E, A, ad0, n0, Q⟩ := κ
  obtain ⟨hx, hb, hml, hown, hts, hr, hlk, hnm, hR, hK, hF, hA⟩ := B
  intro ad H locs ls hw ha hS hl
  refine va_iald hx hb hK hw.1 k 0 ((zWs_get hk).trans (by rw [zE_I hKd])) rfl (by rw [hn]; exact vp_in_nI hlt h31) hd ?_
  rw [nI_clamp (by omega), hv]
  exact kk ad H locs ls hw ha hS hl
theorem Z.iast (B : zB M κ) {i v : Int32} {j n : Nat} (hd : decode M.2.1 pc = .ok (.iastore, 1)) (hk : k < zN σ) (hKd : zK σ k = 13) (hn : zL σ k = n) (h31 : n < 2147483648) (hj : i = nI j) (hlt : j < n) (hτ : zuX σ k (upd (zX σ k) j v) = τ) (kk : Z κ u w τ (pc + 1) L st) : Z κ u w σ pc L (.int v :: .int i :: .ref k :: st) := by
  subst hj; subst hτ
  obtain ⟨p, l, e, R, s, m, args, below, meth, c, E, A, ad0, n0, Q⟩ := κ
  obtain ⟨hx, hb, hml, hown, hts, hr, hlk, hnm, hR, hK, hF, hA⟩ := B
  intro ad H locs ls hw ha hS hl
  refine va_iast hx hb hK hw.1 hw.2 hS k 0 ((zWs_get hk).trans (by rw [zE_I hKd])) rfl (by rw [hn]; exact vp_in_nI hlt h31) hd fun H1 locs1 hP1 hD1 hS1 => ?_
  rw [nI_clamp (by omega)] at hP1 hD1
  have e : (zWs E ad σ).set k (ad k, .inl (E.2.1.1, zL σ k, .inl (upd (zX σ k) j v))) = zWs E ad (zuX σ k (upd (zX σ k) j v)) := zWs_set rfl (by rw [zE_I (σ := zuX σ k (upd (zX σ k) j v)) hKd, zX_self]; rfl) (fun j hj => zE_uX hj)
  rw [e] at hP1 hD1
  exact kk ad H1 locs1 ls ⟨hP1, hD1⟩ ha hS1 hl
theorem Z.lald (B : zB M κ) {i : Int32} {v : Int64} {j n : Nat} (hd : decode M.2.1 pc = .ok (.laload, 1)) (hk : k < zN σ) (hKd : zK σ k = 14) (hn : zL σ k = n) (h31 : n < 2147483648) (hj : i = nI j) (hlt : j < n) (hv : zY σ k j = v) (kk : Z κ u w σ (pc + 1) L (.long v :: st)) : Z κ u w σ pc L (.int i :: .ref k :: st) := by
  subst hj
  obtain ⟨p, l, e, R, s, m, args, below, meth, c, E, A, ad0, n0, Q⟩ := κ
  obtain ⟨hx, hb, hml, hown, hts, hr, hlk, hnm, hR, hK, hF, hA⟩ := B
  intro ad H locs ls hw ha hS hl
  refine va_lald hx hb hK hw.1 k 1 ((zWs_get hk).trans (by rw [zE_J hKd])) rfl (by rw [hn]; exact vp_in_nI hlt h31) hd ?_
  rw [nI_clamp (by omega), hv]
  exact kk ad H locs ls hw ha hS hl
theorem Z.last (B : zB M κ) {i : Int32} {v : Int64} {j n : Nat} (hd : decode M.2.1 pc = .ok (.lastore, 1)) (hk : k < zN σ) (hKd : zK σ k = 14) (hn : zL σ k = n) (h31 : n < 2147483648) (hj : i = nI j) (hlt : j < n) (hτ : zuY σ k (vp_updL (zY σ k) j v) = τ) (kk : Z κ u w τ (pc + 1) L st) : Z κ u w σ pc L (.long v :: .int i :: .ref k :: st) := by
  subst hj; subst hτ
  obtain ⟨p, l, e, R, s, m, args, below, meth, c, E, A, ad0, n0, Q⟩ := κ
  obtain ⟨hx, hb, hml, hown, hts, hr, hlk, hnm, hR, hK, hF, hA⟩ := B
  intro ad H locs ls hw ha hS hl
  refine va_last hx hb hK hw.1 hw.2 hS k 1 ((zWs_get hk).trans (by rw [zE_J hKd])) rfl (by rw [hn]; exact vp_in_nI hlt h31) hd fun H1 locs1 hP1 hD1 hS1 => ?_
  rw [nI_clamp (by omega)] at hP1 hD1
  have e : (zWs E ad σ).set k (ad k, .inl (E.2.1.2.1, zL σ k, .inr (.inl (vp_updL (zY σ k) j v)))) = zWs E ad (zuY σ k (vp_updL (zY σ k) j v)) := zWs_set rfl (by rw [zE_J (σ := zuY σ k (vp_updL (zY σ k) j v)) hKd, zY_self]; rfl) (fun j hj => zE_uY hj)
  rw [e] at hP1 hD1
  exact kk ad H1 locs1 ls ⟨hP1, hD1⟩ ha hS1 hl
theorem Z.aldY (B : zB M κ) {i : Int32} {j n q : Nat} (hd : decode M.2.1 pc = .ok (.aaload, 1)) (hk : k < zN σ) (hKd : zK σ k = 16) (hn : zL σ k = n) (h31 : n < 2147483648) (hj : i = nI j) (hlt : j < n) (hv : zR σ k j = some q) (kk : Z κ u w σ (pc + 1) L (.ref q :: st)) : Z κ u w σ pc L (.int i :: .ref k :: st) := by
  subst hj
  obtain ⟨p, l, e, R, s, m, args, below, meth, c, E, A, ad0, n0, Q⟩ := κ
  obtain ⟨hx, hb, hml, hown, hts, hr, hlk, hnm, hR, hK, hF, hA⟩ := B
  intro ad H locs ls hw ha hS hl
  refine va_aldq hx hb hK hw.1 k 3 ((zWs_get hk).trans (by rw [zE_Y hKd])) rfl (by rw [hn]; exact vp_in_nI hlt h31) hd ?_
  rw [nI_clamp (by omega), hv]
  exact kk ad H locs ls hw ha hS hl
theorem Z.aldYN (B : zB M κ) {i : Int32} {j n : Nat} (hd : decode M.2.1 pc = .ok (.aaload, 1)) (hk : k < zN σ) (hKd : zK σ k = 16) (hn : zL σ k = n) (h31 : n < 2147483648) (hj : i = nI j) (hlt : j < n) (hv : zR σ k j = none) (kk : Z κ u w σ (pc + 1) L (.null :: st)) : Z κ u w σ pc L (.int i :: .ref k :: st) := by
  subst hj
  obtain ⟨p, l, e, R, s, m, args, below, meth, c, E, A, ad0, n0, Q⟩ := κ
  obtain ⟨hx, hb, hml, hown, hts, hr, hlk, hnm, hR, hK, hF, hA⟩ := B
  intro ad H locs ls hw ha hS hl
  refine va_aldq hx hb hK hw.1 k 3 ((zWs_get hk).trans (by rw [zE_Y hKd])) rfl (by rw [hn]; exact vp_in_nI hlt h31) hd ?_
  rw [nI_clamp (by omega), hv]
  exact kk ad H locs ls hw ha hS hl
theorem Z.aldS (B : zB M κ) {i : Int32} {j n q : Nat} (hd : decode M.2.1 pc = .ok (.aaload, 1)) (hk : k < zN σ) (hKd : zK σ k = 15) (hn : zL σ k = n) (h31 : n < 2147483648) (hj : i = nI j) (hlt : j < n) (hv : zR σ k j = some q) (kk : Z κ u w σ (pc + 1) L (.ref q :: st)) : Z κ u w σ pc L (.int i :: .ref k :: st) := by
  subst hj
  obtain ⟨p, l, e, R, s, m, args, below, meth, c, E, A, ad0, n0, Q⟩ := κ
  obtain ⟨hx, hb, hml, hown, hts, hr, hlk, hnm, hR, hK, hF, hA⟩ := B
  intro ad H locs ls hw ha hS hl
  refine va_aldq hx hb hK hw.1 k 2 ((zWs_get hk).trans (by rw [zE_S hKd])) rfl (by rw [hn]; exact vp_in_nI hlt h31) hd ?_
  rw [nI_clamp (by omega), hv]
  exact kk ad H locs ls hw ha hS hl
theorem Z.alen (B : zB M κ) {v : Int32} {n t : Nat} (hd : decode M.2.1 pc = .ok (.arraylength, 1)) (hk : k < zN σ) (hKd : zK σ k = 13 + t) (ht : t < 4) (hn : zL σ k = n) (hv : nI n = v) (kk : Z κ u w σ (pc + 1) L (.int v :: st)) : Z κ u w σ pc L (.ref k :: st) := by
  subst hv; subst hn
  obtain ⟨p, l, e, R, s, m, args, below, meth, c, E, A, ad0, n0, Q⟩ := κ
  obtain ⟨hx, hb, hml, hown, hts, hr, hlk, hnm, hR, hK, hF, hA⟩ := B
  intro ad H locs ls hw ha hS hl
  match t, ht, hKd with
  | 0, _, hKd => exact va_alen (x := (zL σ k, .inl (zX σ k))) (v := nI (zL σ k)) hx hb hK hw.1 k 0 ((zWs_get hk).trans (by rw [zE_I hKd])) rfl rfl hd (kk ad H locs ls hw ha hS hl)
  | 1, _, hKd => exact va_alen (x := (zL σ k, .inr (.inl (zY σ k)))) (v := nI (zL σ k)) hx hb hK hw.1 k 1 ((zWs_get hk).trans (by rw [zE_J hKd])) rfl rfl hd (kk ad H locs ls hw ha hS hl)
  | 2, _, hKd => exact va_alen (x := (zL σ k, .inr (.inr (.inr (.inr (fun i => (zR σ k i).map ad)))))) (v := nI (zL σ k)) hx hb hK hw.1 k 2 ((zWs_get hk).trans (by rw [zE_S hKd])) rfl rfl hd (kk ad H locs ls hw ha hS hl)
  | 3, _, hKd => exact va_alen (x := (zL σ k, .inr (.inr (.inr (.inr (fun i => (zR σ k i).map ad)))))) (v := nI (zL σ k)) hx hb hK hw.1 k 3 ((zWs_get hk).trans (by rw [zE_Y hKd])) rfl rfl hd (kk ad H locs ls hw ha hS hl)
end
