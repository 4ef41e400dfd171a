/-! the store of the program's cells by their places: how many, the kind of each, its length, its ints, its longs, its references (places) -/
abbrev zSt : Type := Nat × (Nat → Nat) × (Nat → Nat) × (Nat → Nat → Int32) × (Nat → Nat → Int64) × (Nat → Nat → Option Nat)
/-- what stays: the classes' numbers and slots, the array classes, the constants' values -/
abbrev zEnv : Type := va_G × (ClassId × ClassId × ClassId × ClassId) × (Nat → Value)
/-- a method: its name, code, locals, answer, and its room: frames, locals, cells, slots -/
abbrev zM : Type := MethodName × ByteArray × Nat × Option FieldType × (Nat × Nat × Nat × Nat)
abbrev zCtx : Type := Program × Launch × Env × Room × State × MethodId × Array Value × List Frame × Method × Code × zEnv × (Nat → Prop) × (Nat → Nat) × Nat × (State → Prop)
def zN (σ : zSt) : Nat := σ.1
def zK (σ : zSt) (k : Nat) : Nat := σ.2.1 k
def zL (σ : zSt) (k : Nat) : Nat := σ.2.2.1 k
def zX (σ : zSt) (k : Nat) : Nat → Int32 := σ.2.2.2.1 k
def zY (σ : zSt) (k : Nat) : Nat → Int64 := σ.2.2.2.2.1 k
def zR (σ : zSt) (k : Nat) : Nat → Option Nat := σ.2.2.2.2.2 k
def zfu {α : Type} (F : Nat → α) (k : Nat) (f : α) : Nat → α := fun j => bif Nat.beq j k then f else F j
theorem zfu_self {α : Type} {F : Nat → α} {k : Nat} {f : α} : zfu F k f k = f := by simp [zfu]
theorem zfu_ne {α : Type} {F : Nat → α} {k j : Nat} {f : α} (h : j ≠ k) : zfu F k f j = F j := by
  have e : Nat.beq j k = false := by
    cases hb : Nat.beq j k with
    | false => rfl
    | true => exact absurd (Nat.eq_of_beq_eq_true hb) h
  simp only [zfu, e, cond_false]
def zuX (σ : zSt) (k : Nat) (f : Nat → Int32) : zSt := (σ.1, σ.2.1, σ.2.2.1, zfu σ.2.2.2.1 k f, σ.2.2.2.2.1, σ.2.2.2.2.2)
def zuY (σ : zSt) (k : Nat) (f : Nat → Int64) : zSt := (σ.1, σ.2.1, σ.2.2.1, σ.2.2.2.1, zfu σ.2.2.2.2.1 k f, σ.2.2.2.2.2)
def zuR (σ : zSt) (k : Nat) (f : Nat → Option Nat) : zSt := (σ.1, σ.2.1, σ.2.2.1, σ.2.2.2.1, σ.2.2.2.2.1, zfu σ.2.2.2.2.2 k f)
/-- a new cell of kind c and length n, all 0 -/
def zNew (σ : zSt) (c n : Nat) : zSt := (σ.1 + 1, zfu σ.2.1 σ.1 c, zfu σ.2.2.1 σ.1 n, zfu σ.2.2.2.1 σ.1 (fun _ => 0), zfu σ.2.2.2.2.1 σ.1 (fun _ => 0), zfu σ.2.2.2.2.2 σ.1 (fun _ => none))
/-- a reference in the abstract: its place; a constant is written as a float, that no code here has -/
def zc (E : zEnv) (ad : Nat → Nat) : Value → Value
  | .ref k => .ref (ad k)
  | .float j => E.2.2 j.toNat
  | v => v
def zNf (ci : Nat) : Nat := [4, 11, 4, 4, 4, 4, 4, 4, 2, 4, 4, 9, 33].getD ci 0
def zTr (ci f : Nat) : Bool := ((match ci with
  | 1 => [0, 1, 3, 4, 6, 9, 10]
  | 2 => [0, 1]
  | 6 => [0]
  | 8 => [0]
  | 11 => [0, 1, 2, 3, 4, 5, 6]
  | 12 => [5, 6, 7, 8, 9, 10, 11, 12, 13, 14, 15, 16, 17, 18, 19, 20, 26, 27, 29, 30]
  | _ => [3]) : List Nat).contains f
def zF (ad : Nat → Nat) (σ : zSt) (k ci f : Nat) : Value := bif zTr ci f then va_rf ((zR σ k f).map ad) else .int (zX σ k f)
def zFs (ad : Nat → Nat) (σ : zSt) (k ci : Nat) : List Value := (List.range (zNf ci)).map (zF ad σ k ci)
def zE (E : zEnv) (ad : Nat → Nat) (σ : zSt) (k : Nat) : va_E :=
  if zK σ k = 13 then .inl (E.2.1.1, zL σ k, .inl (zX σ k))
  else if zK σ k = 14 then .inl (E.2.1.2.1, zL σ k, .inr (.inl (zY σ k)))
  else if zK σ k = 15 then .inl (E.2.1.2.2.1, zL σ k, .inr (.inr (.inr (.inr (fun i => (zR σ k i).map ad)))))
  else if zK σ k = 16 then .inl (E.2.1.2.2.2, zL σ k, .inr (.inr (.inr (.inr (fun i => (zR σ k i).map ad)))))
  else .inr (zK σ k, zFs ad σ k (zK σ k))
def zWs (E : zEnv) (ad : Nat → Nat) (σ : zSt) : va_W := (List.range (zN σ)).map fun k => (ad k, zE E ad σ k)
abbrev zTys (E : zEnv) : List (ClassId × FieldType) := [(E.2.1.1, .int), (E.2.1.2.1, .long), (E.2.1.2.2.1, .object "FourAskOne$Shelf"), (E.2.1.2.2.2, .object "FourAskOne$Way")]
theorem zWs_get {E : zEnv} {ad : Nat → Nat} {σ : zSt} {k : Nat} (hk : k < zN σ) : (zWs E ad σ)[k]? = some (ad k, zE E ad σ k) := by
  simp [zWs, List.getElem?_map, List.getElem?_range hk]
theorem zWs_len {E : zEnv} {ad : Nat → Nat} {σ : zSt} : (zWs E ad σ).length = zN σ := by simp [zWs]
theorem zWs_inv {E : zEnv} {ad : Nat → Nat} {σ : zSt} {k : Nat} {q : Nat × va_E} (h : (zWs E ad σ)[k]? = some q) : k < zN σ ∧ q = (ad k, zE E ad σ k) := by
  have hk : k < zN σ := by
    have := (List.getElem?_eq_some_iff.mp h).1
    rwa [zWs_len] at this
  rw [zWs_get hk] at h
  exact ⟨hk, (Option.some.inj h).symm⟩
theorem zWs_set {E : zEnv} {ad : Nat → Nat} {σ σ' : zSt} {k : Nat} {e : va_E} (hN : zN σ' = zN σ) (he : zE E ad σ' k = e) (ho : ∀ j, j ≠ k → zE E ad σ' j = zE E ad σ j) : (zWs E ad σ).set k (ad k, e) = zWs E ad σ' := by
  apply List.ext_getElem?
  intro j
  by_cases hj : j < zN σ
  · rw [zWs_get (σ := σ') (by rw [hN]; exact hj)]
    by_cases hjk : j = k
    · subst hjk
      rw [List.getElem?_set_self (by rw [zWs_len]; exact hj), he]
    · rw [List.getElem?_set_ne (Ne.symm hjk), zWs_get hj, ho j hjk]
  · rw [List.getElem?_eq_none (by rw [List.length_set, zWs_len]; omega), List.getElem?_eq_none (by rw [zWs_len, hN]; omega)]
theorem zE_I {E : zEnv} {ad : Nat → Nat} {σ : zSt} {k : Nat} (h : zK σ k = 13) : zE E ad σ k = .inl (E.2.1.1, zL σ k, .inl (zX σ k)) := by simp [zE, h]
theorem zE_J {E : zEnv} {ad : Nat → Nat} {σ : zSt} {k : Nat} (h : zK σ k = 14) : zE E ad σ k = .inl (E.2.1.2.1, zL σ k, .inr (.inl (zY σ k))) := by simp [zE, h]
theorem zE_S {E : zEnv} {ad : Nat → Nat} {σ : zSt} {k : Nat} (h : zK σ k = 15) : zE E ad σ k = .inl (E.2.1.2.2.1, zL σ k, .inr (.inr (.inr (.inr (fun i => (zR σ k i).map ad))))) := by simp [zE, h]
theorem zE_Y {E : zEnv} {ad : Nat → Nat} {σ : zSt} {k : Nat} (h : zK σ k = 16) : zE E ad σ k = .inl (E.2.1.2.2.2, zL σ k, .inr (.inr (.inr (.inr (fun i => (zR σ k i).map ad))))) := by simp [zE, h]
theorem zE_O {E : zEnv} {ad : Nat → Nat} {σ : zSt} {k ci : Nat} (h : zK σ k = ci) (hc : ci < 13) : zE E ad σ k = .inr (ci, zFs ad σ k ci) := by
  have h1 : ¬ ci = 13 := by omega
  have h2 : ¬ ci = 14 := by omega
  have h3 : ¬ ci = 15 := by omega
  have h4 : ¬ ci = 16 := by omega
  simp only [zE, h, if_neg h1, if_neg h2, if_neg h3, if_neg h4]
/-- two stores that hold the same at a place -/
theorem zE_congr {E : zEnv} {ad : Nat → Nat} {σ τ : zSt} {k : Nat} (h1 : zK τ k = zK σ k) (h2 : zL τ k = zL σ k) (h3 : zX τ k = zX σ k) (h4 : zY τ k = zY σ k) (h5 : zR τ k = zR σ k) : zE E ad τ k = zE E ad σ k := by
  have hz : zF ad τ k = zF ad σ k := by
    funext ci f
    simp only [zF, h3, h5]
  simp only [zE, zFs, h1, h2, h3, h4, h5, hz]
theorem zE_uX {E : zEnv} {ad : Nat → Nat} {σ : zSt} {k j : Nat} {f : Nat → Int32} (h : j ≠ k) : zE E ad (zuX σ k f) j = zE E ad σ j := zE_congr rfl rfl (zfu_ne h) rfl rfl
theorem zE_uY {E : zEnv} {ad : Nat → Nat} {σ : zSt} {k j : Nat} {f : Nat → Int64} (h : j ≠ k) : zE E ad (zuY σ k f) j = zE E ad σ j := zE_congr rfl rfl rfl (zfu_ne h) rfl
theorem zE_uR {E : zEnv} {ad : Nat → Nat} {σ : zSt} {k j : Nat} {f : Nat → Option Nat} (h : j ≠ k) : zE E ad (zuR σ k f) j = zE E ad σ j := zE_congr rfl rfl rfl rfl (zfu_ne h)
theorem zX_self {σ : zSt} {k : Nat} {f : Nat → Int32} : zX (zuX σ k f) k = f := zfu_self
theorem zY_self {σ : zSt} {k : Nat} {f : Nat → Int64} : zY (zuY σ k f) k = f := zfu_self
theorem zR_self {σ : zSt} {k : Nat} {f : Nat → Option Nat} : zR (zuR σ k f) k = f := zfu_self
theorem zFs_get {ad : Nat → Nat} {σ : zSt} {k ci f : Nat} (hf : f < zNf ci) : (zFs ad σ k ci)[f]? = some (zF ad σ k ci f) := by
  simp [zFs, List.getElem?_map, List.getElem?_range hf]
theorem zFs_set {ad : Nat → Nat} {σ σ' : zSt} {k ci f : Nat} {v : Value} (hv : zF ad σ' k ci f = v) (ho : ∀ j, j ≠ f → zF ad σ' k ci j = zF ad σ k ci j) : (zFs ad σ k ci).set f v = zFs ad σ' k ci := by
  apply List.ext_getElem?
  intro j
  by_cases hj : j < zNf ci
  · rw [zFs_get (σ := σ') hj]
    by_cases hjf : j = f
    · subst hjf
      rw [List.getElem?_set_self (by simp [zFs]; exact hj), hv]
    · rw [List.getElem?_set_ne (Ne.symm hjf), zFs_get hj, ho j hjf]
  · rw [List.getElem?_eq_none (by simp [zFs]; omega), List.getElem?_eq_none (by simp [zFs]; omega)]
theorem zF_int {ad : Nat → Nat} {σ : zSt} {k ci f : Nat} (h : zTr ci f = false) : zF ad σ k ci f = .int (zX σ k f) := by simp [zF, h]
theorem zF_ref {ad : Nat → Nat} {σ : zSt} {k ci f : Nat} (h : zTr ci f = true) : zF ad σ k ci f = va_rf ((zR σ k f).map ad) := by simp [zF, h]
/-- the constants: the three static rows, the four words and their letters, two statics of the JDK -/
def zA0 (j : Nat) : Int32 := [9, 9, 9, 9, 3, 9].getD j 0
def zA1 (j : Nat) : Int32 := [3, 9, 10].getD j 0
def zA2 (j : Nat) : Int32 := [6, 99].getD j 0
def zWl : List Nat := [5, 5, 3, 5]
def zWb : List (List Int32) := [[99, 111, 109, 101, 114], [97, 115, 107, 101, 114], [119, 97, 121], [99, 104, 105, 101, 102]]
/-- words that the tables say once: what is castable, what isn't, a nest mate's statics, declared methods, arrays of classes -/
def zCa : List (String × String) := [("FourAskOne$Lined", "FourAskOne$Talked"), ("FourAskOne$Blind", "FourAskOne$Marked"), ("FourAskOne$Talked", "FourAskOne$Way"), ("FourAskOne$Lined", "FourAskOne$Way"), ("FourAskOne$Worked", "FourAskOne$Way"), ("FourAskOne$Lettered", "FourAskOne$Way"), ("FourAskOne$Marked", "FourAskOne$Way"), ("FourAskOne$Blind", "FourAskOne$Way")]
def zNc : List (String × String) := [("FourAskOne$Way", "FourAskOne$Talked"), ("FourAskOne$Way", "FourAskOne$Lined"), ("FourAskOne$Way", "FourAskOne$Worked"), ("FourAskOne$Way", "FourAskOne$Lettered"), ("FourAskOne$Way", "FourAskOne$Marked"), ("FourAskOne$Way", "FourAskOne$Blind"), ("FourAskOne$Talked", "FourAskOne$Lined"), ("FourAskOne$Talked", "FourAskOne$Worked"), ("FourAskOne$Talked", "FourAskOne$Lettered"), ("FourAskOne$Talked", "FourAskOne$Marked"), ("FourAskOne$Talked", "FourAskOne$Blind"), ("FourAskOne$Lined", "FourAskOne$Worked"), ("FourAskOne$Lined", "FourAskOne$Lettered"), ("FourAskOne$Lined", "FourAskOne$Marked"), ("FourAskOne$Lined", "FourAskOne$Blind"), ("FourAskOne$Worked", "FourAskOne$Talked"), ("FourAskOne$Worked", "FourAskOne$Lined"), ("FourAskOne$Worked", "FourAskOne$Lettered"), ("FourAskOne$Worked", "FourAskOne$Marked"), ("FourAskOne$Worked", "FourAskOne$Blind"), ("FourAskOne$Lettered", "FourAskOne$Talked"), ("FourAskOne$Lettered", "FourAskOne$Lined"), ("FourAskOne$Lettered", "FourAskOne$Worked"), ("FourAskOne$Lettered", "FourAskOne$Marked"), ("FourAskOne$Lettered", "FourAskOne$Blind"), ("FourAskOne$Marked", "FourAskOne$Talked"), ("FourAskOne$Marked", "FourAskOne$Lined"), ("FourAskOne$Marked", "FourAskOne$Worked"), ("FourAskOne$Marked", "FourAskOne$Lettered"), ("FourAskOne$Marked", "FourAskOne$Blind"), ("FourAskOne$Blind", "FourAskOne$Talked"), ("FourAskOne$Blind", "FourAskOne$Lined"), ("FourAskOne$Blind", "FourAskOne$Worked"), ("FourAskOne$Blind", "FourAskOne$Lettered")]
def zNe : List (String × Nat × String × String) := [("FourAskOne$HouseText", 121, "MOST_OF_COMER", "[I"), ("FourAskOne$HouseText", 124, "MOST_OF_ASKER", "[I"), ("FourAskOne$HouseText", 127, "MOST_OF_WAY", "[I"), ("FourAskOne$House", 84, "MOST_OF_COMER", "[I")]
def zDe : List MethodName := [⟨"FourAskOne$Way", "firstFeeling", "(LFourAskOne$House;II)I"⟩, ⟨"FourAskOne$Way", "asks", "(I)I"⟩, ⟨"FourAskOne$Way", "sums", "(I)I"⟩]
def zNws (U : State) : Prop := (∀ q ∈ zCa, va_Nw (.castable q.1 q.2) U) ∧ (∀ q ∈ zNc, va_Nc q.1 q.2 U) ∧ (∀ q ∈ zNe, va_Nw (.fieldLinkNest q.1 q.2.1 "FourAskOne" q.2.2.1 q.2.2.2 "FourAskOne") U) ∧ (∀ x ∈ zDe, va_Nw (.declares x) U) ∧ va_AO "FourAskOne$Shelf" U ∧ va_AO "FourAskOne$Way" U
theorem zNws.to {U V : State} (h : zNws U) (hW : U.WarmedH V.vm) : zNws V :=
  ⟨fun q hq => (h.1 q hq).warmC hW, fun q hq => (h.2.1 q hq).moved hW.alike, fun q hq => (h.2.2.1 q hq).warmF hW, fun x hx => (h.2.2.2.1 x hx).warmD hW, h.2.2.2.2.1.moved hW.alike, h.2.2.2.2.2.moved hW.alike⟩
theorem zNws.same {U V : State} (h : zNws U) (hv : V.vm = U.vm) : zNws V := by
  have hw : U.vm.Alike V.vm := by rw [hv]; exact Vm.Alike.refl _
  exact ⟨fun q hq => (h.1 q hq).same rfl hv.symm, fun q hq => (h.2.1 q hq).moved hw, fun q hq => (h.2.2.1 q hq).same rfl hv.symm, fun x hx => (h.2.2.2.1 x hx).same rfl hv.symm, h.2.2.2.2.1.moved hw, h.2.2.2.2.2.moved hw⟩
def zSF (E : zEnv) (A : Nat → Prop) (U : State) (H : Heap) : Prop :=
  (∀ j, E.2.2 j = .null ∨ ∃ a, E.2.2 j = .ref a) ∧
  (∃ t, E.2.2 0 = .ref t ∧ va_Z "FourAskOne" "MOST_OF_COMER" "[I" (.ref t) A U H ∧ va_T .int t 6 (fun j => .int (zA0 j)) A U H) ∧
  (∃ t, E.2.2 1 = .ref t ∧ va_Z "FourAskOne" "MOST_OF_ASKER" "[I" (.ref t) A U H ∧ va_T .int t 3 (fun j => .int (zA1 j)) A U H) ∧
  (∃ t, E.2.2 2 = .ref t ∧ va_Z "FourAskOne" "MOST_OF_WAY" "[I" (.ref t) A U H ∧ va_T .int t 2 (fun j => .int (zA2 j)) A U H) ∧
  (∃ adK adV : Nat → Nat, (∀ i, i < 4 → E.2.2 (3 + i) = .ref (adK i) ∧ E.2.2 (7 + i) = .ref (adV i)) ∧ vk_S 4 zWl zWb adK adV A U H ∧ vk_R "FourAskOne$HouseText" 113 "comer" (adK 0) U ∧ vk_R "FourAskOne$HouseText" 115 "asker" (adK 1) U ∧ vk_R "FourAskOne$HouseText" 117 "way" (adK 2) U ∧ vk_R "FourAskOne$HouseText" 119 "chief" (adK 3) U) ∧
  va_Z "java/lang/String" "COMPACT_STRINGS" "Z" (.int 1) A U H ∧ va_Z "jdk/internal/util/Preconditions" "SIOOBE_FORMATTER" "Ljava/util/function/BiFunction;" (E.2.2 11) A U H ∧ zNws U
theorem zSF.to {E : zEnv} {A B : Nat → Prop} {U V : State} {H H1 : Heap} (h : zSF E A U H) (hW : U.WarmedH V.vm) (hq : ∀ a : Nat, a < H.size → ¬ A a → H1[a]? = H[a]?) (hAB : ∀ q, B q → A q) : zSF E B V H1 := by
  obtain ⟨h0, ⟨t0, a1, a2, a3⟩, ⟨t1, b1, b2, b3⟩, ⟨t2, c1, c2, c3⟩, ⟨adK, adV, d1, d2, d3, d4, d5, d6⟩, e1, e2, e3⟩ := h
  have hv := hW.alike
  exact ⟨h0, ⟨t0, a1, ((a2.moved hv).kept hq).narrow hAB, ((a3.moved hv).kept hq).narrow hAB⟩, ⟨t1, b1, ((b2.moved hv).kept hq).narrow hAB, ((b3.moved hv).kept hq).narrow hAB⟩, ⟨t2, c1, ((c2.moved hv).kept hq).narrow hAB, ((c3.moved hv).kept hq).narrow hAB⟩,
    ⟨adK, adV, d1, ((d2.moved hv).kept hq).narrow hAB, d3.warm hW, d4.warm hW, d5.warm hW, d6.warm hW⟩, ((e1.moved hv).kept hq).narrow hAB, ((e2.moved hv).kept hq).narrow hAB, e3.to hW⟩
theorem zSF.same {E : zEnv} {A : Nat → Prop} {U V : State} {H : Heap} (h : zSF E A U H) (hv : V.vm = U.vm) : zSF E A V H := by
  obtain ⟨h0, ⟨t0, a1, a2, a3⟩, ⟨t1, b1, b2, b3⟩, ⟨t2, c1, c2, c3⟩, ⟨adK, adV, d1, d2, d3, d4, d5, d6⟩, e1, e2, e3⟩ := h
  have hw : U.vm.Alike V.vm := by rw [hv]; exact Vm.Alike.refl _
  exact ⟨h0, ⟨t0, a1, a2.moved hw, a3.moved hw⟩, ⟨t1, b1, b2.moved hw, b3.moved hw⟩, ⟨t2, c1, c2.moved hw, c3.moved hw⟩,
    ⟨adK, adV, d1, d2.moved hw, d3.same hv, d4.same hv, d5.same hv, d6.same hv⟩, e1.moved hw, e2.moved hw, e3.same hv⟩
/-- the words that every method takes -/
def zT : List Cond := lw_tbl.filter goodWord
theorem zT_in {w : Cond} (h : w ∈ zT) : w ∈ zT ∧ ((w.onTables && w.keeps) = true ∨ ∃ ty, w = .arrayClass ty) := ⟨h, good_of_word (List.mem_filter.mp h).2⟩
theorem zT_at {w : Cond} (i : Nat) (h : lw_tbl[i]? = some w) (hg : goodWord w = true) : w ∈ zT := List.mem_filter.mpr ⟨List.mem_of_getElem? h, hg⟩
def zTs (M : zM) : List Cond := .code M.1 M.2.1 M.2.2.1 M.2.2.2.1 :: zT
def zRm (M : zM) : Room := { frames := M.2.2.2.2.1, cells := M.2.2.2.2.2.2.1, slots := M.2.2.2.2.2.2.2, locals := M.2.2.2.2.2.1 }
def zWd (E : zEnv) (ad : Nat → Nat) (σ : zSt) (A : Nat → Prop) (H : Heap) : Prop := va_P E.1 vwCl (zWs E ad σ) H ∧ va_D A (zWs E ad σ)
def zcL (E : zEnv) (ad : Nat → Nat) (L : List (Nat × Value)) : List (Nat × Value) := L.map (fun q => (q.1, zc E ad q.2))
/-- the machine, now at the abstract place (σ, pc, locals L, stack st), comes to its end -/
def Z : zCtx → Nat → Nat → zSt → Nat → List (Nat × Value) → List Value → Prop := fun (p, l, e, R, s, m, args, below, meth, c, E, A, ad0, n0, Q) u w σ pc L st =>
  ∀ (ad : Nat → Nat) (H : Heap) (locs : List Loc) (ls : Array Slot), zWd E ad σ A H → ((R.cells = 0 → ad = ad0) ∧ ∀ k, k < n0 → ad k = ad0 k) → va_S A s.heap H locs → lv_has ls c.maxLocals (zcL E ad L) → W p l e R s m args below meth c H locs u w Q (F0 m pc ls (st.map (zc E ad)))
/-- what holds all along a method's body -/
def zB (M : zM) : zCtx → Prop := fun (p, l, e, R, s, m, args, below, meth, c, E, A, ad0, n0, Q) =>
  p.tables.exec = Jvm.exec ∧ c.code = M.2.1 ∧ c.maxLocals = M.2.2.1 ∧ s.vm.findClass M.1.cls = some m.cls ∧ (∀ w ∈ zT, w.before args s = true) ∧ meth.sig.returnType = M.2.2.2.1 ∧ meth.locks = false ∧ meth.name = M.1.name ∧ R = zRm M ∧ va_K E.1 vwCl (zTys E) s ∧ zSF E A s s.heap ∧ ∀ q, s.heap.size ≤ q → A q
/-- a method's end: an answer and a store that the post allows; nothing else has changed -/
def zQ (M : zM) (E : zEnv) (ad : Nat → Nat) (σ : zSt) (sz : Nat) (Post : Option Value → zSt → Prop) : Array Value → State → Outcome → State → Prop := fun _ st oc t =>
  (∃ (r : Option Value) (σ' : zSt) (ad' : Nat → Nat), oc = .returned (r.map (zc E ad')) ∧ Post r σ' ∧ (M.2.2.2.2.2.2.1 = 0 → ad' = ad) ∧ (∀ k, k < zN σ → ad' k = ad k) ∧ zWd E ad' σ' (va_A (zWs E ad σ) sz) t.heap) ∧ va_F (va_A (zWs E ad σ) sz) st t
/-- a method's contract -/
def Ct (M : zM) (as : List Value) (σ : zSt) (Post : Option Value → zSt → Prop) : Prop := ∀ (l : Launch) (E : zEnv) (ad : Nat → Nat) (sz : Nat),
  Met l M.1 (zTs M) (zRm M) (va_Pc (as.map (zc E ad)) (fun U => U.heap.size = sz ∧ zWd E ad σ (fun _ => True) U.heap ∧ va_K E.1 vwCl (zTys E) U ∧ zSF E (va_A (zWs E ad σ) sz) U U.heap)) (zQ M E ad σ sz Post) M.2.2.2.2.2.2.1 M.2.2.2.2.2.2.2 (va_A (zWs E ad σ) sz)
/-- the end that a body owes -/
def zRt (M : zM) (Post : Option Value → zSt → Prop) : zCtx → Prop := fun (p, l, e, R, s, m, args, below, meth, c, E, A, ad0, n0, Q) =>
  ∃ σ0, n0 = zN σ0 ∧ A = va_A (zWs E ad0 σ0) s.heap.size ∧ Q = MQ below (zQ M E ad0 σ0 s.heap.size Post) args s M.2.2.2.2.2.2.1 M.2.2.2.2.2.2.2 A
