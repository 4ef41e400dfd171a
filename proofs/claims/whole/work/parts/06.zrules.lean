/-! locals in the abstract, in the order of their numbers -/
def zget : List (Nat × Value) → Nat → Option Value
  | [], _ => none
  | (j, v) :: t, i => bif Nat.beq j i then some v else zget t i
def zins (i : Nat) (v : Value) : List (Nat × Value) → List (Nat × Value)
  | [] => [(i, v)]
  | (j, x) :: t => bif Nat.blt j i then (j, x) :: zins i v t else (i, v) :: (j, x) :: t
def zput (L : List (Nat × Value)) (i : Nat) (v : Value) : List (Nat × Value) := zins i v (L.filter (fun q => !(q.1 == i) && !(q.1 + 1 == i && q.2.category == 2)))
def zput2 (L : List (Nat × Value)) (i : Nat) (v : Value) : List (Nat × Value) := zins i v (L.filter (fun q => !(q.1 == i) && (!(q.1 == i + 1) && !(q.1 + 1 == i && q.2.category == 2))))
theorem zget_mem : ∀ (L : List (Nat × Value)) {i : Nat} {v : Value}, zget L i = some v → (i, v) ∈ L
  | [], i, v, h => by simp [zget] at h
  | (j, x) :: t, i, v, h => by
    simp only [zget] at h
    cases hb : Nat.beq j i with
    | true =>
      rw [hb, cond_true] at h
      cases h
      rw [Nat.eq_of_beq_eq_true hb]
      exact List.mem_cons_self
    | false =>
      rw [hb, cond_false] at h
      exact List.mem_cons_of_mem _ (zget_mem t h)
theorem zins_mem {i : Nat} {v : Value} : ∀ (L : List (Nat × Value)) {q : Nat × Value}, q ∈ zins i v L → q = (i, v) ∨ q ∈ L
  | [], q, h => by simp [zins] at h; exact Or.inl h
  | (j, x) :: t, q, h => by
    simp only [zins] at h
    cases hb : Nat.blt j i with
    | true =>
      rw [hb, cond_true] at h
      rcases List.mem_cons.mp h with h | h
      · exact Or.inr (h ▸ List.mem_cons_self)
      · rcases zins_mem t h with h | h
        · exact Or.inl h
        · exact Or.inr (List.mem_cons_of_mem _ h)
    | false =>
      rw [hb, cond_false] at h
      rcases List.mem_cons.mp h with h | h
      · exact Or.inl h
      · exact Or.inr h
theorem zhas_get {E : zEnv} {ad : Nat → Nat} {ls : Array Slot} {n i : Nat} {L : List (Nat × Value)} {v : Value} (hl : lv_has ls n (zcL E ad L)) (h : zget L i = some v) : ls[i]? = some (.val (zc E ad v)) :=
  hl.2.2 (i, zc E ad v) (List.mem_map.mpr ⟨(i, v), zget_mem L h, rfl⟩)
theorem zcat {E : zEnv} {ad : Nat → Nat} (h : ∀ j, E.2.2 j = .null ∨ ∃ a, E.2.2 j = .ref a) (v : Value) : (zc E ad v).category = v.category := by
  cases v with
  | float j =>
    show (E.2.2 j.toNat).category = _
    rcases h j.toNat with h | ⟨a, h⟩ <;> rw [h] <;> rfl
  | _ => rfl
theorem zhas_put {E : zEnv} {ad : Nat → Nat} {ls : Array Slot} {n i : Nat} {L : List (Nat × Value)} {v : Value} (h : ∀ j, E.2.2 j = .null ∨ ∃ a, E.2.2 j = .ref a) (hl : lv_has ls n ((i, zc E ad v) :: (zcL E ad L).filter (fun q => !(q.1 == i) && !(q.1 + 1 == i && q.2.category == 2)))) : lv_has ls n (zcL E ad (zput L i v)) := by
  refine ⟨hl.1, hl.2.1, fun q hq => ?_⟩
  obtain ⟨q0, h1, rfl⟩ := List.mem_map.mp hq
  rcases zins_mem _ h1 with rfl | h2
  · exact hl.2.2 _ List.mem_cons_self
  · obtain ⟨h3, h4⟩ := List.mem_filter.mp h2
    refine hl.2.2 (q0.1, zc E ad q0.2) (List.mem_cons_of_mem _ (List.mem_filter.mpr ⟨List.mem_map.mpr ⟨q0, h3, rfl⟩, ?_⟩))
    simpa only [zcat h] using h4
theorem zhas_put2 {E : zEnv} {ad : Nat → Nat} {ls : Array Slot} {n i : Nat} {L : List (Nat × Value)} {v : Value} (h : ∀ j, E.2.2 j = .null ∨ ∃ a, E.2.2 j = .ref a) (hl : lv_has ls n ((i, zc E ad v) :: (zcL E ad L).filter (fun q => !(q.1 == i) && (!(q.1 == i + 1) && !(q.1 + 1 == i && q.2.category == 2))))) : lv_has ls n (zcL E ad (zput2 L i v)) := by
  refine ⟨hl.1, hl.2.1, fun q hq => ?_⟩
  obtain ⟨q0, h1, rfl⟩ := List.mem_map.mp hq
  rcases zins_mem _ h1 with rfl | h2
  · exact hl.2.2 _ List.mem_cons_self
  · obtain ⟨h3, h4⟩ := List.mem_filter.mp h2
    refine hl.2.2 (q0.1, zc E ad q0.2) (List.mem_cons_of_mem _ (List.mem_filter.mpr ⟨List.mem_map.mpr ⟨q0, h3, rfl⟩, ?_⟩))
    simpa only [zcat h] using h4
def zisr : Value → Bool
  | .ref _ => true
  | .null => true
  | .float _ => true
  | _ => false
theorem zisr_c {E : zEnv} {ad : Nat → Nat} (h : ∀ j, E.2.2 j = .null ∨ ∃ a, E.2.2 j = .ref a) {v : Value} (hv : zisr v = true) : zc E ad v = .null ∨ ∃ a, zc E ad v = .ref a := by
  cases v with
  | ref k => exact Or.inr ⟨ad k, rfl⟩
  | null => exact Or.inl rfl
  | float j => exact h j.toNat
  | _ => cases hv

section
variable {M : zM} {κ : zCtx} {u w : Nat} {σ : zSt} {pc : Nat} {L : List (Nat × Value)} {st : List Value}

theorem Z.sub {L' : List (Nat × Value)} (h : ∀ q ∈ L', q ∈ L) (k : Z κ u w σ pc L' st) : Z κ u w σ pc L st := by
  obtain ⟨p, l, e, R, s, m, args, below, meth, c, E, A, ad0, n0, Q⟩ := κ
  intro ad H locs ls hw ha hS hl
  refine k ad H locs ls hw ha hS ⟨hl.1, hl.2.1, fun q hq => ?_⟩
  obtain ⟨q0, h1, rfl⟩ := List.mem_map.mp hq
  exact hl.2.2 _ (List.mem_map.mpr ⟨q0, h q0 h1, rfl⟩)

theorem Z.iconst (B : zB M κ) {n : Int} {v : Int32} (hd : decode M.2.1 pc = .ok (.iconst n, 1)) (hv : Int32.ofInt n = v) (k : Z κ u w σ (pc + 1) L (.int v :: st)) : Z κ u w σ pc L st := by
  obtain ⟨p, l, e, R, s, m, args, below, meth, c, E, A, ad0, n0, Q⟩ := κ
  obtain ⟨hx, hb, hml, hown, hts, hr, hlk, hnm, hR, hK, hF, hA⟩ := B
  intro ad H locs ls hw ha hS hl
  exact lv_iconst hx hb hd hv (k ad H locs ls hw ha hS hl)

theorem Z.bipush (B : zB M κ) {n : Int} {v : Int32} (hd : decode M.2.1 pc = .ok (.bipush n, 2)) (hv : (Int8.ofInt n).toInt32 = v) (k : Z κ u w σ (pc + 2) L (.int v :: st)) : Z κ u w σ pc L st := by
  obtain ⟨p, l, e, R, s, m, args, below, meth, c, E, A, ad0, n0, Q⟩ := κ
  obtain ⟨hx, hb, hml, hown, hts, hr, hlk, hnm, hR, hK, hF, hA⟩ := B
  intro ad H locs ls hw ha hS hl
  exact lv_bipush hx hb hd hv (k ad H locs ls hw ha hS hl)

theorem Z.sipush (B : zB M κ) {n : Int} {v : Int32} (hd : decode M.2.1 pc = .ok (.sipush n, 3)) (hv : (Int16.ofInt n).toInt32 = v) (k : Z κ u w σ (pc + 3) L (.int v :: st)) : Z κ u w σ pc L st := by
  obtain ⟨p, l, e, R, s, m, args, below, meth, c, E, A, ad0, n0, Q⟩ := κ
  obtain ⟨hx, hb, hml, hown, hts, hr, hlk, hnm, hR, hK, hF, hA⟩ := B
  intro ad H locs ls hw ha hS hl
  exact lv_sipush hx hb hd hv (k ad H locs ls hw ha hS hl)

theorem Z.lconst (B : zB M κ) {n : Fin 2} {v : Int64} (hd : decode M.2.1 pc = .ok (.lconst n, 1)) (hv : Int64.ofNat (n : Nat) = v) (k : Z κ u w σ (pc + 1) L (.long v :: st)) : Z κ u w σ pc L st := by
  obtain ⟨p, l, e, R, s, m, args, below, meth, c, E, A, ad0, n0, Q⟩ := κ
  obtain ⟨hx, hb, hml, hown, hts, hr, hlk, hnm, hR, hK, hF, hA⟩ := B
  intro ad H locs ls hw ha hS hl
  exact lv_lconst hx hb hd hv (k ad H locs ls hw ha hS hl)

theorem Z.aconst_null (B : zB M κ) (hd : decode M.2.1 pc = .ok (.aconst_null, 1)) (k : Z κ u w σ (pc + 1) L (.null :: st)) : Z κ u w σ pc L st := by
  obtain ⟨p, l, e, R, s, m, args, below, meth, c, E, A, ad0, n0, Q⟩ := κ
  obtain ⟨hx, hb, hml, hown, hts, hr, hlk, hnm, hR, hK, hF, hA⟩ := B
  intro ad H locs ls hw ha hS hl
  exact lv_null hx hb hd (k ad H locs ls hw ha hS hl)

theorem Z.iload_n (B : zB M κ) {n : Fin 4} {x : Int32} (hd : decode M.2.1 pc = .ok (.iload_n n, 1)) (hg : zget L n = some (.int x)) (k : Z κ u w σ (pc + 1) L (.int x :: st)) : Z κ u w σ pc L st := by
  obtain ⟨p, l, e, R, s, m, args, below, meth, c, E, A, ad0, n0, Q⟩ := κ
  obtain ⟨hx, hb, hml, hown, hts, hr, hlk, hnm, hR, hK, hF, hA⟩ := B
  intro ad H locs ls hw ha hS hl
  exact lv_iload_n hx hb hd rfl (zhas_get hl hg) (k ad H locs ls hw ha hS hl)

theorem Z.iload (B : zB M κ) {i : Nat} {x : Int32} (hd : decode M.2.1 pc = .ok (.iload i, 2)) (hg : zget L i = some (.int x)) (k : Z κ u w σ (pc + 2) L (.int x :: st)) : Z κ u w σ pc L st := by
  obtain ⟨p, l, e, R, s, m, args, below, meth, c, E, A, ad0, n0, Q⟩ := κ
  obtain ⟨hx, hb, hml, hown, hts, hr, hlk, hnm, hR, hK, hF, hA⟩ := B
  intro ad H locs ls hw ha hS hl
  exact lv_iload hx hb hd (zhas_get hl hg) (k ad H locs ls hw ha hS hl)

theorem Z.lload_n (B : zB M κ) {n : Fin 4} {x : Int64} (hd : decode M.2.1 pc = .ok (.lload_n n, 1)) (hg : zget L n = some (.long x)) (k : Z κ u w σ (pc + 1) L (.long x :: st)) : Z κ u w σ pc L st := by
  obtain ⟨p, l, e, R, s, m, args, below, meth, c, E, A, ad0, n0, Q⟩ := κ
  obtain ⟨hx, hb, hml, hown, hts, hr, hlk, hnm, hR, hK, hF, hA⟩ := B
  intro ad H locs ls hw ha hS hl
  exact lv_lload_n hx hb hd rfl (zhas_get hl hg) (k ad H locs ls hw ha hS hl)

theorem Z.lload (B : zB M κ) {i : Nat} {x : Int64} (hd : decode M.2.1 pc = .ok (.lload i, 2)) (hg : zget L i = some (.long x)) (k : Z κ u w σ (pc + 2) L (.long x :: st)) : Z κ u w σ pc L st := by
  obtain ⟨p, l, e, R, s, m, args, below, meth, c, E, A, ad0, n0, Q⟩ := κ
  obtain ⟨hx, hb, hml, hown, hts, hr, hlk, hnm, hR, hK, hF, hA⟩ := B
  intro ad H locs ls hw ha hS hl
  exact lv_lload hx hb hd (zhas_get hl hg) (k ad H locs ls hw ha hS hl)

theorem Z.aload_n (B : zB M κ) {n : Fin 4} {v : Value} (hd : decode M.2.1 pc = .ok (.aload_n n, 1)) (hg : zget L n = some v) (hv : zisr v = true) (k : Z κ u w σ (pc + 1) L (v :: st)) : Z κ u w σ pc L st := by
  obtain ⟨p, l, e, R, s, m, args, below, meth, c, E, A, ad0, n0, Q⟩ := κ
  obtain ⟨hx, hb, hml, hown, hts, hr, hlk, hnm, hR, hK, hF, hA⟩ := B
  intro ad H locs ls hw ha hS hl
  have k' := k ad H locs ls hw ha hS hl
  have hg' := zhas_get hl hg
  rw [List.map_cons] at k'
  rcases zisr_c (ad := ad) hF.1 hv with e1 | ⟨a, e1⟩
  · rw [e1] at k' hg'
    exact lv_aload_nN hx hb hd rfl hg' k'
  · rw [e1] at k' hg'
    exact lv_aload_n hx hb hd rfl hg' k'

theorem Z.aload (B : zB M κ) {i : Nat} {v : Value} (hd : decode M.2.1 pc = .ok (.aload i, 2)) (hg : zget L i = some v) (hv : zisr v = true) (k : Z κ u w σ (pc + 2) L (v :: st)) : Z κ u w σ pc L st := by
  obtain ⟨p, l, e, R, s, m, args, below, meth, c, E, A, ad0, n0, Q⟩ := κ
  obtain ⟨hx, hb, hml, hown, hts, hr, hlk, hnm, hR, hK, hF, hA⟩ := B
  intro ad H locs ls hw ha hS hl
  have k' := k ad H locs ls hw ha hS hl
  have hg' := zhas_get hl hg
  rw [List.map_cons] at k'
  rcases zisr_c (ad := ad) hF.1 hv with e1 | ⟨a, e1⟩
  · rw [e1] at k' hg'
    exact lv_aloadN hx hb hd hg' k'
  · rw [e1] at k' hg'
    exact lv_aload hx hb hd hg' k'

theorem Z.istore_n (B : zB M κ) {n : Fin 4} {x : Int32} {L' : List (Nat × Value)} (hd : decode M.2.1 pc = .ok (.istore_n n, 1)) (hi : (n : Nat) < M.2.2.1) (hL : zput L n (.int x) = L') (k : Z κ u w σ (pc + 1) L' st) : Z κ u w σ pc L (.int x :: st) := by
  subst hL
  obtain ⟨p, l, e, R, s, m, args, below, meth, c, E, A, ad0, n0, Q⟩ := κ
  obtain ⟨hx, hb, hml, hown, hts, hr, hlk, hnm, hR, hK, hF, hA⟩ := B
  intro ad H locs ls hw ha hS hl
  exact lv_istore_n hx hb hd rfl hl (by rw [hml]; exact hi) rfl (fun ls' h' => k ad H locs ls' hw ha hS (zhas_put hF.1 (v := .int x) h'))

theorem Z.istore (B : zB M κ) {i : Nat} {x : Int32} {L' : List (Nat × Value)} (hd : decode M.2.1 pc = .ok (.istore i, 2)) (hi : i < M.2.2.1) (hL : zput L i (.int x) = L') (k : Z κ u w σ (pc + 2) L' st) : Z κ u w σ pc L (.int x :: st) := by
  subst hL
  obtain ⟨p, l, e, R, s, m, args, below, meth, c, E, A, ad0, n0, Q⟩ := κ
  obtain ⟨hx, hb, hml, hown, hts, hr, hlk, hnm, hR, hK, hF, hA⟩ := B
  intro ad H locs ls hw ha hS hl
  exact lv_istore hx hb hd hl (by rw [hml]; exact hi) rfl (fun ls' h' => k ad H locs ls' hw ha hS (zhas_put hF.1 (v := .int x) h'))

theorem Z.lstore_n (B : zB M κ) {n : Fin 4} {x : Int64} {L' : List (Nat × Value)} (hd : decode M.2.1 pc = .ok (.lstore_n n, 1)) (hi : (n : Nat) + 1 < M.2.2.1) (hL : zput2 L n (.long x) = L') (k : Z κ u w σ (pc + 1) L' st) : Z κ u w σ pc L (.long x :: st) := by
  subst hL
  obtain ⟨p, l, e, R, s, m, args, below, meth, c, E, A, ad0, n0, Q⟩ := κ
  obtain ⟨hx, hb, hml, hown, hts, hr, hlk, hnm, hR, hK, hF, hA⟩ := B
  intro ad H locs ls hw ha hS hl
  exact lv_lstore_n hx hb hd rfl hl (by rw [hml]; exact hi) rfl (fun ls' h' => k ad H locs ls' hw ha hS (zhas_put2 hF.1 (v := .long x) h'))

theorem Z.lstore (B : zB M κ) {i : Nat} {x : Int64} {L' : List (Nat × Value)} (hd : decode M.2.1 pc = .ok (.lstore i, 2)) (hi : i + 1 < M.2.2.1) (hL : zput2 L i (.long x) = L') (k : Z κ u w σ (pc + 2) L' st) : Z κ u w σ pc L (.long x :: st) := by
  subst hL
  obtain ⟨p, l, e, R, s, m, args, below, meth, c, E, A, ad0, n0, Q⟩ := κ
  obtain ⟨hx, hb, hml, hown, hts, hr, hlk, hnm, hR, hK, hF, hA⟩ := B
  intro ad H locs ls hw ha hS hl
  exact lv_lstore hx hb hd hl (by rw [hml]; exact hi) rfl (fun ls' h' => k ad H locs ls' hw ha hS (zhas_put2 hF.1 (v := .long x) h'))

theorem Z.astore_n (B : zB M κ) {n : Fin 4} {v : Value} {L' : List (Nat × Value)} (hd : decode M.2.1 pc = .ok (.astore_n n, 1)) (hi : (n : Nat) < M.2.2.1) (hv : zisr v = true) (hL : zput L n v = L') (k : Z κ u w σ (pc + 1) L' st) : Z κ u w σ pc L (v :: st) := by
  subst hL
  obtain ⟨p, l, e, R, s, m, args, below, meth, c, E, A, ad0, n0, Q⟩ := κ
  obtain ⟨hx, hb, hml, hown, hts, hr, hlk, hnm, hR, hK, hF, hA⟩ := B
  intro ad H locs ls hw ha hS hl
  rw [List.map_cons]
  rcases zisr_c (ad := ad) hF.1 hv with e1 | ⟨a, e1⟩
  · rw [e1]
    exact lv_astore_nN hx hb hd rfl hl (by rw [hml]; exact hi) rfl (fun ls' h' => k ad H locs ls' hw ha hS (zhas_put hF.1 (v := v) (by rw [e1]; exact h')))
  · rw [e1]
    exact lv_astore_n hx hb hd rfl hl (by rw [hml]; exact hi) rfl (fun ls' h' => k ad H locs ls' hw ha hS (zhas_put hF.1 (v := v) (by rw [e1]; exact h')))

theorem Z.astore (B : zB M κ) {i : Nat} {v : Value} {L' : List (Nat × Value)} (hd : decode M.2.1 pc = .ok (.astore i, 2)) (hi : i < M.2.2.1) (hv : zisr v = true) (hL : zput L i v = L') (k : Z κ u w σ (pc + 2) L' st) : Z κ u w σ pc L (v :: st) := by
  subst hL
  obtain ⟨p, l, e, R, s, m, args, below, meth, c, E, A, ad0, n0, Q⟩ := κ
  obtain ⟨hx, hb, hml, hown, hts, hr, hlk, hnm, hR, hK, hF, hA⟩ := B
  intro ad H locs ls hw ha hS hl
  rw [List.map_cons]
  rcases zisr_c (ad := ad) hF.1 hv with e1 | ⟨a, e1⟩
  · rw [e1]
    exact lv_astoreN hx hb hd hl (by rw [hml]; exact hi) rfl (fun ls' h' => k ad H locs ls' hw ha hS (zhas_put hF.1 (v := v) (by rw [e1]; exact h')))
  · rw [e1]
    exact lv_astore hx hb hd hl (by rw [hml]; exact hi) rfl (fun ls' h' => k ad H locs ls' hw ha hS (zhas_put hF.1 (v := v) (by rw [e1]; exact h')))

theorem Z.iinc (B : zB M κ) {i : Nat} {n : Int} {x v : Int32} {L' : List (Nat × Value)} (hd : decode M.2.1 pc = .ok (.iinc i n, 3)) (hi : i < M.2.2.1) (hg : zget L i = some (.int x)) (hv : x + Int32.ofInt n = v) (hL : zput L i (.int v) = L') (k : Z κ u w σ (pc + 3) L' st) : Z κ u w σ pc L st := by
  subst hL
  obtain ⟨p, l, e, R, s, m, args, below, meth, c, E, A, ad0, n0, Q⟩ := κ
  obtain ⟨hx, hb, hml, hown, hts, hr, hlk, hnm, hR, hK, hF, hA⟩ := B
  intro ad H locs ls hw ha hS hl
  obtain ⟨j, hj⟩ := List.getElem?_of_mem (List.mem_map.mpr ⟨(i, .int x), zget_mem L hg, rfl⟩ : (i, zc E ad (.int x)) ∈ zcL E ad L)
  exact lv_iinc hx hb hd hl hj hv (by rw [hml]; exact hi) rfl (fun ls' h' => k ad H locs ls' hw ha hS (zhas_put hF.1 (v := .int v) h'))

theorem Z.iadd (B : zB M κ) {x y : Int32} (hd : decode M.2.1 pc = .ok (.iadd, 1)) (k : Z κ u w σ (pc + 1) L (.int (x + y) :: st)) : Z κ u w σ pc L (.int y :: .int x :: st) := by
  obtain ⟨p, l, e, R, s, m, args, below, meth, c, E, A, ad0, n0, Q⟩ := κ
  obtain ⟨hx, hb, hml, hown, hts, hr, hlk, hnm, hR, hK, hF, hA⟩ := B
  intro ad H locs ls hw ha hS hl
  exact lv_iadd hx hb hd (k ad H locs ls hw ha hS hl)

theorem Z.isub (B : zB M κ) {x y : Int32} (hd : decode M.2.1 pc = .ok (.isub, 1)) (k : Z κ u w σ (pc + 1) L (.int (x - y) :: st)) : Z κ u w σ pc L (.int y :: .int x :: st) := by
  obtain ⟨p, l, e, R, s, m, args, below, meth, c, E, A, ad0, n0, Q⟩ := κ
  obtain ⟨hx, hb, hml, hown, hts, hr, hlk, hnm, hR, hK, hF, hA⟩ := B
  intro ad H locs ls hw ha hS hl
  exact lv_isub hx hb hd (k ad H locs ls hw ha hS hl)

theorem Z.imul (B : zB M κ) {x y : Int32} (hd : decode M.2.1 pc = .ok (.imul, 1)) (k : Z κ u w σ (pc + 1) L (.int (x * y) :: st)) : Z κ u w σ pc L (.int y :: .int x :: st) := by
  obtain ⟨p, l, e, R, s, m, args, below, meth, c, E, A, ad0, n0, Q⟩ := κ
  obtain ⟨hx, hb, hml, hown, hts, hr, hlk, hnm, hR, hK, hF, hA⟩ := B
  intro ad H locs ls hw ha hS hl
  exact lv_imul hx hb hd (k ad H locs ls hw ha hS hl)

theorem Z.iand (B : zB M κ) {x y : Int32} (hd : decode M.2.1 pc = .ok (.iand, 1)) (k : Z κ u w σ (pc + 1) L (.int (x &&& y) :: st)) : Z κ u w σ pc L (.int y :: .int x :: st) := by
  obtain ⟨p, l, e, R, s, m, args, below, meth, c, E, A, ad0, n0, Q⟩ := κ
  obtain ⟨hx, hb, hml, hown, hts, hr, hlk, hnm, hR, hK, hF, hA⟩ := B
  intro ad H locs ls hw ha hS hl
  exact lv_iand hx hb hd (k ad H locs ls hw ha hS hl)

theorem Z.ior (B : zB M κ) {x y : Int32} (hd : decode M.2.1 pc = .ok (.ior, 1)) (k : Z κ u w σ (pc + 1) L (.int (x ||| y) :: st)) : Z κ u w σ pc L (.int y :: .int x :: st) := by
  obtain ⟨p, l, e, R, s, m, args, below, meth, c, E, A, ad0, n0, Q⟩ := κ
  obtain ⟨hx, hb, hml, hown, hts, hr, hlk, hnm, hR, hK, hF, hA⟩ := B
  intro ad H locs ls hw ha hS hl
  exact lv_ior hx hb hd (k ad H locs ls hw ha hS hl)

theorem Z.ixor (B : zB M κ) {x y : Int32} (hd : decode M.2.1 pc = .ok (.ixor, 1)) (k : Z κ u w σ (pc + 1) L (.int (x ^^^ y) :: st)) : Z κ u w σ pc L (.int y :: .int x :: st) := by
  obtain ⟨p, l, e, R, s, m, args, below, meth, c, E, A, ad0, n0, Q⟩ := κ
  obtain ⟨hx, hb, hml, hown, hts, hr, hlk, hnm, hR, hK, hF, hA⟩ := B
  intro ad H locs ls hw ha hS hl
  exact lv_ixor hx hb hd (k ad H locs ls hw ha hS hl)

theorem Z.ladd (B : zB M κ) {x y : Int64} (hd : decode M.2.1 pc = .ok (.ladd, 1)) (k : Z κ u w σ (pc + 1) L (.long (x + y) :: st)) : Z κ u w σ pc L (.long y :: .long x :: st) := by
  obtain ⟨p, l, e, R, s, m, args, below, meth, c, E, A, ad0, n0, Q⟩ := κ
  obtain ⟨hx, hb, hml, hown, hts, hr, hlk, hnm, hR, hK, hF, hA⟩ := B
  intro ad H locs ls hw ha hS hl
  exact lv_ladd hx hb hd (k ad H locs ls hw ha hS hl)

theorem Z.lsub (B : zB M κ) {x y : Int64} (hd : decode M.2.1 pc = .ok (.lsub, 1)) (k : Z κ u w σ (pc + 1) L (.long (x - y) :: st)) : Z κ u w σ pc L (.long y :: .long x :: st) := by
  obtain ⟨p, l, e, R, s, m, args, below, meth, c, E, A, ad0, n0, Q⟩ := κ
  obtain ⟨hx, hb, hml, hown, hts, hr, hlk, hnm, hR, hK, hF, hA⟩ := B
  intro ad H locs ls hw ha hS hl
  exact lv_lsub hx hb hd (k ad H locs ls hw ha hS hl)

theorem Z.lmul (B : zB M κ) {x y : Int64} (hd : decode M.2.1 pc = .ok (.lmul, 1)) (k : Z κ u w σ (pc + 1) L (.long (x * y) :: st)) : Z κ u w σ pc L (.long y :: .long x :: st) := by
  obtain ⟨p, l, e, R, s, m, args, below, meth, c, E, A, ad0, n0, Q⟩ := κ
  obtain ⟨hx, hb, hml, hown, hts, hr, hlk, hnm, hR, hK, hF, hA⟩ := B
  intro ad H locs ls hw ha hS hl
  exact lv_lmul hx hb hd (k ad H locs ls hw ha hS hl)

theorem Z.land (B : zB M κ) {x y : Int64} (hd : decode M.2.1 pc = .ok (.land, 1)) (k : Z κ u w σ (pc + 1) L (.long (x &&& y) :: st)) : Z κ u w σ pc L (.long y :: .long x :: st) := by
  obtain ⟨p, l, e, R, s, m, args, below, meth, c, E, A, ad0, n0, Q⟩ := κ
  obtain ⟨hx, hb, hml, hown, hts, hr, hlk, hnm, hR, hK, hF, hA⟩ := B
  intro ad H locs ls hw ha hS hl
  exact lv_land hx hb hd (k ad H locs ls hw ha hS hl)

theorem Z.lor (B : zB M κ) {x y : Int64} (hd : decode M.2.1 pc = .ok (.lor, 1)) (k : Z κ u w σ (pc + 1) L (.long (x ||| y) :: st)) : Z κ u w σ pc L (.long y :: .long x :: st) := by
  obtain ⟨p, l, e, R, s, m, args, below, meth, c, E, A, ad0, n0, Q⟩ := κ
  obtain ⟨hx, hb, hml, hown, hts, hr, hlk, hnm, hR, hK, hF, hA⟩ := B
  intro ad H locs ls hw ha hS hl
  exact lv_lor hx hb hd (k ad H locs ls hw ha hS hl)

theorem Z.lxor (B : zB M κ) {x y : Int64} (hd : decode M.2.1 pc = .ok (.lxor, 1)) (k : Z κ u w σ (pc + 1) L (.long (x ^^^ y) :: st)) : Z κ u w σ pc L (.long y :: .long x :: st) := by
  obtain ⟨p, l, e, R, s, m, args, below, meth, c, E, A, ad0, n0, Q⟩ := κ
  obtain ⟨hx, hb, hml, hown, hts, hr, hlk, hnm, hR, hK, hF, hA⟩ := B
  intro ad H locs ls hw ha hS hl
  exact lv_lxor hx hb hd (k ad H locs ls hw ha hS hl)

theorem Z.idiv (B : zB M κ) {x y : Int32} (hd : decode M.2.1 pc = .ok (.idiv, 1)) (hne : ¬ y = 0) (k : Z κ u w σ (pc + 1) L (.int (x / y) :: st)) : Z κ u w σ pc L (.int y :: .int x :: st) := by
  obtain ⟨p, l, e, R, s, m, args, below, meth, c, E, A, ad0, n0, Q⟩ := κ
  obtain ⟨hx, hb, hml, hown, hts, hr, hlk, hnm, hR, hK, hF, hA⟩ := B
  intro ad H locs ls hw ha hS hl
  exact lv_idiv hx hb hd hne (k ad H locs ls hw ha hS hl)

theorem Z.irem (B : zB M κ) {x y : Int32} (hd : decode M.2.1 pc = .ok (.irem, 1)) (hne : ¬ y = 0) (k : Z κ u w σ (pc + 1) L (.int (x - x / y * y) :: st)) : Z κ u w σ pc L (.int y :: .int x :: st) := by
  obtain ⟨p, l, e, R, s, m, args, below, meth, c, E, A, ad0, n0, Q⟩ := κ
  obtain ⟨hx, hb, hml, hown, hts, hr, hlk, hnm, hR, hK, hF, hA⟩ := B
  intro ad H locs ls hw ha hS hl
  exact lv_irem hx hb hd hne (k ad H locs ls hw ha hS hl)

theorem Z.ineg (B : zB M κ) {x : Int32} (hd : decode M.2.1 pc = .ok (.ineg, 1)) (k : Z κ u w σ (pc + 1) L (.int (-x) :: st)) : Z κ u w σ pc L (.int x :: st) := by
  obtain ⟨p, l, e, R, s, m, args, below, meth, c, E, A, ad0, n0, Q⟩ := κ
  obtain ⟨hx, hb, hml, hown, hts, hr, hlk, hnm, hR, hK, hF, hA⟩ := B
  intro ad H locs ls hw ha hS hl
  exact lv_ineg hx hb hd (k ad H locs ls hw ha hS hl)

theorem Z.ishl (B : zB M κ) {x y : Int32} (hd : decode M.2.1 pc = .ok (.ishl, 1)) (k : Z κ u w σ (pc + 1) L (.int (x <<< (y &&& 31)) :: st)) : Z κ u w σ pc L (.int y :: .int x :: st) := by
  obtain ⟨p, l, e, R, s, m, args, below, meth, c, E, A, ad0, n0, Q⟩ := κ
  obtain ⟨hx, hb, hml, hown, hts, hr, hlk, hnm, hR, hK, hF, hA⟩ := B
  intro ad H locs ls hw ha hS hl
  exact lv_ishl hx hb hd (k ad H locs ls hw ha hS hl)

theorem Z.ishr (B : zB M κ) {x y : Int32} (hd : decode M.2.1 pc = .ok (.ishr, 1)) (k : Z κ u w σ (pc + 1) L (.int (x >>> (y &&& 31)) :: st)) : Z κ u w σ pc L (.int y :: .int x :: st) := by
  obtain ⟨p, l, e, R, s, m, args, below, meth, c, E, A, ad0, n0, Q⟩ := κ
  obtain ⟨hx, hb, hml, hown, hts, hr, hlk, hnm, hR, hK, hF, hA⟩ := B
  intro ad H locs ls hw ha hS hl
  exact lv_ishr hx hb hd (k ad H locs ls hw ha hS hl)

theorem Z.iushr (B : zB M κ) {x y : Int32} (hd : decode M.2.1 pc = .ok (.iushr, 1)) (k : Z κ u w σ (pc + 1) L (.int (x.toUInt32 >>> (y.toUInt32 &&& Int32.toUInt32 31)).toInt32 :: st)) : Z κ u w σ pc L (.int y :: .int x :: st) := by
  obtain ⟨p, l, e, R, s, m, args, below, meth, c, E, A, ad0, n0, Q⟩ := κ
  obtain ⟨hx, hb, hml, hown, hts, hr, hlk, hnm, hR, hK, hF, hA⟩ := B
  intro ad H locs ls hw ha hS hl
  exact lv_iushr hx hb hd rfl (k ad H locs ls hw ha hS hl)

theorem Z.lshl (B : zB M κ) {x : Int64} {y : Int32} (hd : decode M.2.1 pc = .ok (.lshl, 1)) (k : Z κ u w σ (pc + 1) L (.long (x <<< (y.toInt64 &&& 63)) :: st)) : Z κ u w σ pc L (.int y :: .long x :: st) := by
  obtain ⟨p, l, e, R, s, m, args, below, meth, c, E, A, ad0, n0, Q⟩ := κ
  obtain ⟨hx, hb, hml, hown, hts, hr, hlk, hnm, hR, hK, hF, hA⟩ := B
  intro ad H locs ls hw ha hS hl
  exact lv_lshl hx hb hd rfl (k ad H locs ls hw ha hS hl)

theorem Z.i2l (B : zB M κ) {x : Int32} (hd : decode M.2.1 pc = .ok (.i2l, 1)) (k : Z κ u w σ (pc + 1) L (.long x.toInt64 :: st)) : Z κ u w σ pc L (.int x :: st) := by
  obtain ⟨p, l, e, R, s, m, args, below, meth, c, E, A, ad0, n0, Q⟩ := κ
  obtain ⟨hx, hb, hml, hown, hts, hr, hlk, hnm, hR, hK, hF, hA⟩ := B
  intro ad H locs ls hw ha hS hl
  exact lv_i2l hx hb hd rfl (k ad H locs ls hw ha hS hl)

theorem Z.l2i (B : zB M κ) {x : Int64} (hd : decode M.2.1 pc = .ok (.l2i, 1)) (k : Z κ u w σ (pc + 1) L (.int x.toInt32 :: st)) : Z κ u w σ pc L (.long x :: st) := by
  obtain ⟨p, l, e, R, s, m, args, below, meth, c, E, A, ad0, n0, Q⟩ := κ
  obtain ⟨hx, hb, hml, hown, hts, hr, hlk, hnm, hR, hK, hF, hA⟩ := B
  intro ad H locs ls hw ha hS hl
  exact lv_l2i hx hb hd rfl (k ad H locs ls hw ha hS hl)

theorem Z.i2b (B : zB M κ) {x : Int32} (hd : decode M.2.1 pc = .ok (.i2b, 1)) (k : Z κ u w σ (pc + 1) L (.int x.toInt8.toInt32 :: st)) : Z κ u w σ pc L (.int x :: st) := by
  obtain ⟨p, l, e, R, s, m, args, below, meth, c, E, A, ad0, n0, Q⟩ := κ
  obtain ⟨hx, hb, hml, hown, hts, hr, hlk, hnm, hR, hK, hF, hA⟩ := B
  intro ad H locs ls hw ha hS hl
  exact lv_i2b hx hb hd rfl (k ad H locs ls hw ha hS hl)

theorem Z.i2s (B : zB M κ) {x : Int32} (hd : decode M.2.1 pc = .ok (.i2s, 1)) (k : Z κ u w σ (pc + 1) L (.int x.toInt16.toInt32 :: st)) : Z κ u w σ pc L (.int x :: st) := by
  obtain ⟨p, l, e, R, s, m, args, below, meth, c, E, A, ad0, n0, Q⟩ := κ
  obtain ⟨hx, hb, hml, hown, hts, hr, hlk, hnm, hR, hK, hF, hA⟩ := B
  intro ad H locs ls hw ha hS hl
  exact lv_i2s hx hb hd rfl (k ad H locs ls hw ha hS hl)

theorem Z.i2c (B : zB M κ) {x : Int32} (hd : decode M.2.1 pc = .ok (.i2c, 1)) (k : Z κ u w σ (pc + 1) L (.int (x.toUInt32 % 65536).toInt32 :: st)) : Z κ u w σ pc L (.int x :: st) := by
  obtain ⟨p, l, e, R, s, m, args, below, meth, c, E, A, ad0, n0, Q⟩ := κ
  obtain ⟨hx, hb, hml, hown, hts, hr, hlk, hnm, hR, hK, hF, hA⟩ := B
  intro ad H locs ls hw ha hS hl
  exact lv_i2c hx hb hd rfl (k ad H locs ls hw ha hS hl)

theorem Z.lcmp (B : zB M κ) {x y : Int64} (hd : decode M.2.1 pc = .ok (.lcmp, 1)) (k : Z κ u w σ (pc + 1) L (.int (lg_cmp x y) :: st)) : Z κ u w σ pc L (.long y :: .long x :: st) := by
  obtain ⟨p, l, e, R, s, m, args, below, meth, c, E, A, ad0, n0, Q⟩ := κ
  obtain ⟨hx, hb, hml, hown, hts, hr, hlk, hnm, hR, hK, hF, hA⟩ := B
  intro ad H locs ls hw ha hS hl
  exact W.lcmp hx hb hd (k ad H locs ls hw ha hS hl)

theorem Z.ldc (B : zB M κ) {idx : Nat} {v : Int32} (hd : decode M.2.1 pc = .ok (.ldc idx, 2)) (hc : Cond.constant M.1.cls idx v ∈ zT) (k : Z κ u w σ (pc + 2) L (.int v :: st)) : Z κ u w σ pc L st := by
  obtain ⟨p, l, e, R, s, m, args, below, meth, c, E, A, ad0, n0, Q⟩ := κ
  obtain ⟨hx, hb, hml, hown, hts, hr, hlk, hnm, hR, hK, hF, hA⟩ := B
  intro ad H locs ls hw ha hS hl
  exact lv_ldc hx hb hown (hts _ hc) hd (k ad H locs ls hw ha hS hl)

theorem Z.ldc2 (B : zB M κ) {idx : Nat} {v : Int64} (hd : decode M.2.1 pc = .ok (.ldc2_w idx, 3)) (hc : Cond.constantLong M.1.cls idx v ∈ zT) (k : Z κ u w σ (pc + 3) L (.long v :: st)) : Z κ u w σ pc L st := by
  obtain ⟨p, l, e, R, s, m, args, below, meth, c, E, A, ad0, n0, Q⟩ := κ
  obtain ⟨hx, hb, hml, hown, hts, hr, hlk, hnm, hR, hK, hF, hA⟩ := B
  intro ad H locs ls hw ha hS hl
  exact lv_ldc2 hx hb hown (hts _ hc) hd (k ad H locs ls hw ha hS hl)

theorem Z.dup (B : zB M κ) {v : Value} (hd : decode M.2.1 pc = .ok (.dup, 1)) (hv : v.category = 1) (k : Z κ u w σ (pc + 1) L (v :: v :: st)) : Z κ u w σ pc L (v :: st) := by
  obtain ⟨p, l, e, R, s, m, args, below, meth, c, E, A, ad0, n0, Q⟩ := κ
  obtain ⟨hx, hb, hml, hown, hts, hr, hlk, hnm, hR, hK, hF, hA⟩ := B
  intro ad H locs ls hw ha hS hl
  exact lv_dup hx hb hd (by rw [zcat hF.1]; exact hv) (k ad H locs ls hw ha hS hl)
theorem Z.pop (B : zB M κ) {v : Value} (hd : decode M.2.1 pc = .ok (.pop, 1)) (hv : v.category = 1) (k : Z κ u w σ (pc + 1) L st) : Z κ u w σ pc L (v :: st) := by
  obtain ⟨p, l, e, R, s, m, args, below, meth, c, E, A, ad0, n0, Q⟩ := κ
  obtain ⟨hx, hb, hml, hown, hts, hr, hlk, hnm, hR, hK, hF, hA⟩ := B
  intro ad H locs ls hw ha hS hl
  exact lv_pop hx hb hd (by rw [zcat hF.1]; exact hv) (k ad H locs ls hw ha hS hl)
theorem Z.dup_x1 (B : zB M κ) {v x : Value} (hd : decode M.2.1 pc = .ok (.dup_x1, 1)) (hv : v.category = 1) (hx1 : x.category = 1) (k : Z κ u w σ (pc + 1) L (v :: x :: v :: st)) : Z κ u w σ pc L (v :: x :: st) := by
  obtain ⟨p, l, e, R, s, m, args, below, meth, c, E, A, ad0, n0, Q⟩ := κ
  obtain ⟨hx, hb, hml, hown, hts, hr, hlk, hnm, hR, hK, hF, hA⟩ := B
  intro ad H locs ls hw ha hS hl
  exact lv_dup_x1 hx hb hd (by rw [zcat hF.1]; exact hv) (by rw [zcat hF.1]; exact hx1) (k ad H locs ls hw ha hS hl)
theorem Z.dup2 (B : zB M κ) {v x : Value} (hd : decode M.2.1 pc = .ok (.dup2, 1)) (hv : v.category = 1) (hx1 : x.category = 1) (k : Z κ u w σ (pc + 1) L (v :: x :: v :: x :: st)) : Z κ u w σ pc L (v :: x :: st) := by
  obtain ⟨p, l, e, R, s, m, args, below, meth, c, E, A, ad0, n0, Q⟩ := κ
  obtain ⟨hx, hb, hml, hown, hts, hr, hlk, hnm, hR, hK, hF, hA⟩ := B
  intro ad H locs ls hw ha hS hl
  exact lv_dup2_11 hx hb hd (by rw [zcat hF.1]; exact hv) (by rw [zcat hF.1]; exact hx1) (k ad H locs ls hw ha hS hl)

theorem Z.if_eq (B : zB M κ) {x : Int32} {off : Int} {tgt : Nat} (hd : decode M.2.1 pc = .ok (.ifCond .eq off, 3)) (ht : (pc : Int) + off = (tgt : Int)) (kt : x = 0 → Z κ u w σ tgt L st) (kf : ¬ x = 0 → Z κ u w σ (pc + 3) L st) : Z κ u w σ pc L (.int x :: st) := by
  obtain ⟨p, l, e, R, s, m, args, below, meth, c, E, A, ad0, n0, Q⟩ := κ
  obtain ⟨hx, hb, hml, hown, hts, hr, hlk, hnm, hR, hK, hF, hA⟩ := B
  intro ad H locs ls hw ha hS hl
  exact lv_if_eq hx hb hd ht (fun z => kt z ad H locs ls hw ha hS hl) (fun z => kf z ad H locs ls hw ha hS hl)

theorem Z.icmp_eq (B : zB M κ) {x y : Int32} {off : Int} {tgt : Nat} (hd : decode M.2.1 pc = .ok (.if_icmp .eq off, 3)) (ht : (pc : Int) + off = (tgt : Int)) (kt : x = y → Z κ u w σ tgt L st) (kf : ¬ x = y → Z κ u w σ (pc + 3) L st) : Z κ u w σ pc L (.int y :: .int x :: st) := by
  obtain ⟨p, l, e, R, s, m, args, below, meth, c, E, A, ad0, n0, Q⟩ := κ
  obtain ⟨hx, hb, hml, hown, hts, hr, hlk, hnm, hR, hK, hF, hA⟩ := B
  intro ad H locs ls hw ha hS hl
  exact lv_icmp_eq hx hb hd ht (fun z => kt z ad H locs ls hw ha hS hl) (fun z => kf z ad H locs ls hw ha hS hl)

theorem Z.if_ne (B : zB M κ) {x : Int32} {off : Int} {tgt : Nat} (hd : decode M.2.1 pc = .ok (.ifCond .ne off, 3)) (ht : (pc : Int) + off = (tgt : Int)) (kt : ¬ x = 0 → Z κ u w σ tgt L st) (kf : x = 0 → Z κ u w σ (pc + 3) L st) : Z κ u w σ pc L (.int x :: st) := by
  obtain ⟨p, l, e, R, s, m, args, below, meth, c, E, A, ad0, n0, Q⟩ := κ
  obtain ⟨hx, hb, hml, hown, hts, hr, hlk, hnm, hR, hK, hF, hA⟩ := B
  intro ad H locs ls hw ha hS hl
  exact lv_if_ne hx hb hd ht (fun z => kt z ad H locs ls hw ha hS hl) (fun z => kf z ad H locs ls hw ha hS hl)

theorem Z.icmp_ne (B : zB M κ) {x y : Int32} {off : Int} {tgt : Nat} (hd : decode M.2.1 pc = .ok (.if_icmp .ne off, 3)) (ht : (pc : Int) + off = (tgt : Int)) (kt : ¬ x = y → Z κ u w σ tgt L st) (kf : x = y → Z κ u w σ (pc + 3) L st) : Z κ u w σ pc L (.int y :: .int x :: st) := by
  obtain ⟨p, l, e, R, s, m, args, below, meth, c, E, A, ad0, n0, Q⟩ := κ
  obtain ⟨hx, hb, hml, hown, hts, hr, hlk, hnm, hR, hK, hF, hA⟩ := B
  intro ad H locs ls hw ha hS hl
  exact lv_icmp_ne hx hb hd ht (fun z => kt z ad H locs ls hw ha hS hl) (fun z => kf z ad H locs ls hw ha hS hl)

theorem Z.if_lt (B : zB M κ) {x : Int32} {off : Int} {tgt : Nat} (hd : decode M.2.1 pc = .ok (.ifCond .lt off, 3)) (ht : (pc : Int) + off = (tgt : Int)) (kt : x < 0 → Z κ u w σ tgt L st) (kf : ¬ x < 0 → Z κ u w σ (pc + 3) L st) : Z κ u w σ pc L (.int x :: st) := by
  obtain ⟨p, l, e, R, s, m, args, below, meth, c, E, A, ad0, n0, Q⟩ := κ
  obtain ⟨hx, hb, hml, hown, hts, hr, hlk, hnm, hR, hK, hF, hA⟩ := B
  intro ad H locs ls hw ha hS hl
  exact lv_if_lt hx hb hd ht (fun z => kt z ad H locs ls hw ha hS hl) (fun z => kf z ad H locs ls hw ha hS hl)

theorem Z.icmp_lt (B : zB M κ) {x y : Int32} {off : Int} {tgt : Nat} (hd : decode M.2.1 pc = .ok (.if_icmp .lt off, 3)) (ht : (pc : Int) + off = (tgt : Int)) (kt : x < y → Z κ u w σ tgt L st) (kf : ¬ x < y → Z κ u w σ (pc + 3) L st) : Z κ u w σ pc L (.int y :: .int x :: st) := by
  obtain ⟨p, l, e, R, s, m, args, below, meth, c, E, A, ad0, n0, Q⟩ := κ
  obtain ⟨hx, hb, hml, hown, hts, hr, hlk, hnm, hR, hK, hF, hA⟩ := B
  intro ad H locs ls hw ha hS hl
  exact lv_icmp_lt hx hb hd ht (fun z => kt z ad H locs ls hw ha hS hl) (fun z => kf z ad H locs ls hw ha hS hl)

theorem Z.if_ge (B : zB M κ) {x : Int32} {off : Int} {tgt : Nat} (hd : decode M.2.1 pc = .ok (.ifCond .ge off, 3)) (ht : (pc : Int) + off = (tgt : Int)) (kt : 0 ≤ x → Z κ u w σ tgt L st) (kf : ¬ 0 ≤ x → Z κ u w σ (pc + 3) L st) : Z κ u w σ pc L (.int x :: st) := by
  obtain ⟨p, l, e, R, s, m, args, below, meth, c, E, A, ad0, n0, Q⟩ := κ
  obtain ⟨hx, hb, hml, hown, hts, hr, hlk, hnm, hR, hK, hF, hA⟩ := B
  intro ad H locs ls hw ha hS hl
  exact lv_if_ge hx hb hd ht (fun z => kt z ad H locs ls hw ha hS hl) (fun z => kf z ad H locs ls hw ha hS hl)

theorem Z.icmp_ge (B : zB M κ) {x y : Int32} {off : Int} {tgt : Nat} (hd : decode M.2.1 pc = .ok (.if_icmp .ge off, 3)) (ht : (pc : Int) + off = (tgt : Int)) (kt : y ≤ x → Z κ u w σ tgt L st) (kf : ¬ y ≤ x → Z κ u w σ (pc + 3) L st) : Z κ u w σ pc L (.int y :: .int x :: st) := by
  obtain ⟨p, l, e, R, s, m, args, below, meth, c, E, A, ad0, n0, Q⟩ := κ
  obtain ⟨hx, hb, hml, hown, hts, hr, hlk, hnm, hR, hK, hF, hA⟩ := B
  intro ad H locs ls hw ha hS hl
  exact lv_icmp_ge hx hb hd ht (fun z => kt z ad H locs ls hw ha hS hl) (fun z => kf z ad H locs ls hw ha hS hl)

theorem Z.if_gt (B : zB M κ) {x : Int32} {off : Int} {tgt : Nat} (hd : decode M.2.1 pc = .ok (.ifCond .gt off, 3)) (ht : (pc : Int) + off = (tgt : Int)) (kt : 0 < x → Z κ u w σ tgt L st) (kf : ¬ 0 < x → Z κ u w σ (pc + 3) L st) : Z κ u w σ pc L (.int x :: st) := by
  obtain ⟨p, l, e, R, s, m, args, below, meth, c, E, A, ad0, n0, Q⟩ := κ
  obtain ⟨hx, hb, hml, hown, hts, hr, hlk, hnm, hR, hK, hF, hA⟩ := B
  intro ad H locs ls hw ha hS hl
  exact lv_if_gt hx hb hd ht (fun z => kt z ad H locs ls hw ha hS hl) (fun z => kf z ad H locs ls hw ha hS hl)

theorem Z.icmp_gt (B : zB M κ) {x y : Int32} {off : Int} {tgt : Nat} (hd : decode M.2.1 pc = .ok (.if_icmp .gt off, 3)) (ht : (pc : Int) + off = (tgt : Int)) (kt : y < x → Z κ u w σ tgt L st) (kf : ¬ y < x → Z κ u w σ (pc + 3) L st) : Z κ u w σ pc L (.int y :: .int x :: st) := by
  obtain ⟨p, l, e, R, s, m, args, below, meth, c, E, A, ad0, n0, Q⟩ := κ
  obtain ⟨hx, hb, hml, hown, hts, hr, hlk, hnm, hR, hK, hF, hA⟩ := B
  intro ad H locs ls hw ha hS hl
  exact lv_icmp_gt hx hb hd ht (fun z => kt z ad H locs ls hw ha hS hl) (fun z => kf z ad H locs ls hw ha hS hl)

theorem Z.if_le (B : zB M κ) {x : Int32} {off : Int} {tgt : Nat} (hd : decode M.2.1 pc = .ok (.ifCond .le off, 3)) (ht : (pc : Int) + off = (tgt : Int)) (kt : x ≤ 0 → Z κ u w σ tgt L st) (kf : ¬ x ≤ 0 → Z κ u w σ (pc + 3) L st) : Z κ u w σ pc L (.int x :: st) := by
  obtain ⟨p, l, e, R, s, m, args, below, meth, c, E, A, ad0, n0, Q⟩ := κ
  obtain ⟨hx, hb, hml, hown, hts, hr, hlk, hnm, hR, hK, hF, hA⟩ := B
  intro ad H locs ls hw ha hS hl
  exact lv_if_le hx hb hd ht (fun z => kt z ad H locs ls hw ha hS hl) (fun z => kf z ad H locs ls hw ha hS hl)

theorem Z.icmp_le (B : zB M κ) {x y : Int32} {off : Int} {tgt : Nat} (hd : decode M.2.1 pc = .ok (.if_icmp .le off, 3)) (ht : (pc : Int) + off = (tgt : Int)) (kt : x ≤ y → Z κ u w σ tgt L st) (kf : ¬ x ≤ y → Z κ u w σ (pc + 3) L st) : Z κ u w σ pc L (.int y :: .int x :: st) := by
  obtain ⟨p, l, e, R, s, m, args, below, meth, c, E, A, ad0, n0, Q⟩ := κ
  obtain ⟨hx, hb, hml, hown, hts, hr, hlk, hnm, hR, hK, hF, hA⟩ := B
  intro ad H locs ls hw ha hS hl
  exact lv_icmp_le hx hb hd ht (fun z => kt z ad H locs ls hw ha hS hl) (fun z => kf z ad H locs ls hw ha hS hl)

theorem Z.goto (B : zB M κ) {off : Int} {tgt : Nat} (hd : decode M.2.1 pc = .ok (.goto off, 3)) (ht : (pc : Int) + off = (tgt : Int)) (k : Z κ u w σ tgt L st) : Z κ u w σ pc L st := by
  obtain ⟨p, l, e, R, s, m, args, below, meth, c, E, A, ad0, n0, Q⟩ := κ
  obtain ⟨hx, hb, hml, hown, hts, hr, hlk, hnm, hR, hK, hF, hA⟩ := B
  intro ad H locs ls hw ha hS hl
  exact lv_goto hx hb hd ht (k ad H locs ls hw ha hS hl)

theorem Z.ifnull_r (B : zB M κ) {x : Nat} {off : Int} (hd : decode M.2.1 pc = .ok (.ifnull off, 3)) (k : Z κ u w σ (pc + 3) L st) : Z κ u w σ pc L (.ref x :: st) := by
  obtain ⟨p, l, e, R, s, m, args, below, meth, c, E, A, ad0, n0, Q⟩ := κ
  obtain ⟨hx, hb, hml, hown, hts, hr, hlk, hnm, hR, hK, hF, hA⟩ := B
  intro ad H locs ls hw ha hS hl
  exact lv_ifnull hx hb hd (k ad H locs ls hw ha hS hl)

theorem Z.ifnull_n (B : zB M κ) {off : Int} {tgt : Nat} (hd : decode M.2.1 pc = .ok (.ifnull off, 3)) (ht : (pc : Int) + off = (tgt : Int)) (k : Z κ u w σ tgt L st) : Z κ u w σ pc L (.null :: st) := by
  obtain ⟨p, l, e, R, s, m, args, below, meth, c, E, A, ad0, n0, Q⟩ := κ
  obtain ⟨hx, hb, hml, hown, hts, hr, hlk, hnm, hR, hK, hF, hA⟩ := B
  intro ad H locs ls hw ha hS hl
  exact lv_ifnullN hx hb hd ht (k ad H locs ls hw ha hS hl)

theorem Z.ifnonnull_r (B : zB M κ) {x : Nat} {off : Int} {tgt : Nat} (hd : decode M.2.1 pc = .ok (.ifnonnull off, 3)) (ht : (pc : Int) + off = (tgt : Int)) (k : Z κ u w σ tgt L st) : Z κ u w σ pc L (.ref x :: st) := by
  obtain ⟨p, l, e, R, s, m, args, below, meth, c, E, A, ad0, n0, Q⟩ := κ
  obtain ⟨hx, hb, hml, hown, hts, hr, hlk, hnm, hR, hK, hF, hA⟩ := B
  intro ad H locs ls hw ha hS hl
  exact lv_ifnonnull hx hb hd ht (k ad H locs ls hw ha hS hl)

theorem Z.ifnonnull_n (B : zB M κ) {off : Int} (hd : decode M.2.1 pc = .ok (.ifnonnull off, 3)) (k : Z κ u w σ (pc + 3) L st) : Z κ u w σ pc L (.null :: st) := by
  obtain ⟨p, l, e, R, s, m, args, below, meth, c, E, A, ad0, n0, Q⟩ := κ
  obtain ⟨hx, hb, hml, hown, hts, hr, hlk, hnm, hR, hK, hF, hA⟩ := B
  intro ad H locs ls hw ha hS hl
  exact lv_ifnonnullN hx hb hd (k ad H locs ls hw ha hS hl)

theorem Z.tabOut (B : zB M κ) {dflt lo hi : Int} {offs : Array Int} {len : Nat} {x : Int32} {tgt : Nat} (hd : decode M.2.1 pc = .ok (.tableswitch dflt lo hi offs, len)) (h : x.toInt < lo ∨ hi < x.toInt) (ht : (pc : Int) + dflt = (tgt : Int)) (k : Z κ u w σ tgt L st) : Z κ u w σ pc L (.int x :: st) := by
  obtain ⟨p, l, e, R, s, m, args, below, meth, c, E, A, ad0, n0, Q⟩ := κ
  obtain ⟨hx, hb, hml, hown, hts, hr, hlk, hnm, hR, hK, hF, hA⟩ := B
  intro ad H locs ls hw ha hS hl
  exact lv_tableOut hx hb hd h ht (k ad H locs ls hw ha hS hl)

theorem Z.tabIn (B : zB M κ) {dflt lo hi : Int} {offs : Array Int} {len : Nat} {x : Int32} {off : Int} {tgt : Nat} (hd : decode M.2.1 pc = .ok (.tableswitch dflt lo hi offs, len)) (h1 : ¬ x.toInt < lo) (h2 : ¬ hi < x.toInt) (ho : offs[(x.toInt - lo).toNat]? = some off) (ht : (pc : Int) + off = (tgt : Int)) (k : Z κ u w σ tgt L st) : Z κ u w σ pc L (.int x :: st) := by
  obtain ⟨p, l, e, R, s, m, args, below, meth, c, E, A, ad0, n0, Q⟩ := κ
  obtain ⟨hx, hb, hml, hown, hts, hr, hlk, hnm, hR, hK, hF, hA⟩ := B
  intro ad H locs ls hw ha hS hl
  exact lv_tableIn hx hb hd h1 h2 ho ht (k ad H locs ls hw ha hS hl)

theorem Z.iret (B : zB M κ) {Post : Option Value → zSt → Prop} (Rt : zRt M Post κ) {v : Int32} {ty : FieldType} (hd : decode M.2.1 pc = .ok (.ireturn, 1)) (hty : M.2.2.2.1 = some ty) (hn : narrow ty (.int v) = .int v) (hu : u ≤ M.2.2.2.2.2.2.1) (hw2 : w ≤ M.2.2.2.2.2.2.2) (hP : Post (some (.int v)) σ) : Z κ u w σ pc L [.int v] := by
  obtain ⟨p, l, e, R, s, m, args, below, meth, c, E, A, ad0, n0, Q⟩ := κ
  obtain ⟨hx, hb, hml, hown, hts, hr, hlk, hnm, hR, hK, hF, hA⟩ := B
  obtain ⟨σ0, e1, e2, e3⟩ := Rt
  subst e1; subst e2; subst e3; subst hR
  intro ad H locs ls hw ha hS hl
  exact W.widen hu hw2 (W.zret (ty := ty) hx hb (hr.trans hty) hn (fun t ht hW => ⟨⟨some (.int v), σ, ad, rfl, hP, ha.1, ha.2, by rw [ht]; exact hw⟩, hS.F ht⟩) hS.2.2 hd)

theorem Z.lret (B : zB M κ) {Post : Option Value → zSt → Prop} (Rt : zRt M Post κ) {v : Int64} (hd : decode M.2.1 pc = .ok (.lreturn, 1)) (hty : M.2.2.2.1 = some .long) (hu : u ≤ M.2.2.2.2.2.2.1) (hw2 : w ≤ M.2.2.2.2.2.2.2) (hP : Post (some (.long v)) σ) : Z κ u w σ pc L [.long v] := by
  obtain ⟨p, l, e, R, s, m, args, below, meth, c, E, A, ad0, n0, Q⟩ := κ
  obtain ⟨hx, hb, hml, hown, hts, hr, hlk, hnm, hR, hK, hF, hA⟩ := B
  obtain ⟨σ0, e1, e2, e3⟩ := Rt
  subst e1; subst e2; subst e3; subst hR
  intro ad H locs ls hw ha hS hl
  exact W.widen hu hw2 (W.lret hx hb (hr.trans hty) (fun t ht hW => ⟨⟨some (.long v), σ, ad, rfl, hP, ha.1, ha.2, by rw [ht]; exact hw⟩, hS.F ht⟩) hS.2.2 hd)

theorem Z.vret (B : zB M κ) {Post : Option Value → zSt → Prop} (Rt : zRt M Post κ) (hd : decode M.2.1 pc = .ok (.return_, 1)) (hty : M.2.2.2.1 = none) (hu : u ≤ M.2.2.2.2.2.2.1) (hw2 : w ≤ M.2.2.2.2.2.2.2) (hP : Post none σ) : Z κ u w σ pc L [] := by
  obtain ⟨p, l, e, R, s, m, args, below, meth, c, E, A, ad0, n0, Q⟩ := κ
  obtain ⟨hx, hb, hml, hown, hts, hr, hlk, hnm, hR, hK, hF, hA⟩ := B
  obtain ⟨σ0, e1, e2, e3⟩ := Rt
  subst e1; subst e2; subst e3; subst hR
  intro ad H locs ls hw ha hS hl
  exact W.widen hu hw2 (W.vret hx hb (hr.trans hty) (fun t ht hW => ⟨⟨none, σ, ad, rfl, hP, ha.1, ha.2, by rw [ht]; exact hw⟩, hS.F ht⟩) hS.2.2 hd)

theorem Z.aret (B : zB M κ) {Post : Option Value → zSt → Prop} (Rt : zRt M Post κ) {v : Value} {rt : FieldType} (hd : decode M.2.1 pc = .ok (.areturn, 1)) (hty : M.2.2.2.1 = some rt) (hrt : (∃ n, rt = .object n) ∨ ∃ t, rt = .array t) (hv : zisr v = true) (hu : u ≤ M.2.2.2.2.2.2.1) (hw2 : w ≤ M.2.2.2.2.2.2.2) (hP : Post (some v) σ) : Z κ u w σ pc L [v] := by
  obtain ⟨p, l, e, R, s, m, args, below, meth, c, E, A, ad0, n0, Q⟩ := κ
  obtain ⟨hx, hb, hml, hown, hts, hr, hlk, hnm, hR, hK, hF, hA⟩ := B
  obtain ⟨σ0, e1, e2, e3⟩ := Rt
  subst e1; subst e2; subst e3; subst hR
  intro ad H locs ls hw ha hS hl
  exact W.widen hu hw2 (W.aret hx hb (hr.trans hty) hrt (zisr_c hF.1 hv) (fun t ht hW => ⟨⟨some v, σ, ad, rfl, hP, ha.1, ha.2, by rw [ht]; exact hw⟩, hS.F ht⟩) hS.2.2 hd)

theorem zlg (vs : List Value) : (lg_sl vs).length = (vs.map fun v => v.category).sum := by
  induction vs with
  | nil => rfl
  | cons v t ih =>
    have e : lg_sl (v :: t) = (if v.category = 2 then [.val v, .second] else [.val v]) ++ lg_sl t := rfl
    rw [e, List.length_append, ih, List.map_cons, List.sum_cons]
    rcases lv_cat v with h | h
    · rw [if_neg (by omega), h]; rfl
    · rw [if_pos h, h]; rfl
theorem zcats {E : zEnv} {ad : Nat → Nat} (h : ∀ j, E.2.2 j = .null ∨ ∃ a, E.2.2 j = .ref a) (vs : List Value) : ((vs.map (zc E ad)).map fun v => v.category).sum = (vs.map fun v => v.category).sum := by
  rw [List.map_map]
  congr 1
  apply List.map_congr_left
  intro v _
  exact zcat h v
theorem zargs {E : zEnv} {ad : Nat → Nat} (h : ∀ j, E.2.2 j = .null ∨ ∃ a, E.2.2 j = .ref a) : ∀ (vs : List Value) (i : Nat), lv_args i (vs.map (zc E ad)) = zcL E ad (lv_args i vs)
  | [], i => rfl
  | v :: t, i => by
    show (i, zc E ad v) :: lv_args (if (zc E ad v).category = 2 then i + 2 else i + 1) (t.map (zc E ad)) = (i, zc E ad v) :: zcL E ad (lv_args (if v.category = 2 then i + 2 else i + 1) t)
    rw [zcat h, zargs h t]
/-- a contract out of its body -/
theorem Ct.of {as : List Value} {Post : Option Value → zSt → Prop} (hp : plainName M.1.cls = true) (hn : (as.map fun v => v.category).sum ≤ M.2.2.1)
    (h : ∀ κ, zB M κ → zRt M Post κ → Z κ 0 0 σ 0 (lv_args 0 as) []) : Ct M as σ Post := by
  intro l E ad sz
  refine Met.ofW (cc := M.2.1) (maxL := M.2.2.1) (ret := M.2.2.2.1) (ws' := zT) hp rfl ?_
  intro p e s m args below meth c s₁ B hml hv
  obtain ⟨rfl, hsz, hw, hK, hF⟩ := hv
  subst hsz
  have hts := atoms_spec (ws := zTs M) B.pre
  rw [lg_entry_eq]
  have hl := lv_entry (as.map (zc E ad)) (n := M.2.2.1) (by rw [zlg, zcats hF.1]; exact hn)
  have h0 := h (p, l, e, zRm M, s, m, (as.map (zc E ad)).toArray, below, meth, c, E, va_A (zWs E ad σ) s.heap.size, ad, zN σ, MQ below (zQ M E ad σ s.heap.size Post) (as.map (zc E ad)).toArray s M.2.2.2.2.2.2.1 M.2.2.2.2.2.2.2 (va_A (zWs E ad σ) s.heap.size)) ⟨B.exec, B.bytes, hml, findClass_of_methodNamed B.named, fun w hw => hts w (List.mem_cons_of_mem _ hw), B.returns, B.notSynchronized, (name_of_methodNamed B.named B.method).1, rfl, hK, hF, fun q h => Or.inr h⟩ ⟨σ, rfl, rfl, rfl⟩
  exact h0 ad s.heap [] _ ⟨hw.1, hw.2.self⟩ ⟨fun _ => rfl, fun _ _ => rfl⟩ va_S.rf (by rw [hml, ← zargs hF.1]; exact hl)
end
