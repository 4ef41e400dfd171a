/-! houses read: the model's words and numbers -/
theorem Ct.mono {M : zM} {as : List Value} {σ : zSt} {Post Post' : Option Value → zSt → Prop} (h : Ct M as σ Post) (hp : ∀ r τ, Post r τ → Post' r τ) : Ct M as σ Post' := by
  intro l E ad sz p e ha hc hk s m args below hf happ hP hK
  obtain ⟨n, o, h1, h2, h3, ⟨⟨⟨r, σ', ad', a1, a2, a3⟩, a4⟩, a5⟩⟩ := h l E ad sz p e ha hc hk s m args below hf happ hP hK
  exact ⟨n, o, h1, h2, h3, ⟨⟨r, σ', ad', a1, hp _ _ a2, a3⟩, a4⟩, a5⟩
theorem Dt.ct {M : zM} {as : List Value} {σ τ : zSt} {r : Option Value} {Post : Option Value → zSt → Prop} (h : Dt M as σ r τ) (hp : Post r τ) : Ct M as σ Post := Ct.mono h (by rintro r' τ' ⟨rfl, rfl⟩; exact hp)
def wds (j : Nat) : Nat := ([99, 111, 109, 101, 114, 32, 0, 97, 115, 107, 101, 114, 32, 0, 119, 97, 121, 32, 0, 99, 104, 105, 101, 102, 32, 0] : List Nat).getD j 0
/-- the model's reading: where it stands, the number told, where it is wrong, the numbers -/
def mS (σ : zSt) (a : Nat) (t w : Int32) (r : Nat → Int32) : zSt := zuX (zuX σ 45 (upd (upd (upd (zX σ 45) 22 (nI a)) 24 t) 25 w)) 61 r
section
variable {σ : zSt} {a b k j : Nat} {t w v : Int32} {r r' : Nat → Int32}
theorem mS_45 : zX (mS σ a t w r) 45 = upd (upd (upd (zX σ 45) 22 (nI a)) 24 t) 25 w := by
  unfold mS; rw [zX_n (by decide), zX_self]
theorem mS_a : zX (mS σ a t w r) 45 22 = nI a := by rw [mS_45]; rfl
theorem mS_t : zX (mS σ a t w r) 45 24 = t := by rw [mS_45]; rfl
theorem mS_w : zX (mS σ a t w r) 45 25 = w := by rw [mS_45]; rfl
theorem mS_f (h1 : j ≠ 22) (h2 : j ≠ 24) (h3 : j ≠ 25) : zX (mS σ a t w r) 45 j = zX σ 45 j := by rw [mS_45, upd_ne h3, upd_ne h2, upd_ne h1]
theorem mS_r : zX (mS σ a t w r) 61 = r := by unfold mS; rw [zX_self]
theorem mS_o (h1 : k ≠ 45) (h2 : k ≠ 61) : zX (mS σ a t w r) k = zX σ k := by unfold mS; rw [zX_n h2, zX_n h1]
theorem mS_u {h : Nat → Int32} : zuX (mS σ a t w r) 45 h = zuX (zuX σ 45 h) 61 r := by unfold mS; rw [zuX_cm (by decide), zuX_uX]
theorem mS_ua : zuX (mS σ a t w r) 45 (upd (zX (mS σ a t w r) 45) 22 (nI b)) = mS σ b t w r := by
  rw [mS_u, mS_45]
  have : upd (upd (upd (upd (zX σ 45) 22 (nI a)) 24 t) 25 w) 22 (nI b) = upd (upd (upd (zX σ 45) 22 (nI b)) 24 t) 25 w := by
    funext i; simp only [upd]; split <;> (try split) <;> (try split) <;> first | rfl | omega
  rw [this]; rfl
theorem mS_ut : zuX (mS σ a t w r) 45 (upd (zX (mS σ a t w r) 45) 24 v) = mS σ a v w r := by
  rw [mS_u, mS_45]
  have : upd (upd (upd (upd (zX σ 45) 22 (nI a)) 24 t) 25 w) 24 v = upd (upd (upd (zX σ 45) 22 (nI a)) 24 v) 25 w := by
    funext i; simp only [upd]; split <;> (try split) <;> first | rfl | omega
  rw [this]; rfl
theorem mS_uw : zuX (mS σ a t w r) 45 (upd (zX (mS σ a t w r) 45) 25 v) = mS σ a t v r := by
  rw [mS_u, mS_45, upd_upd]; rfl
theorem mS_ur : zuX (mS σ a t w r) 61 r' = mS σ a t w r' := zuX_uX
theorem mS_id (h1 : zX σ 45 22 = nI a) : mS σ a (zX σ 45 24) (zX σ 45 25) (zX σ 61) = σ := by
  unfold mS
  rw [← h1, upd_id, upd_id, upd_id, zuX_id, zuX_id]
theorem mS_mS {a' : Nat} {t' w' : Int32} : mS (mS σ a t w r) a' t' w' r' = mS σ a' t' w' r' := by
  show zuX (zuX (mS σ a t w r) 45 _) 61 r' = _
  rw [mS_u, zuX_uX, mS_45]
  have : upd (upd (upd (upd (upd (upd (zX σ 45) 22 (nI a)) 24 t) 25 w) 22 (nI a')) 24 t') 25 w' = upd (upd (upd (zX σ 45) 22 (nI a')) 24 t') 25 w' := by
    funext i; simp only [upd]; split <;> (try split) <;> (try split) <;> first | rfl | omega
  rw [this]; rfl
end
/-- the text T on shelf s, as the model reads it -/
def zTm (σ : zSt) (s m : Nat) (T : Nat → Int32) : Prop := (s < 8 ∧ m ≤ 160) ∧ (zX σ 45 21 = nI (s * 160) ∧ zX σ 45 23 = nI m) ∧ (∀ i, T i = if i < m then (zY σ 58 (s * 160 + i)).toInt32 else nI 0) ∧ ∀ j, j < 26 → zX σ 60 j = nI (wds j)
theorem zTm.t {σ : zSt} {s m i : Nat} {T : Nat → Int32} (h : zTm σ s m T) (hi : i < m) : (zY σ 58 (s * 160 + i)).toInt32 = T i := by rw [h.2.2.1 i, if_pos hi]
theorem zTm.z {σ : zSt} {s m i : Nat} {T : Nat → Int32} (h : zTm σ s m T) (hi : m ≤ i) : T i = nI 0 := by rw [h.2.2.1 i, if_neg (by omega)]
theorem dg_0 : dg (nI 0) = false := by decide
theorem dg_in {σ : zSt} {s m i : Nat} {T : Nat → Int32} (h : zTm σ s m T) (hd : dg (T i) = true) : i < m := by
  rcases Nat.lt_or_ge i m with h1 | h1
  · exact h1
  · rw [h.z h1, dg_0] at hd; cases hd
theorem wds_S : ∀ w, w < 4 → ∀ k, k ≤ wl w → (wds ([0, 7, 14, 19].getD w 0 + k) ≤ 32 ↔ k = wl w) := by decide
theorem wds_L : ∀ w, w < 4 → ∀ k, k < wl w → wds ([0, 7, 14, 19].getD w 0 + k) = ltr w k := by decide
theorem wds_Z : ∀ w, w < 4 → ∀ k, k ≤ wl w + 1 → (wds ([0, 7, 14, 19].getD w 0 + k) = 0 ↔ k = wl w + 1) := by decide
/-- how many letters of word w, and the space behind it, stand at a -/
def amW (T : Nat → Int32) (a w : Nat) : Nat := alF (fun k => decide (T (a + k) = nI (wds ([0, 7, 14, 19].getD w 0 + k)))) 0 (wl w + 1)
theorem am_s {T : Nat → Int32} {a w : Nat} : amW T a w ≤ wl w + 1 ∧ (∀ j, j < amW T a w → T (a + j) = nI (wds ([0, 7, 14, 19].getD w 0 + j))) ∧ (amW T a w < wl w + 1 → ¬ T (a + amW T a w) = nI (wds ([0, 7, 14, 19].getD w 0 + amW T a w))) := by
  obtain ⟨h1, h2, h3, h4⟩ := alF_s (p := fun k => decide (T (a + k) = nI (wds ([0, 7, 14, 19].getD w 0 + k)))) (wl w + 1) 0
  refine ⟨by have := h2; unfold amW; omega, fun j hj => of_decide_eq_true (h3 j (Nat.zero_le _) hj), fun h => of_decide_eq_false (h4 (by unfold amW at h; omega))⟩
/-- the two counts -/
theorem am_al {T : Nat → Int32} {a w : Nat} (hw : w < 4) : (amW T a w = wl w + 1 ↔ al T a w = wl w ∧ T (a + wl w) = nI 32) ∧ (amW T a w ≠ wl w + 1 → amW T a w = al T a w) := by
  obtain ⟨a1, a2, a3⟩ := am_s (T := T) (a := a) (w := w)
  obtain ⟨b1, b2, b3⟩ := al_s (T := T) (a := a) (w := w)
  have hsp : wds ([0, 7, 14, 19].getD w 0 + wl w) = 32 := by
    have : w = 0 ∨ w = 1 ∨ w = 2 ∨ w = 3 := by omega
    rcases this with rfl | rfl | rfl | rfl <;> rfl
  have key : ∀ j, j < wl w → wds ([0, 7, 14, 19].getD w 0 + j) = ltr w j := wds_L w hw
  have hle : amW T a w < wl w → amW T a w = al T a w := by
    intro h
    rcases Nat.lt_trichotomy (amW T a w) (al T a w) with h1 | h1 | h1
    · exact absurd (by rw [key _ h]; exact b2 _ h1) (a3 (by omega))
    · exact h1
    · exact absurd (by rw [← key _ (by omega)]; exact a2 _ h1) (b3 (by omega))
  have hge : wl w ≤ amW T a w → al T a w = wl w := by
    intro h
    rcases Nat.lt_or_ge (al T a w) (wl w) with h1 | h1
    · exact absurd (by rw [← key _ h1]; exact a2 _ (by omega)) (b3 h1)
    · omega
  refine ⟨⟨fun h => ⟨hge (by omega), by rw [← hsp]; exact a2 _ (by omega)⟩, fun ⟨h1, h2⟩ => ?_⟩, fun h => ?_⟩
  · rcases Nat.lt_trichotomy (amW T a w) (wl w) with h3 | h3 | h3
    · have := hle h3; omega
    · exact absurd (by rw [h3, hsp]; exact h2) (a3 (by omega))
    · omega
  · rcases Nat.lt_or_ge (amW T a w) (wl w) with h3 | h3
    · exact hle h3
    · have := hge h3; omega

theorem t_X12_wrong {σ : zSt} {t w : Int32} {r : Nat → Int32} (hl : Lay σ) {s m : Nat} {T : Nat → Int32} (ht : zTm σ s m T) {a : Nat} (ha : a < 2 ^ 30) {p : Int32} : Dt mX12_wrong [.ref 45, .int p] (mS σ a t w r) (some (.int (nI 0))) (mS σ a t p r) := by
  obtain ⟨⟨hs8, hm160⟩, ⟨hbs, hen⟩, hT, hwd⟩ := id ht
  refine Dt.of (by decide) (Nat.le_of_ble_eq_true rfl) fun κ B Rt => ?_
  show Z κ 0 0 (mS σ a t w r) 0 [(0, .ref 45), (1, .int p)] []
  refine Z.aload_n B dX12_wrong_0 (v := .ref 45) rfl rfl ?_
  refine Z.iload_n B dX12_wrong_1 (x := p) rfl ?_
  refine Z.putI (σ := (mS σ a t w r)) B fX12_138_12 (ty := .int) ⟨_, _, _, rfl, rfl, by decide +kernel⟩ dX12_wrong_2 (hl.n (k := 45) (by decide)) (hl.k (k := 45) (by decide)) (by decide) rfl rfl (τ := (zuX (mS σ a t w r) 45 (upd (zX (mS σ a t w r) 45) 25 p))) rfl ?_
  refine Z.eqσ (τ := (mS σ a t p r)) mS_uw ?_
  refine Z.iconst B dX12_wrong_5 (v := nI 0) rfl ?_
  refine Z.iret B Rt dX12_wrong_6 (ty := .boolean) rfl rfl (by decide) (by decide) ?_
  exact ⟨rfl, rfl⟩

theorem t_X12_dig_1 {σ : zSt} {t w : Int32} {r : Nat → Int32} (hl : Lay σ) {s m : Nat} {T : Nat → Int32} (ht : zTm σ s m T) {a : Nat} (ha : a < 2 ^ 30) (h : dg (T a) = true) : Dt mX12_isDigit [.ref 45] (mS σ a t w r) (some (.int (nI 1))) (mS σ a t w r) := by
  obtain ⟨⟨hs8, hm160⟩, ⟨hbs, hen⟩, hT, hwd⟩ := id ht
  refine Dt.of (by decide) (Nat.le_of_ble_eq_true rfl) fun κ B Rt => ?_
  show Z κ 0 0 (mS σ a t w r) 0 [(0, .ref 45)] []
  refine Z.aload_n B dX12_isDigit_0 (v := .ref 45) rfl rfl ?_
  refine Z.getI (σ := (mS σ a t w r)) B fX12_141_12 dX12_isDigit_1 (hl.n (k := 45) (by decide)) (hl.k (k := 45) (by decide)) (by decide) (v := nI a) mS_a ?_
  refine Z.aload_n B dX12_isDigit_4 (v := .ref 45) rfl rfl ?_
  refine Z.getI (σ := (mS σ a t w r)) B fX12_144_12 dX12_isDigit_5 (hl.n (k := 45) (by decide)) (hl.k (k := 45) (by decide)) (by decide) (v := nI m) ((mS_f (by decide) (by decide) (by decide)).trans hen) ?_
  refine Z.icmp_geN B dX12_isDigit_8 (tgt := 55) rfl (by omega) (by omega) (fun h8 => (by have := dg_in ht h; omega)) (fun h8 => ?_)
  refine Z.aload_n B dX12_isDigit_11 (v := .ref 45) rfl rfl ?_
  refine Z.getR (σ := (mS σ a t w r)) B fX12_53_12 dX12_isDigit_12 (hl.n (k := 45) (by decide)) (hl.k (k := 45) (by decide)) (by decide) (j := 58) (hl.r (k := 45) (f := 17) (by decide) (by decide)) ?_
  refine Z.aload_n B dX12_isDigit_15 (v := .ref 45) rfl rfl ?_
  refine Z.getI (σ := (mS σ a t w r)) B fX12_147_12 dX12_isDigit_16 (hl.n (k := 45) (by decide)) (hl.k (k := 45) (by decide)) (by decide) (v := nI (s * 160)) ((mS_f (by decide) (by decide) (by decide)).trans hbs) ?_
  refine Z.aload_n B dX12_isDigit_19 (v := .ref 45) rfl rfl ?_
  refine Z.getI (σ := (mS σ a t w r)) B fX12_141_12 dX12_isDigit_20 (hl.n (k := 45) (by decide)) (hl.k (k := 45) (by decide)) (by decide) (v := nI a) mS_a ?_
  refine Z.iaddN B dX12_isDigit_23 (a := s * 160) (b := a) ?_
  refine Z.lald (σ := (mS σ a t w r)) B dX12_isDigit_24 (n := 1280) (hl.n (k := 58) (by decide)) (hl.k (k := 58) (by decide)) (hl.l (k := 58) (by decide)) (by decide) (j := (s * 160) + a) rfl (by omega) (v := (zY (mS σ a t w r) 58 ((s * 160) + a))) rfl ?_
  refine Z.l2i B dX12_isDigit_25 ?_
  refine Z.eqS (st' := [.int (T a)]) (congrArg (fun z => Value.int z :: _) (ht.t (i := a) (by omega))) ?_
  refine Z.bipush B dX12_isDigit_26 (v := nI 48) rfl ?_
  refine Z.icmp_lt B dX12_isDigit_28 (tgt := 55) rfl (fun h28 => (by exfalso; have := (dg_t.mp h).1; rw [zle_iff] at this; rw [zlt_iff] at h28; omega)) (fun h28 => ?_)
  refine Z.aload_n B dX12_isDigit_31 (v := .ref 45) rfl rfl ?_
  refine Z.getR (σ := (mS σ a t w r)) B fX12_53_12 dX12_isDigit_32 (hl.n (k := 45) (by decide)) (hl.k (k := 45) (by decide)) (by decide) (j := 58) (hl.r (k := 45) (f := 17) (by decide) (by decide)) ?_
  refine Z.aload_n B dX12_isDigit_35 (v := .ref 45) rfl rfl ?_
  refine Z.getI (σ := (mS σ a t w r)) B fX12_147_12 dX12_isDigit_36 (hl.n (k := 45) (by decide)) (hl.k (k := 45) (by decide)) (by decide) (v := nI (s * 160)) ((mS_f (by decide) (by decide) (by decide)).trans hbs) ?_
  refine Z.aload_n B dX12_isDigit_39 (v := .ref 45) rfl rfl ?_
  refine Z.getI (σ := (mS σ a t w r)) B fX12_141_12 dX12_isDigit_40 (hl.n (k := 45) (by decide)) (hl.k (k := 45) (by decide)) (by decide) (v := nI a) mS_a ?_
  refine Z.iaddN B dX12_isDigit_43 (a := s * 160) (b := a) ?_
  refine Z.lald (σ := (mS σ a t w r)) B dX12_isDigit_44 (n := 1280) (hl.n (k := 58) (by decide)) (hl.k (k := 58) (by decide)) (hl.l (k := 58) (by decide)) (by decide) (j := (s * 160) + a) rfl (by omega) (v := (zY (mS σ a t w r) 58 ((s * 160) + a))) rfl ?_
  refine Z.l2i B dX12_isDigit_45 ?_
  refine Z.eqS (st' := [.int (T a)]) (congrArg (fun z => Value.int z :: _) (ht.t (i := a) (by omega))) ?_
  refine Z.bipush B dX12_isDigit_46 (v := nI 57) rfl ?_
  refine Z.icmp_gt B dX12_isDigit_48 (tgt := 55) rfl (fun h48 => (by exfalso; have := (dg_t.mp h).2; rw [zle_iff] at this; rw [zlt_iff] at h48; omega)) (fun h48 => ?_)
  refine Z.iconst B dX12_isDigit_51 (v := nI 1) rfl ?_
  refine Z.goto B dX12_isDigit_52 (tgt := 56) rfl ?_
  refine Z.iret B Rt dX12_isDigit_56 (ty := .boolean) rfl rfl (by decide) (by decide) ?_
  exact ⟨rfl, rfl⟩

theorem t_X12_dig_0 {σ : zSt} {t w : Int32} {r : Nat → Int32} (hl : Lay σ) {s m : Nat} {T : Nat → Int32} (ht : zTm σ s m T) {a : Nat} (ha : a < 2 ^ 30) (h : dg (T a) = false) : Dt mX12_isDigit [.ref 45] (mS σ a t w r) (some (.int (nI 0))) (mS σ a t w r) := by
  obtain ⟨⟨hs8, hm160⟩, ⟨hbs, hen⟩, hT, hwd⟩ := id ht
  refine Dt.of (by decide) (Nat.le_of_ble_eq_true rfl) fun κ B Rt => ?_
  show Z κ 0 0 (mS σ a t w r) 0 [(0, .ref 45)] []
  refine Z.aload_n B dX12_isDigit_0 (v := .ref 45) rfl rfl ?_
  refine Z.getI (σ := (mS σ a t w r)) B fX12_141_12 dX12_isDigit_1 (hl.n (k := 45) (by decide)) (hl.k (k := 45) (by decide)) (by decide) (v := nI a) mS_a ?_
  refine Z.aload_n B dX12_isDigit_4 (v := .ref 45) rfl rfl ?_
  refine Z.getI (σ := (mS σ a t w r)) B fX12_144_12 dX12_isDigit_5 (hl.n (k := 45) (by decide)) (hl.k (k := 45) (by decide)) (by decide) (v := nI m) ((mS_f (by decide) (by decide) (by decide)).trans hen) ?_
  refine Z.icmp_geN B dX12_isDigit_8 (tgt := 55) rfl (by omega) (by omega) (fun h8 => ?_) (fun h8 => ?_)
  · skip
    refine Z.iconst B dX12_isDigit_55 (v := nI 0) rfl ?_
    refine Z.iret B Rt dX12_isDigit_56 (ty := .boolean) rfl rfl (by decide) (by decide) ?_
    exact ⟨rfl, rfl⟩
  · skip
    refine Z.aload_n B dX12_isDigit_11 (v := .ref 45) rfl rfl ?_
    refine Z.getR (σ := (mS σ a t w r)) B fX12_53_12 dX12_isDigit_12 (hl.n (k := 45) (by decide)) (hl.k (k := 45) (by decide)) (by decide) (j := 58) (hl.r (k := 45) (f := 17) (by decide) (by decide)) ?_
    refine Z.aload_n B dX12_isDigit_15 (v := .ref 45) rfl rfl ?_
    refine Z.getI (σ := (mS σ a t w r)) B fX12_147_12 dX12_isDigit_16 (hl.n (k := 45) (by decide)) (hl.k (k := 45) (by decide)) (by decide) (v := nI (s * 160)) ((mS_f (by decide) (by decide) (by decide)).trans hbs) ?_
    refine Z.aload_n B dX12_isDigit_19 (v := .ref 45) rfl rfl ?_
    refine Z.getI (σ := (mS σ a t w r)) B fX12_141_12 dX12_isDigit_20 (hl.n (k := 45) (by decide)) (hl.k (k := 45) (by decide)) (by decide) (v := nI a) mS_a ?_
    refine Z.iaddN B dX12_isDigit_23 (a := s * 160) (b := a) ?_
    refine Z.lald (σ := (mS σ a t w r)) B dX12_isDigit_24 (n := 1280) (hl.n (k := 58) (by decide)) (hl.k (k := 58) (by decide)) (hl.l (k := 58) (by decide)) (by decide) (j := (s * 160) + a) rfl (by omega) (v := (zY (mS σ a t w r) 58 ((s * 160) + a))) rfl ?_
    refine Z.l2i B dX12_isDigit_25 ?_
    refine Z.eqS (st' := [.int (T a)]) (congrArg (fun z => Value.int z :: _) (ht.t (i := a) (by omega))) ?_
    refine Z.bipush B dX12_isDigit_26 (v := nI 48) rfl ?_
    refine Z.icmp_lt B dX12_isDigit_28 (tgt := 55) rfl (fun h28 => ?_) (fun h28 => ?_)
    · skip
      refine Z.iconst B dX12_isDigit_55 (v := nI 0) rfl ?_
      refine Z.iret B Rt dX12_isDigit_56 (ty := .boolean) rfl rfl (by decide) (by decide) ?_
      exact ⟨rfl, rfl⟩
    · skip
      refine Z.aload_n B dX12_isDigit_31 (v := .ref 45) rfl rfl ?_
      refine Z.getR (σ := (mS σ a t w r)) B fX12_53_12 dX12_isDigit_32 (hl.n (k := 45) (by decide)) (hl.k (k := 45) (by decide)) (by decide) (j := 58) (hl.r (k := 45) (f := 17) (by decide) (by decide)) ?_
      refine Z.aload_n B dX12_isDigit_35 (v := .ref 45) rfl rfl ?_
      refine Z.getI (σ := (mS σ a t w r)) B fX12_147_12 dX12_isDigit_36 (hl.n (k := 45) (by decide)) (hl.k (k := 45) (by decide)) (by decide) (v := nI (s * 160)) ((mS_f (by decide) (by decide) (by decide)).trans hbs) ?_
      refine Z.aload_n B dX12_isDigit_39 (v := .ref 45) rfl rfl ?_
      refine Z.getI (σ := (mS σ a t w r)) B fX12_141_12 dX12_isDigit_40 (hl.n (k := 45) (by decide)) (hl.k (k := 45) (by decide)) (by decide) (v := nI a) mS_a ?_
      refine Z.iaddN B dX12_isDigit_43 (a := s * 160) (b := a) ?_
      refine Z.lald (σ := (mS σ a t w r)) B dX12_isDigit_44 (n := 1280) (hl.n (k := 58) (by decide)) (hl.k (k := 58) (by decide)) (hl.l (k := 58) (by decide)) (by decide) (j := (s * 160) + a) rfl (by omega) (v := (zY (mS σ a t w r) 58 ((s * 160) + a))) rfl ?_
      refine Z.l2i B dX12_isDigit_45 ?_
      refine Z.eqS (st' := [.int (T a)]) (congrArg (fun z => Value.int z :: _) (ht.t (i := a) (by omega))) ?_
      refine Z.bipush B dX12_isDigit_46 (v := nI 57) rfl ?_
      refine Z.icmp_gt B dX12_isDigit_48 (tgt := 55) rfl (fun h48 => ?_) (fun h48 => (by exfalso; rcases dg_f.mp h with h1 | h1 <;> contradiction))
      refine Z.iconst B dX12_isDigit_55 (v := nI 0) rfl ?_
      refine Z.iret B Rt dX12_isDigit_56 (ty := .boolean) rfl rfl (by decide) (by decide) ?_
      exact ⟨rfl, rfl⟩

theorem t_X12_num_nd {σ : zSt} {t w : Int32} {r : Nat → Int32} (hl : Lay σ) {s m : Nat} {T : Nat → Int32} (ht : zTm σ s m T) {a : Nat} (ha : a < 2 ^ 30) {mo : Int32} (h1 : dg (T a) = false) : Dt mX12_number [.ref 45, .int mo] (mS σ a t w r) (some (.int (nI 0))) (mS σ a t (nI a) r) := by
  obtain ⟨⟨hs8, hm160⟩, ⟨hbs, hen⟩, hT, hwd⟩ := id ht
  refine Dt.of (by decide) (Nat.le_of_ble_eq_true rfl) fun κ B Rt => ?_
  show Z κ 0 0 (mS σ a t w r) 0 [(0, .ref 45), (1, .int mo)] []
  refine Z.aload_n B dX12_number_0 (v := .ref 45) rfl rfl ?_
  refine Z.getI (σ := (mS σ a t w r)) B fX12_141_12 dX12_number_1 (hl.n (k := 45) (by decide)) (hl.k (k := 45) (by decide)) (by decide) (v := nI a) mS_a ?_
  refine Z.istore_n B dX12_number_4 (by decide) (L' := [(0, .ref 45), (1, .int mo), (2, .int (nI a))]) rfl ?_
  refine Z.aload_n B dX12_number_5 (v := .ref 45) rfl rfl ?_
  refine Z.callVI (σ := (mS σ a t w r)) B (M' := mX12_isDigit) (as := []) (st := []) (v := .int (nI 0)) dX12_number_6 wX12_isDigit iX12_isDigit sX12_isDigit kX12_150 (hl.n (k := 45) (by decide)) (hl.k (k := 45) (by decide)) (by decide) rfl rfl (t_X12_dig_0 (σ := σ) (t := t) (w := w) (r := r) hl ht (a := a) (by omega) h1) rfl rfl (by decide) (by decide) (Nat.le_of_ble_eq_true rfl) (by decide) (by decide) ?_
  refine Z.if_neN B dX12_number_9 (tgt := 21) rfl (by omega) (fun h9 => by exfalso; first | omega | contradiction | simp_all) (fun h9 => ?_)
  refine Z.aload_n B dX12_number_12 (v := .ref 45) rfl rfl ?_
  refine Z.aload_n B dX12_number_13 (v := .ref 45) rfl rfl ?_
  refine Z.getI (σ := (mS σ a t w r)) B fX12_141_12 dX12_number_14 (hl.n (k := 45) (by decide)) (hl.k (k := 45) (by decide)) (by decide) (v := nI a) mS_a ?_
  refine Z.callVI (σ := (mS σ a t w r)) B (M' := mX12_wrong) (as := [.int (nI a)]) (st := []) (v := .int (nI 0)) dX12_number_17 wX12_wrong iX12_wrong sX12_wrong kX12_154 (hl.n (k := 45) (by decide)) (hl.k (k := 45) (by decide)) (by decide) rfl rfl (t_X12_wrong (σ := σ) (t := t) (w := w) (r := r) hl ht (a := a) (by omega) (p := nI a)) rfl rfl (by decide) (by decide) (Nat.le_of_ble_eq_true rfl) (by decide) (by decide) ?_
  refine Z.iret B Rt dX12_number_20 (ty := .boolean) rfl rfl (by decide) (by decide) ?_
  exact ⟨rfl, rfl⟩

theorem t_X12_num_ok1 {σ : zSt} {t w : Int32} {r : Nat → Int32} (hl : Lay σ) {s m : Nat} {T : Nat → Int32} (ht : zTm σ s m T) {a : Nat} (ha : a < 2 ^ 30) {mo : Int32} (h1 : dg (T a) = true) (h2 : dg (T (a + 1)) = false) (h4 : (T a - nI 48) ≤ mo) : Dt mX12_number [.ref 45, .int mo] (mS σ a t w r) (some (.int (nI 1))) (mS σ (a + 1) (T a - nI 48) w r) := by
  obtain ⟨⟨hs8, hm160⟩, ⟨hbs, hen⟩, hT, hwd⟩ := id ht
  have hin := dg_in ht h1
  refine Dt.of (by decide) (Nat.le_of_ble_eq_true rfl) fun κ B Rt => ?_
  show Z κ 0 0 (mS σ a t w r) 0 [(0, .ref 45), (1, .int mo)] []
  refine Z.aload_n B dX12_number_0 (v := .ref 45) rfl rfl ?_
  refine Z.getI (σ := (mS σ a t w r)) B fX12_141_12 dX12_number_1 (hl.n (k := 45) (by decide)) (hl.k (k := 45) (by decide)) (by decide) (v := nI a) mS_a ?_
  refine Z.istore_n B dX12_number_4 (by decide) (L' := [(0, .ref 45), (1, .int mo), (2, .int (nI a))]) rfl ?_
  refine Z.aload_n B dX12_number_5 (v := .ref 45) rfl rfl ?_
  refine Z.callVI (σ := (mS σ a t w r)) B (M' := mX12_isDigit) (as := []) (st := []) (v := .int (nI 1)) dX12_number_6 wX12_isDigit iX12_isDigit sX12_isDigit kX12_150 (hl.n (k := 45) (by decide)) (hl.k (k := 45) (by decide)) (by decide) rfl rfl (t_X12_dig_1 (σ := σ) (t := t) (w := w) (r := r) hl ht (a := a) (by omega) h1) rfl rfl (by decide) (by decide) (Nat.le_of_ble_eq_true rfl) (by decide) (by decide) ?_
  refine Z.if_neN B dX12_number_9 (tgt := 21) rfl (by omega) (fun h9 => ?_) (fun h9 => by exfalso; first | omega | contradiction | simp_all)
  refine Z.aload_n B dX12_number_21 (v := .ref 45) rfl rfl ?_
  refine Z.aload_n B dX12_number_22 (v := .ref 45) rfl rfl ?_
  refine Z.getR (σ := (mS σ a t w r)) B fX12_53_12 dX12_number_23 (hl.n (k := 45) (by decide)) (hl.k (k := 45) (by decide)) (by decide) (j := 58) (hl.r (k := 45) (f := 17) (by decide) (by decide)) ?_
  refine Z.aload_n B dX12_number_26 (v := .ref 45) rfl rfl ?_
  refine Z.getI (σ := (mS σ a t w r)) B fX12_147_12 dX12_number_27 (hl.n (k := 45) (by decide)) (hl.k (k := 45) (by decide)) (by decide) (v := nI (s * 160)) ((mS_f (by decide) (by decide) (by decide)).trans hbs) ?_
  refine Z.aload_n B dX12_number_30 (v := .ref 45) rfl rfl ?_
  refine Z.getI (σ := (mS σ a t w r)) B fX12_141_12 dX12_number_31 (hl.n (k := 45) (by decide)) (hl.k (k := 45) (by decide)) (by decide) (v := nI a) mS_a ?_
  refine Z.iaddN B dX12_number_34 (a := s * 160) (b := a) ?_
  refine Z.lald (σ := (mS σ a t w r)) B dX12_number_35 (n := 1280) (hl.n (k := 58) (by decide)) (hl.k (k := 58) (by decide)) (hl.l (k := 58) (by decide)) (by decide) (j := (s * 160) + a) rfl (by omega) (v := (zY (mS σ a t w r) 58 ((s * 160) + a))) rfl ?_
  refine Z.l2i B dX12_number_36 ?_
  refine Z.eqS (st' := [.int (T a), .ref 45]) (congrArg (fun z => Value.int z :: _) (ht.t (i := a) (by omega))) ?_
  refine Z.bipush B dX12_number_37 (v := nI 48) rfl ?_
  refine Z.isub B dX12_number_39 ?_
  refine Z.putI (σ := (mS σ a t w r)) B fX12_157_12 (ty := .int) ⟨_, _, _, rfl, rfl, by decide +kernel⟩ dX12_number_40 (hl.n (k := 45) (by decide)) (hl.k (k := 45) (by decide)) (by decide) rfl rfl (τ := (zuX (mS σ a t w r) 45 (upd (zX (mS σ a t w r) 45) 24 ((T a) - (nI 48))))) rfl ?_
  refine Z.eqσ (τ := (mS σ a (T a - nI 48) w r)) mS_ut ?_
  refine Z.aload_n B dX12_number_43 (v := .ref 45) rfl rfl ?_
  refine Z.dup B dX12_number_44 rfl ?_
  refine Z.getI (σ := (mS σ a (T a - nI 48) w r)) B fX12_141_12 dX12_number_45 (hl.n (k := 45) (by decide)) (hl.k (k := 45) (by decide)) (by decide) (v := nI a) mS_a ?_
  refine Z.iconst B dX12_number_48 (v := nI 1) rfl ?_
  refine Z.iaddN B dX12_number_49 (a := a) (b := 1) ?_
  refine Z.putI (σ := (mS σ a (T a - nI 48) w r)) B fX12_141_12 (ty := .int) ⟨_, _, _, rfl, rfl, by decide +kernel⟩ dX12_number_50 (hl.n (k := 45) (by decide)) (hl.k (k := 45) (by decide)) (by decide) rfl rfl (τ := (zuX (mS σ a (T a - nI 48) w r) 45 (upd (zX (mS σ a (T a - nI 48) w r) 45) 22 (nI (a + 1))))) rfl ?_
  refine Z.eqσ (τ := (mS σ (a + 1) (T a - nI 48) w r)) mS_ua ?_
  refine Z.aload_n B dX12_number_53 (v := .ref 45) rfl rfl ?_
  refine Z.callVI (σ := (mS σ (a + 1) (T a - nI 48) w r)) B (M' := mX12_isDigit) (as := []) (st := []) (v := .int (nI 0)) dX12_number_54 wX12_isDigit iX12_isDigit sX12_isDigit kX12_150 (hl.n (k := 45) (by decide)) (hl.k (k := 45) (by decide)) (by decide) rfl rfl (t_X12_dig_0 (σ := σ) (t := (T a - nI 48)) (w := w) (r := r) hl ht (a := a + 1) (by omega) h2) rfl rfl (by decide) (by decide) (Nat.le_of_ble_eq_true rfl) (by decide) (by decide) ?_
  refine Z.if_eqN B dX12_number_57 (tgt := 100) rfl (by omega) (fun h57 => ?_) (fun h57 => by exfalso; first | omega | contradiction | simp_all)
  refine Z.aload_n B dX12_number_100 (v := .ref 45) rfl rfl ?_
  refine Z.getI (σ := (mS σ (a + 1) (T a - nI 48) w r)) B fX12_157_12 dX12_number_101 (hl.n (k := 45) (by decide)) (hl.k (k := 45) (by decide)) (by decide) (v := (T a - nI 48)) mS_t ?_
  refine Z.iload_n B dX12_number_104 (x := mo) rfl ?_
  refine Z.icmp_le B dX12_number_105 (tgt := 116) rfl (fun h105 => ?_) (fun h105 => by exfalso; first | omega | contradiction | simp_all)
  refine Z.iconst B dX12_number_116 (v := nI 1) rfl ?_
  refine Z.goto B dX12_number_117 (tgt := 121) rfl ?_
  refine Z.iret B Rt dX12_number_121 (ty := .boolean) rfl rfl (by decide) (by decide) ?_
  exact ⟨rfl, rfl⟩

theorem t_X12_num_big1 {σ : zSt} {t w : Int32} {r : Nat → Int32} (hl : Lay σ) {s m : Nat} {T : Nat → Int32} (ht : zTm σ s m T) {a : Nat} (ha : a < 2 ^ 30) {mo : Int32} (h1 : dg (T a) = true) (h2 : dg (T (a + 1)) = false) (h4 : ¬ (T a - nI 48) ≤ mo) : Dt mX12_number [.ref 45, .int mo] (mS σ a t w r) (some (.int (nI 0))) (mS σ (a + 1) (T a - nI 48) (nI a) r) := by
  obtain ⟨⟨hs8, hm160⟩, ⟨hbs, hen⟩, hT, hwd⟩ := id ht
  have hin := dg_in ht h1
  refine Dt.of (by decide) (Nat.le_of_ble_eq_true rfl) fun κ B Rt => ?_
  show Z κ 0 0 (mS σ a t w r) 0 [(0, .ref 45), (1, .int mo)] []
  refine Z.aload_n B dX12_number_0 (v := .ref 45) rfl rfl ?_
  refine Z.getI (σ := (mS σ a t w r)) B fX12_141_12 dX12_number_1 (hl.n (k := 45) (by decide)) (hl.k (k := 45) (by decide)) (by decide) (v := nI a) mS_a ?_
  refine Z.istore_n B dX12_number_4 (by decide) (L' := [(0, .ref 45), (1, .int mo), (2, .int (nI a))]) rfl ?_
  refine Z.aload_n B dX12_number_5 (v := .ref 45) rfl rfl ?_
  refine Z.callVI (σ := (mS σ a t w r)) B (M' := mX12_isDigit) (as := []) (st := []) (v := .int (nI 1)) dX12_number_6 wX12_isDigit iX12_isDigit sX12_isDigit kX12_150 (hl.n (k := 45) (by decide)) (hl.k (k := 45) (by decide)) (by decide) rfl rfl (t_X12_dig_1 (σ := σ) (t := t) (w := w) (r := r) hl ht (a := a) (by omega) h1) rfl rfl (by decide) (by decide) (Nat.le_of_ble_eq_true rfl) (by decide) (by decide) ?_
  refine Z.if_neN B dX12_number_9 (tgt := 21) rfl (by omega) (fun h9 => ?_) (fun h9 => by exfalso; first | omega | contradiction | simp_all)
  refine Z.aload_n B dX12_number_21 (v := .ref 45) rfl rfl ?_
  refine Z.aload_n B dX12_number_22 (v := .ref 45) rfl rfl ?_
  refine Z.getR (σ := (mS σ a t w r)) B fX12_53_12 dX12_number_23 (hl.n (k := 45) (by decide)) (hl.k (k := 45) (by decide)) (by decide) (j := 58) (hl.r (k := 45) (f := 17) (by decide) (by decide)) ?_
  refine Z.aload_n B dX12_number_26 (v := .ref 45) rfl rfl ?_
  refine Z.getI (σ := (mS σ a t w r)) B fX12_147_12 dX12_number_27 (hl.n (k := 45) (by decide)) (hl.k (k := 45) (by decide)) (by decide) (v := nI (s * 160)) ((mS_f (by decide) (by decide) (by decide)).trans hbs) ?_
  refine Z.aload_n B dX12_number_30 (v := .ref 45) rfl rfl ?_
  refine Z.getI (σ := (mS σ a t w r)) B fX12_141_12 dX12_number_31 (hl.n (k := 45) (by decide)) (hl.k (k := 45) (by decide)) (by decide) (v := nI a) mS_a ?_
  refine Z.iaddN B dX12_number_34 (a := s * 160) (b := a) ?_
  refine Z.lald (σ := (mS σ a t w r)) B dX12_number_35 (n := 1280) (hl.n (k := 58) (by decide)) (hl.k (k := 58) (by decide)) (hl.l (k := 58) (by decide)) (by decide) (j := (s * 160) + a) rfl (by omega) (v := (zY (mS σ a t w r) 58 ((s * 160) + a))) rfl ?_
  refine Z.l2i B dX12_number_36 ?_
  refine Z.eqS (st' := [.int (T a), .ref 45]) (congrArg (fun z => Value.int z :: _) (ht.t (i := a) (by omega))) ?_
  refine Z.bipush B dX12_number_37 (v := nI 48) rfl ?_
  refine Z.isub B dX12_number_39 ?_
  refine Z.putI (σ := (mS σ a t w r)) B fX12_157_12 (ty := .int) ⟨_, _, _, rfl, rfl, by decide +kernel⟩ dX12_number_40 (hl.n (k := 45) (by decide)) (hl.k (k := 45) (by decide)) (by decide) rfl rfl (τ := (zuX (mS σ a t w r) 45 (upd (zX (mS σ a t w r) 45) 24 ((T a) - (nI 48))))) rfl ?_
  refine Z.eqσ (τ := (mS σ a (T a - nI 48) w r)) mS_ut ?_
  refine Z.aload_n B dX12_number_43 (v := .ref 45) rfl rfl ?_
  refine Z.dup B dX12_number_44 rfl ?_
  refine Z.getI (σ := (mS σ a (T a - nI 48) w r)) B fX12_141_12 dX12_number_45 (hl.n (k := 45) (by decide)) (hl.k (k := 45) (by decide)) (by decide) (v := nI a) mS_a ?_
  refine Z.iconst B dX12_number_48 (v := nI 1) rfl ?_
  refine Z.iaddN B dX12_number_49 (a := a) (b := 1) ?_
  refine Z.putI (σ := (mS σ a (T a - nI 48) w r)) B fX12_141_12 (ty := .int) ⟨_, _, _, rfl, rfl, by decide +kernel⟩ dX12_number_50 (hl.n (k := 45) (by decide)) (hl.k (k := 45) (by decide)) (by decide) rfl rfl (τ := (zuX (mS σ a (T a - nI 48) w r) 45 (upd (zX (mS σ a (T a - nI 48) w r) 45) 22 (nI (a + 1))))) rfl ?_
  refine Z.eqσ (τ := (mS σ (a + 1) (T a - nI 48) w r)) mS_ua ?_
  refine Z.aload_n B dX12_number_53 (v := .ref 45) rfl rfl ?_
  refine Z.callVI (σ := (mS σ (a + 1) (T a - nI 48) w r)) B (M' := mX12_isDigit) (as := []) (st := []) (v := .int (nI 0)) dX12_number_54 wX12_isDigit iX12_isDigit sX12_isDigit kX12_150 (hl.n (k := 45) (by decide)) (hl.k (k := 45) (by decide)) (by decide) rfl rfl (t_X12_dig_0 (σ := σ) (t := (T a - nI 48)) (w := w) (r := r) hl ht (a := a + 1) (by omega) h2) rfl rfl (by decide) (by decide) (Nat.le_of_ble_eq_true rfl) (by decide) (by decide) ?_
  refine Z.if_eqN B dX12_number_57 (tgt := 100) rfl (by omega) (fun h57 => ?_) (fun h57 => by exfalso; first | omega | contradiction | simp_all)
  refine Z.aload_n B dX12_number_100 (v := .ref 45) rfl rfl ?_
  refine Z.getI (σ := (mS σ (a + 1) (T a - nI 48) w r)) B fX12_157_12 dX12_number_101 (hl.n (k := 45) (by decide)) (hl.k (k := 45) (by decide)) (by decide) (v := (T a - nI 48)) mS_t ?_
  refine Z.iload_n B dX12_number_104 (x := mo) rfl ?_
  refine Z.icmp_le B dX12_number_105 (tgt := 116) rfl (fun h105 => by exfalso; first | omega | contradiction | simp_all) (fun h105 => ?_)
  refine Z.aload_n B dX12_number_108 (v := .ref 45) rfl rfl ?_
  refine Z.iload_n B dX12_number_109 (x := nI a) rfl ?_
  refine Z.callVI (σ := (mS σ (a + 1) (T a - nI 48) w r)) B (M' := mX12_wrong) (as := [.int (nI a)]) (st := []) (v := .int (nI 0)) dX12_number_110 wX12_wrong iX12_wrong sX12_wrong kX12_154 (hl.n (k := 45) (by decide)) (hl.k (k := 45) (by decide)) (by decide) rfl rfl (t_X12_wrong (σ := σ) (t := (T a - nI 48)) (w := w) (r := r) hl ht (a := a + 1) (by omega) (p := nI a)) rfl rfl (by decide) (by decide) (Nat.le_of_ble_eq_true rfl) (by decide) (by decide) ?_
  refine Z.if_eqN B dX12_number_113 (tgt := 120) rfl (by omega) (fun h113 => ?_) (fun h113 => by exfalso; first | omega | contradiction | simp_all)
  refine Z.iconst B dX12_number_120 (v := nI 0) rfl ?_
  refine Z.iret B Rt dX12_number_121 (ty := .boolean) rfl rfl (by decide) (by decide) ?_
  exact ⟨rfl, rfl⟩

theorem t_X12_num_ok2 {σ : zSt} {t w : Int32} {r : Nat → Int32} (hl : Lay σ) {s m : Nat} {T : Nat → Int32} (ht : zTm σ s m T) {a : Nat} (ha : a < 2 ^ 30) {mo : Int32} (h1 : dg (T a) = true) (h2 : dg (T (a + 1)) = true) (h4 : (((T a - nI 48) * nI 10 + T (a + 1)) - nI 48) ≤ mo) : Dt mX12_number [.ref 45, .int mo] (mS σ a t w r) (some (.int (nI 1))) (mS σ (a + 1 + 1) (((T a - nI 48) * nI 10 + T (a + 1)) - nI 48) w r) := by
  obtain ⟨⟨hs8, hm160⟩, ⟨hbs, hen⟩, hT, hwd⟩ := id ht
  have hin := dg_in ht h1
  have hin2 := dg_in ht h2
  refine Dt.of (by decide) (Nat.le_of_ble_eq_true rfl) fun κ B Rt => ?_
  show Z κ 0 0 (mS σ a t w r) 0 [(0, .ref 45), (1, .int mo)] []
  refine Z.aload_n B dX12_number_0 (v := .ref 45) rfl rfl ?_
  refine Z.getI (σ := (mS σ a t w r)) B fX12_141_12 dX12_number_1 (hl.n (k := 45) (by decide)) (hl.k (k := 45) (by decide)) (by decide) (v := nI a) mS_a ?_
  refine Z.istore_n B dX12_number_4 (by decide) (L' := [(0, .ref 45), (1, .int mo), (2, .int (nI a))]) rfl ?_
  refine Z.aload_n B dX12_number_5 (v := .ref 45) rfl rfl ?_
  refine Z.callVI (σ := (mS σ a t w r)) B (M' := mX12_isDigit) (as := []) (st := []) (v := .int (nI 1)) dX12_number_6 wX12_isDigit iX12_isDigit sX12_isDigit kX12_150 (hl.n (k := 45) (by decide)) (hl.k (k := 45) (by decide)) (by decide) rfl rfl (t_X12_dig_1 (σ := σ) (t := t) (w := w) (r := r) hl ht (a := a) (by omega) h1) rfl rfl (by decide) (by decide) (Nat.le_of_ble_eq_true rfl) (by decide) (by decide) ?_
  refine Z.if_neN B dX12_number_9 (tgt := 21) rfl (by omega) (fun h9 => ?_) (fun h9 => by exfalso; first | omega | contradiction | simp_all)
  refine Z.aload_n B dX12_number_21 (v := .ref 45) rfl rfl ?_
  refine Z.aload_n B dX12_number_22 (v := .ref 45) rfl rfl ?_
  refine Z.getR (σ := (mS σ a t w r)) B fX12_53_12 dX12_number_23 (hl.n (k := 45) (by decide)) (hl.k (k := 45) (by decide)) (by decide) (j := 58) (hl.r (k := 45) (f := 17) (by decide) (by decide)) ?_
  refine Z.aload_n B dX12_number_26 (v := .ref 45) rfl rfl ?_
  refine Z.getI (σ := (mS σ a t w r)) B fX12_147_12 dX12_number_27 (hl.n (k := 45) (by decide)) (hl.k (k := 45) (by decide)) (by decide) (v := nI (s * 160)) ((mS_f (by decide) (by decide) (by decide)).trans hbs) ?_
  refine Z.aload_n B dX12_number_30 (v := .ref 45) rfl rfl ?_
  refine Z.getI (σ := (mS σ a t w r)) B fX12_141_12 dX12_number_31 (hl.n (k := 45) (by decide)) (hl.k (k := 45) (by decide)) (by decide) (v := nI a) mS_a ?_
  refine Z.iaddN B dX12_number_34 (a := s * 160) (b := a) ?_
  refine Z.lald (σ := (mS σ a t w r)) B dX12_number_35 (n := 1280) (hl.n (k := 58) (by decide)) (hl.k (k := 58) (by decide)) (hl.l (k := 58) (by decide)) (by decide) (j := (s * 160) + a) rfl (by omega) (v := (zY (mS σ a t w r) 58 ((s * 160) + a))) rfl ?_
  refine Z.l2i B dX12_number_36 ?_
  refine Z.eqS (st' := [.int (T a), .ref 45]) (congrArg (fun z => Value.int z :: _) (ht.t (i := a) (by omega))) ?_
  refine Z.bipush B dX12_number_37 (v := nI 48) rfl ?_
  refine Z.isub B dX12_number_39 ?_
  refine Z.putI (σ := (mS σ a t w r)) B fX12_157_12 (ty := .int) ⟨_, _, _, rfl, rfl, by decide +kernel⟩ dX12_number_40 (hl.n (k := 45) (by decide)) (hl.k (k := 45) (by decide)) (by decide) rfl rfl (τ := (zuX (mS σ a t w r) 45 (upd (zX (mS σ a t w r) 45) 24 ((T a) - (nI 48))))) rfl ?_
  refine Z.eqσ (τ := (mS σ a (T a - nI 48) w r)) mS_ut ?_
  refine Z.aload_n B dX12_number_43 (v := .ref 45) rfl rfl ?_
  refine Z.dup B dX12_number_44 rfl ?_
  refine Z.getI (σ := (mS σ a (T a - nI 48) w r)) B fX12_141_12 dX12_number_45 (hl.n (k := 45) (by decide)) (hl.k (k := 45) (by decide)) (by decide) (v := nI a) mS_a ?_
  refine Z.iconst B dX12_number_48 (v := nI 1) rfl ?_
  refine Z.iaddN B dX12_number_49 (a := a) (b := 1) ?_
  refine Z.putI (σ := (mS σ a (T a - nI 48) w r)) B fX12_141_12 (ty := .int) ⟨_, _, _, rfl, rfl, by decide +kernel⟩ dX12_number_50 (hl.n (k := 45) (by decide)) (hl.k (k := 45) (by decide)) (by decide) rfl rfl (τ := (zuX (mS σ a (T a - nI 48) w r) 45 (upd (zX (mS σ a (T a - nI 48) w r) 45) 22 (nI (a + 1))))) rfl ?_
  refine Z.eqσ (τ := (mS σ (a + 1) (T a - nI 48) w r)) mS_ua ?_
  refine Z.aload_n B dX12_number_53 (v := .ref 45) rfl rfl ?_
  refine Z.callVI (σ := (mS σ (a + 1) (T a - nI 48) w r)) B (M' := mX12_isDigit) (as := []) (st := []) (v := .int (nI 1)) dX12_number_54 wX12_isDigit iX12_isDigit sX12_isDigit kX12_150 (hl.n (k := 45) (by decide)) (hl.k (k := 45) (by decide)) (by decide) rfl rfl (t_X12_dig_1 (σ := σ) (t := (T a - nI 48)) (w := w) (r := r) hl ht (a := a + 1) (by omega) h2) rfl rfl (by decide) (by decide) (Nat.le_of_ble_eq_true rfl) (by decide) (by decide) ?_
  refine Z.if_eqN B dX12_number_57 (tgt := 100) rfl (by omega) (fun h57 => by exfalso; first | omega | contradiction | simp_all) (fun h57 => ?_)
  refine Z.aload_n B dX12_number_60 (v := .ref 45) rfl rfl ?_
  refine Z.bipush B dX12_number_61 (v := nI 10) rfl ?_
  refine Z.aload_n B dX12_number_63 (v := .ref 45) rfl rfl ?_
  refine Z.getI (σ := (mS σ (a + 1) (T a - nI 48) w r)) B fX12_157_12 dX12_number_64 (hl.n (k := 45) (by decide)) (hl.k (k := 45) (by decide)) (by decide) (v := (T a - nI 48)) mS_t ?_
  refine Z.imulv B dX12_number_67 (v := ((T a - nI 48) * nI 10)) (Int32.mul_comm _ _) ?_
  refine Z.aload_n B dX12_number_68 (v := .ref 45) rfl rfl ?_
  refine Z.getR (σ := (mS σ (a + 1) (T a - nI 48) w r)) B fX12_53_12 dX12_number_69 (hl.n (k := 45) (by decide)) (hl.k (k := 45) (by decide)) (by decide) (j := 58) (hl.r (k := 45) (f := 17) (by decide) (by decide)) ?_
  refine Z.aload_n B dX12_number_72 (v := .ref 45) rfl rfl ?_
  refine Z.getI (σ := (mS σ (a + 1) (T a - nI 48) w r)) B fX12_147_12 dX12_number_73 (hl.n (k := 45) (by decide)) (hl.k (k := 45) (by decide)) (by decide) (v := nI (s * 160)) ((mS_f (by decide) (by decide) (by decide)).trans hbs) ?_
  refine Z.aload_n B dX12_number_76 (v := .ref 45) rfl rfl ?_
  refine Z.getI (σ := (mS σ (a + 1) (T a - nI 48) w r)) B fX12_141_12 dX12_number_77 (hl.n (k := 45) (by decide)) (hl.k (k := 45) (by decide)) (by decide) (v := nI (a + 1)) mS_a ?_
  refine Z.iaddN B dX12_number_80 (a := s * 160) (b := a + 1) ?_
  refine Z.lald (σ := (mS σ (a + 1) (T a - nI 48) w r)) B dX12_number_81 (n := 1280) (hl.n (k := 58) (by decide)) (hl.k (k := 58) (by decide)) (hl.l (k := 58) (by decide)) (by decide) (j := (s * 160) + (a + 1)) rfl (by omega) (v := (zY (mS σ (a + 1) (T a - nI 48) w r) 58 ((s * 160) + (a + 1)))) rfl ?_
  refine Z.l2i B dX12_number_82 ?_
  refine Z.eqS (st' := [.int (T (a + 1)), .int ((T a - nI 48) * nI 10), .ref 45]) (congrArg (fun z => Value.int z :: _) (ht.t (i := a + 1) (by omega))) ?_
  refine Z.iadd B dX12_number_83 ?_
  refine Z.bipush B dX12_number_84 (v := nI 48) rfl ?_
  refine Z.isub B dX12_number_86 ?_
  refine Z.putI (σ := (mS σ (a + 1) (T a - nI 48) w r)) B fX12_157_12 (ty := .int) ⟨_, _, _, rfl, rfl, by decide +kernel⟩ dX12_number_87 (hl.n (k := 45) (by decide)) (hl.k (k := 45) (by decide)) (by decide) rfl rfl (τ := (zuX (mS σ (a + 1) (T a - nI 48) w r) 45 (upd (zX (mS σ (a + 1) (T a - nI 48) w r) 45) 24 ((((T a - nI 48) * nI 10) + (T (a + 1))) - (nI 48))))) rfl ?_
  refine Z.eqσ (τ := (mS σ (a + 1) (((T a - nI 48) * nI 10 + T (a + 1)) - nI 48) w r)) mS_ut ?_
  refine Z.aload_n B dX12_number_90 (v := .ref 45) rfl rfl ?_
  refine Z.dup B dX12_number_91 rfl ?_
  refine Z.getI (σ := (mS σ (a + 1) (((T a - nI 48) * nI 10 + T (a + 1)) - nI 48) w r)) B fX12_141_12 dX12_number_92 (hl.n (k := 45) (by decide)) (hl.k (k := 45) (by decide)) (by decide) (v := nI (a + 1)) mS_a ?_
  refine Z.iconst B dX12_number_95 (v := nI 1) rfl ?_
  refine Z.iaddN B dX12_number_96 (a := a + 1) (b := 1) ?_
  refine Z.putI (σ := (mS σ (a + 1) (((T a - nI 48) * nI 10 + T (a + 1)) - nI 48) w r)) B fX12_141_12 (ty := .int) ⟨_, _, _, rfl, rfl, by decide +kernel⟩ dX12_number_97 (hl.n (k := 45) (by decide)) (hl.k (k := 45) (by decide)) (by decide) rfl rfl (τ := (zuX (mS σ (a + 1) (((T a - nI 48) * nI 10 + T (a + 1)) - nI 48) w r) 45 (upd (zX (mS σ (a + 1) (((T a - nI 48) * nI 10 + T (a + 1)) - nI 48) w r) 45) 22 (nI ((a + 1) + 1))))) rfl ?_
  refine Z.eqσ (τ := (mS σ (a + 1 + 1) (((T a - nI 48) * nI 10 + T (a + 1)) - nI 48) w r)) mS_ua ?_
  refine Z.aload_n B dX12_number_100 (v := .ref 45) rfl rfl ?_
  refine Z.getI (σ := (mS σ (a + 1 + 1) (((T a - nI 48) * nI 10 + T (a + 1)) - nI 48) w r)) B fX12_157_12 dX12_number_101 (hl.n (k := 45) (by decide)) (hl.k (k := 45) (by decide)) (by decide) (v := (((T a - nI 48) * nI 10 + T (a + 1)) - nI 48)) mS_t ?_
  refine Z.iload_n B dX12_number_104 (x := mo) rfl ?_
  refine Z.icmp_le B dX12_number_105 (tgt := 116) rfl (fun h105 => ?_) (fun h105 => by exfalso; first | omega | contradiction | simp_all)
  refine Z.iconst B dX12_number_116 (v := nI 1) rfl ?_
  refine Z.goto B dX12_number_117 (tgt := 121) rfl ?_
  refine Z.iret B Rt dX12_number_121 (ty := .boolean) rfl rfl (by decide) (by decide) ?_
  exact ⟨rfl, rfl⟩

theorem t_X12_num_big2 {σ : zSt} {t w : Int32} {r : Nat → Int32} (hl : Lay σ) {s m : Nat} {T : Nat → Int32} (ht : zTm σ s m T) {a : Nat} (ha : a < 2 ^ 30) {mo : Int32} (h1 : dg (T a) = true) (h2 : dg (T (a + 1)) = true) (h4 : ¬ (((T a - nI 48) * nI 10 + T (a + 1)) - nI 48) ≤ mo) : Dt mX12_number [.ref 45, .int mo] (mS σ a t w r) (some (.int (nI 0))) (mS σ (a + 1 + 1) (((T a - nI 48) * nI 10 + T (a + 1)) - nI 48) (nI a) r) := by
  obtain ⟨⟨hs8, hm160⟩, ⟨hbs, hen⟩, hT, hwd⟩ := id ht
  have hin := dg_in ht h1
  have hin2 := dg_in ht h2
  refine Dt.of (by decide) (Nat.le_of_ble_eq_true rfl) fun κ B Rt => ?_
  show Z κ 0 0 (mS σ a t w r) 0 [(0, .ref 45), (1, .int mo)] []
  refine Z.aload_n B dX12_number_0 (v := .ref 45) rfl rfl ?_
  refine Z.getI (σ := (mS σ a t w r)) B fX12_141_12 dX12_number_1 (hl.n (k := 45) (by decide)) (hl.k (k := 45) (by decide)) (by decide) (v := nI a) mS_a ?_
  refine Z.istore_n B dX12_number_4 (by decide) (L' := [(0, .ref 45), (1, .int mo), (2, .int (nI a))]) rfl ?_
  refine Z.aload_n B dX12_number_5 (v := .ref 45) rfl rfl ?_
  refine Z.callVI (σ := (mS σ a t w r)) B (M' := mX12_isDigit) (as := []) (st := []) (v := .int (nI 1)) dX12_number_6 wX12_isDigit iX12_isDigit sX12_isDigit kX12_150 (hl.n (k := 45) (by decide)) (hl.k (k := 45) (by decide)) (by decide) rfl rfl (t_X12_dig_1 (σ := σ) (t := t) (w := w) (r := r) hl ht (a := a) (by omega) h1) rfl rfl (by decide) (by decide) (Nat.le_of_ble_eq_true rfl) (by decide) (by decide) ?_
  refine Z.if_neN B dX12_number_9 (tgt := 21) rfl (by omega) (fun h9 => ?_) (fun h9 => by exfalso; first | omega | contradiction | simp_all)
  refine Z.aload_n B dX12_number_21 (v := .ref 45) rfl rfl ?_
  refine Z.aload_n B dX12_number_22 (v := .ref 45) rfl rfl ?_
  refine Z.getR (σ := (mS σ a t w r)) B fX12_53_12 dX12_number_23 (hl.n (k := 45) (by decide)) (hl.k (k := 45) (by decide)) (by decide) (j := 58) (hl.r (k := 45) (f := 17) (by decide) (by decide)) ?_
  refine Z.aload_n B dX12_number_26 (v := .ref 45) rfl rfl ?_
  refine Z.getI (σ := (mS σ a t w r)) B fX12_147_12 dX12_number_27 (hl.n (k := 45) (by decide)) (hl.k (k := 45) (by decide)) (by decide) (v := nI (s * 160)) ((mS_f (by decide) (by decide) (by decide)).trans hbs) ?_
  refine Z.aload_n B dX12_number_30 (v := .ref 45) rfl rfl ?_
  refine Z.getI (σ := (mS σ a t w r)) B fX12_141_12 dX12_number_31 (hl.n (k := 45) (by decide)) (hl.k (k := 45) (by decide)) (by decide) (v := nI a) mS_a ?_
  refine Z.iaddN B dX12_number_34 (a := s * 160) (b := a) ?_
  refine Z.lald (σ := (mS σ a t w r)) B dX12_number_35 (n := 1280) (hl.n (k := 58) (by decide)) (hl.k (k := 58) (by decide)) (hl.l (k := 58) (by decide)) (by decide) (j := (s * 160) + a) rfl (by omega) (v := (zY (mS σ a t w r) 58 ((s * 160) + a))) rfl ?_
  refine Z.l2i B dX12_number_36 ?_
  refine Z.eqS (st' := [.int (T a), .ref 45]) (congrArg (fun z => Value.int z :: _) (ht.t (i := a) (by omega))) ?_
  refine Z.bipush B dX12_number_37 (v := nI 48) rfl ?_
  refine Z.isub B dX12_number_39 ?_
  refine Z.putI (σ := (mS σ a t w r)) B fX12_157_12 (ty := .int) ⟨_, _, _, rfl, rfl, by decide +kernel⟩ dX12_number_40 (hl.n (k := 45) (by decide)) (hl.k (k := 45) (by decide)) (by decide) rfl rfl (τ := (zuX (mS σ a t w r) 45 (upd (zX (mS σ a t w r) 45) 24 ((T a) - (nI 48))))) rfl ?_
  refine Z.eqσ (τ := (mS σ a (T a - nI 48) w r)) mS_ut ?_
  refine Z.aload_n B dX12_number_43 (v := .ref 45) rfl rfl ?_
  refine Z.dup B dX12_number_44 rfl ?_
  refine Z.getI (σ := (mS σ a (T a - nI 48) w r)) B fX12_141_12 dX12_number_45 (hl.n (k := 45) (by decide)) (hl.k (k := 45) (by decide)) (by decide) (v := nI a) mS_a ?_
  refine Z.iconst B dX12_number_48 (v := nI 1) rfl ?_
  refine Z.iaddN B dX12_number_49 (a := a) (b := 1) ?_
  refine Z.putI (σ := (mS σ a (T a - nI 48) w r)) B fX12_141_12 (ty := .int) ⟨_, _, _, rfl, rfl, by decide +kernel⟩ dX12_number_50 (hl.n (k := 45) (by decide)) (hl.k (k := 45) (by decide)) (by decide) rfl rfl (τ := (zuX (mS σ a (T a - nI 48) w r) 45 (upd (zX (mS σ a (T a - nI 48) w r) 45) 22 (nI (a + 1))))) rfl ?_
  refine Z.eqσ (τ := (mS σ (a + 1) (T a - nI 48) w r)) mS_ua ?_
  refine Z.aload_n B dX12_number_53 (v := .ref 45) rfl rfl ?_
  refine Z.callVI (σ := (mS σ (a + 1) (T a - nI 48) w r)) B (M' := mX12_isDigit) (as := []) (st := []) (v := .int (nI 1)) dX12_number_54 wX12_isDigit iX12_isDigit sX12_isDigit kX12_150 (hl.n (k := 45) (by decide)) (hl.k (k := 45) (by decide)) (by decide) rfl rfl (t_X12_dig_1 (σ := σ) (t := (T a - nI 48)) (w := w) (r := r) hl ht (a := a + 1) (by omega) h2) rfl rfl (by decide) (by decide) (Nat.le_of_ble_eq_true rfl) (by decide) (by decide) ?_
  refine Z.if_eqN B dX12_number_57 (tgt := 100) rfl (by omega) (fun h57 => by exfalso; first | omega | contradiction | simp_all) (fun h57 => ?_)
  refine Z.aload_n B dX12_number_60 (v := .ref 45) rfl rfl ?_
  refine Z.bipush B dX12_number_61 (v := nI 10) rfl ?_
  refine Z.aload_n B dX12_number_63 (v := .ref 45) rfl rfl ?_
  refine Z.getI (σ := (mS σ (a + 1) (T a - nI 48) w r)) B fX12_157_12 dX12_number_64 (hl.n (k := 45) (by decide)) (hl.k (k := 45) (by decide)) (by decide) (v := (T a - nI 48)) mS_t ?_
  refine Z.imulv B dX12_number_67 (v := ((T a - nI 48) * nI 10)) (Int32.mul_comm _ _) ?_
  refine Z.aload_n B dX12_number_68 (v := .ref 45) rfl rfl ?_
  refine Z.getR (σ := (mS σ (a + 1) (T a - nI 48) w r)) B fX12_53_12 dX12_number_69 (hl.n (k := 45) (by decide)) (hl.k (k := 45) (by decide)) (by decide) (j := 58) (hl.r (k := 45) (f := 17) (by decide) (by decide)) ?_
  refine Z.aload_n B dX12_number_72 (v := .ref 45) rfl rfl ?_
  refine Z.getI (σ := (mS σ (a + 1) (T a - nI 48) w r)) B fX12_147_12 dX12_number_73 (hl.n (k := 45) (by decide)) (hl.k (k := 45) (by decide)) (by decide) (v := nI (s * 160)) ((mS_f (by decide) (by decide) (by decide)).trans hbs) ?_
  refine Z.aload_n B dX12_number_76 (v := .ref 45) rfl rfl ?_
  refine Z.getI (σ := (mS σ (a + 1) (T a - nI 48) w r)) B fX12_141_12 dX12_number_77 (hl.n (k := 45) (by decide)) (hl.k (k := 45) (by decide)) (by decide) (v := nI (a + 1)) mS_a ?_
  refine Z.iaddN B dX12_number_80 (a := s * 160) (b := a + 1) ?_
  refine Z.lald (σ := (mS σ (a + 1) (T a - nI 48) w r)) B dX12_number_81 (n := 1280) (hl.n (k := 58) (by decide)) (hl.k (k := 58) (by decide)) (hl.l (k := 58) (by decide)) (by decide) (j := (s * 160) + (a + 1)) rfl (by omega) (v := (zY (mS σ (a + 1) (T a - nI 48) w r) 58 ((s * 160) + (a + 1)))) rfl ?_
  refine Z.l2i B dX12_number_82 ?_
  refine Z.eqS (st' := [.int (T (a + 1)), .int ((T a - nI 48) * nI 10), .ref 45]) (congrArg (fun z => Value.int z :: _) (ht.t (i := a + 1) (by omega))) ?_
  refine Z.iadd B dX12_number_83 ?_
  refine Z.bipush B dX12_number_84 (v := nI 48) rfl ?_
  refine Z.isub B dX12_number_86 ?_
  refine Z.putI (σ := (mS σ (a + 1) (T a - nI 48) w r)) B fX12_157_12 (ty := .int) ⟨_, _, _, rfl, rfl, by decide +kernel⟩ dX12_number_87 (hl.n (k := 45) (by decide)) (hl.k (k := 45) (by decide)) (by decide) rfl rfl (τ := (zuX (mS σ (a + 1) (T a - nI 48) w r) 45 (upd (zX (mS σ (a + 1) (T a - nI 48) w r) 45) 24 ((((T a - nI 48) * nI 10) + (T (a + 1))) - (nI 48))))) rfl ?_
  refine Z.eqσ (τ := (mS σ (a + 1) (((T a - nI 48) * nI 10 + T (a + 1)) - nI 48) w r)) mS_ut ?_
  refine Z.aload_n B dX12_number_90 (v := .ref 45) rfl rfl ?_
  refine Z.dup B dX12_number_91 rfl ?_
  refine Z.getI (σ := (mS σ (a + 1) (((T a - nI 48) * nI 10 + T (a + 1)) - nI 48) w r)) B fX12_141_12 dX12_number_92 (hl.n (k := 45) (by decide)) (hl.k (k := 45) (by decide)) (by decide) (v := nI (a + 1)) mS_a ?_
  refine Z.iconst B dX12_number_95 (v := nI 1) rfl ?_
  refine Z.iaddN B dX12_number_96 (a := a + 1) (b := 1) ?_
  refine Z.putI (σ := (mS σ (a + 1) (((T a - nI 48) * nI 10 + T (a + 1)) - nI 48) w r)) B fX12_141_12 (ty := .int) ⟨_, _, _, rfl, rfl, by decide +kernel⟩ dX12_number_97 (hl.n (k := 45) (by decide)) (hl.k (k := 45) (by decide)) (by decide) rfl rfl (τ := (zuX (mS σ (a + 1) (((T a - nI 48) * nI 10 + T (a + 1)) - nI 48) w r) 45 (upd (zX (mS σ (a + 1) (((T a - nI 48) * nI 10 + T (a + 1)) - nI 48) w r) 45) 22 (nI ((a + 1) + 1))))) rfl ?_
  refine Z.eqσ (τ := (mS σ (a + 1 + 1) (((T a - nI 48) * nI 10 + T (a + 1)) - nI 48) w r)) mS_ua ?_
  refine Z.aload_n B dX12_number_100 (v := .ref 45) rfl rfl ?_
  refine Z.getI (σ := (mS σ (a + 1 + 1) (((T a - nI 48) * nI 10 + T (a + 1)) - nI 48) w r)) B fX12_157_12 dX12_number_101 (hl.n (k := 45) (by decide)) (hl.k (k := 45) (by decide)) (by decide) (v := (((T a - nI 48) * nI 10 + T (a + 1)) - nI 48)) mS_t ?_
  refine Z.iload_n B dX12_number_104 (x := mo) rfl ?_
  refine Z.icmp_le B dX12_number_105 (tgt := 116) rfl (fun h105 => by exfalso; first | omega | contradiction | simp_all) (fun h105 => ?_)
  refine Z.aload_n B dX12_number_108 (v := .ref 45) rfl rfl ?_
  refine Z.iload_n B dX12_number_109 (x := nI a) rfl ?_
  refine Z.callVI (σ := (mS σ (a + 1 + 1) (((T a - nI 48) * nI 10 + T (a + 1)) - nI 48) w r)) B (M' := mX12_wrong) (as := [.int (nI a)]) (st := []) (v := .int (nI 0)) dX12_number_110 wX12_wrong iX12_wrong sX12_wrong kX12_154 (hl.n (k := 45) (by decide)) (hl.k (k := 45) (by decide)) (by decide) rfl rfl (t_X12_wrong (σ := σ) (t := (((T a - nI 48) * nI 10 + T (a + 1)) - nI 48)) (w := w) (r := r) hl ht (a := a + 1 + 1) (by omega) (p := nI a)) rfl rfl (by decide) (by decide) (Nat.le_of_ble_eq_true rfl) (by decide) (by decide) ?_
  refine Z.if_eqN B dX12_number_113 (tgt := 120) rfl (by omega) (fun h113 => ?_) (fun h113 => by exfalso; first | omega | contradiction | simp_all)
  refine Z.iconst B dX12_number_120 (v := nI 0) rfl ?_
  refine Z.iret B Rt dX12_number_121 (ty := .boolean) rfl rfl (by decide) (by decide) ?_
  exact ⟨rfl, rfl⟩

theorem t_X12_num_ok {σ : zSt} {t w : Int32} {r : Nat → Int32} (hl : Lay σ) {s m : Nat} {T : Nat → Int32} (ht : zTm σ s m T) {a : Nat} (ha : a < 2 ^ 30) {mo : Int32} (h1 : dg (T a) = true) (h4 : nv T a ≤ mo) : Dt mX12_number [.ref 45, .int mo] (mS σ a t w r) (some (.int (nI 1))) (mS σ (nl T a) (nv T a) w r) := by
  unfold nv at h4 ⊢
  unfold nl
  cases h2 : dg (T (a + 1)) with
  | false =>
    rw [h2, if_neg (by decide)] at h4
    rw [if_neg (by decide), if_neg (by decide)]
    exact t_X12_num_ok1 hl ht ha h1 h2 h4
  | true =>
    rw [h2, if_pos rfl] at h4
    rw [if_pos rfl, if_pos rfl]
    exact t_X12_num_ok2 hl ht ha h1 h2 h4
theorem t_X12_num_big {σ : zSt} {t w : Int32} {r : Nat → Int32} (hl : Lay σ) {s m : Nat} {T : Nat → Int32} (ht : zTm σ s m T) {a : Nat} (ha : a < 2 ^ 30) {mo : Int32} (h1 : dg (T a) = true) (h4 : ¬ nv T a ≤ mo) : Dt mX12_number [.ref 45, .int mo] (mS σ a t w r) (some (.int (nI 0))) (mS σ (nl T a) (nv T a) (nI a) r) := by
  unfold nv at h4 ⊢
  unfold nl
  cases h2 : dg (T (a + 1)) with
  | false =>
    rw [h2, if_neg (by decide)] at h4
    rw [if_neg (by decide), if_neg (by decide)]
    exact t_X12_num_big1 hl ht ha h1 h2 h4
  | true =>
    rw [h2, if_pos rfl] at h4
    rw [if_pos rfl, if_pos rfl]
    exact t_X12_num_big2 hl ht ha h1 h2 h4
theorem t_X12_high_0_0 {σ : zSt} {ac : Nat} (hl : Lay σ) (hac : zX σ 45 1 = nI ac) : Dt mX12_high [.ref 45, .int (nI 0), .int (nI 0)] σ (some (.int (mx ac 0 0))) σ := by
  refine Dt.of (by decide) (Nat.le_of_ble_eq_true rfl) fun κ B Rt => ?_
  show Z κ 0 0 σ 0 [(0, .ref 45), (1, .int (nI 0)), (2, .int (nI 0))] []
  refine Z.iload_n B dX12_high_0 (x := nI 0) rfl ?_
  refine Z.tabIn B dX12_high_1 (by decide) (by decide) (off := 27) (by decide) (tgt := 28) rfl ?_
  refine Z.aload_n B dX12_high_28 (v := .ref 45) rfl rfl ?_
  refine Z.iload_n B dX12_high_29 (x := nI 0) rfl ?_
  refine Z.callVI (σ := σ) B (M' := mX12_top) (as := [.int (nI 0)]) (st := []) (v := .int (nI (mo 0))) dX12_high_30 wX12_top iX12_top sX12_top kX12_118 (hl.n (k := 45) (by decide)) (hl.k (k := 45) (by decide)) (by decide) rfl rfl (t_X12_top (σ := σ) (i := 0) (by decide)) rfl rfl (by decide) (by decide) (Nat.le_of_ble_eq_true rfl) (by decide) (by decide) ?_
  refine Z.iret B Rt dX12_high_33 (ty := .int) rfl rfl (by decide) (by decide) ?_
  exact ⟨rfl, rfl⟩

theorem t_X12_high_0_1 {σ : zSt} {ac : Nat} (hl : Lay σ) (hac : zX σ 45 1 = nI ac) : Dt mX12_high [.ref 45, .int (nI 0), .int (nI 1)] σ (some (.int (mx ac 0 1))) σ := by
  refine Dt.of (by decide) (Nat.le_of_ble_eq_true rfl) fun κ B Rt => ?_
  show Z κ 0 0 σ 0 [(0, .ref 45), (1, .int (nI 0)), (2, .int (nI 1))] []
  refine Z.iload_n B dX12_high_0 (x := nI 0) rfl ?_
  refine Z.tabIn B dX12_high_1 (by decide) (by decide) (off := 27) (by decide) (tgt := 28) rfl ?_
  refine Z.aload_n B dX12_high_28 (v := .ref 45) rfl rfl ?_
  refine Z.iload_n B dX12_high_29 (x := nI 1) rfl ?_
  refine Z.callVI (σ := σ) B (M' := mX12_top) (as := [.int (nI 1)]) (st := []) (v := .int (nI (mo 1))) dX12_high_30 wX12_top iX12_top sX12_top kX12_118 (hl.n (k := 45) (by decide)) (hl.k (k := 45) (by decide)) (by decide) rfl rfl (t_X12_top (σ := σ) (i := 1) (by decide)) rfl rfl (by decide) (by decide) (Nat.le_of_ble_eq_true rfl) (by decide) (by decide) ?_
  refine Z.iret B Rt dX12_high_33 (ty := .int) rfl rfl (by decide) (by decide) ?_
  exact ⟨rfl, rfl⟩

theorem t_X12_high_0_2 {σ : zSt} {ac : Nat} (hl : Lay σ) (hac : zX σ 45 1 = nI ac) : Dt mX12_high [.ref 45, .int (nI 0), .int (nI 2)] σ (some (.int (mx ac 0 2))) σ := by
  refine Dt.of (by decide) (Nat.le_of_ble_eq_true rfl) fun κ B Rt => ?_
  show Z κ 0 0 σ 0 [(0, .ref 45), (1, .int (nI 0)), (2, .int (nI 2))] []
  refine Z.iload_n B dX12_high_0 (x := nI 0) rfl ?_
  refine Z.tabIn B dX12_high_1 (by decide) (by decide) (off := 27) (by decide) (tgt := 28) rfl ?_
  refine Z.aload_n B dX12_high_28 (v := .ref 45) rfl rfl ?_
  refine Z.iload_n B dX12_high_29 (x := nI 2) rfl ?_
  refine Z.callVI (σ := σ) B (M' := mX12_top) (as := [.int (nI 2)]) (st := []) (v := .int (nI (mo 2))) dX12_high_30 wX12_top iX12_top sX12_top kX12_118 (hl.n (k := 45) (by decide)) (hl.k (k := 45) (by decide)) (by decide) rfl rfl (t_X12_top (σ := σ) (i := 2) (by decide)) rfl rfl (by decide) (by decide) (Nat.le_of_ble_eq_true rfl) (by decide) (by decide) ?_
  refine Z.iret B Rt dX12_high_33 (ty := .int) rfl rfl (by decide) (by decide) ?_
  exact ⟨rfl, rfl⟩

theorem t_X12_high_0_3 {σ : zSt} {ac : Nat} (hl : Lay σ) (hac : zX σ 45 1 = nI ac) : Dt mX12_high [.ref 45, .int (nI 0), .int (nI 3)] σ (some (.int (mx ac 0 3))) σ := by
  refine Dt.of (by decide) (Nat.le_of_ble_eq_true rfl) fun κ B Rt => ?_
  show Z κ 0 0 σ 0 [(0, .ref 45), (1, .int (nI 0)), (2, .int (nI 3))] []
  refine Z.iload_n B dX12_high_0 (x := nI 0) rfl ?_
  refine Z.tabIn B dX12_high_1 (by decide) (by decide) (off := 27) (by decide) (tgt := 28) rfl ?_
  refine Z.aload_n B dX12_high_28 (v := .ref 45) rfl rfl ?_
  refine Z.iload_n B dX12_high_29 (x := nI 3) rfl ?_
  refine Z.callVI (σ := σ) B (M' := mX12_top) (as := [.int (nI 3)]) (st := []) (v := .int (nI (mo 3))) dX12_high_30 wX12_top iX12_top sX12_top kX12_118 (hl.n (k := 45) (by decide)) (hl.k (k := 45) (by decide)) (by decide) rfl rfl (t_X12_top (σ := σ) (i := 3) (by decide)) rfl rfl (by decide) (by decide) (Nat.le_of_ble_eq_true rfl) (by decide) (by decide) ?_
  refine Z.iret B Rt dX12_high_33 (ty := .int) rfl rfl (by decide) (by decide) ?_
  exact ⟨rfl, rfl⟩

theorem t_X12_high_0_4 {σ : zSt} {ac : Nat} (hl : Lay σ) (hac : zX σ 45 1 = nI ac) : Dt mX12_high [.ref 45, .int (nI 0), .int (nI 4)] σ (some (.int (mx ac 0 4))) σ := by
  refine Dt.of (by decide) (Nat.le_of_ble_eq_true rfl) fun κ B Rt => ?_
  show Z κ 0 0 σ 0 [(0, .ref 45), (1, .int (nI 0)), (2, .int (nI 4))] []
  refine Z.iload_n B dX12_high_0 (x := nI 0) rfl ?_
  refine Z.tabIn B dX12_high_1 (by decide) (by decide) (off := 27) (by decide) (tgt := 28) rfl ?_
  refine Z.aload_n B dX12_high_28 (v := .ref 45) rfl rfl ?_
  refine Z.iload_n B dX12_high_29 (x := nI 4) rfl ?_
  refine Z.callVI (σ := σ) B (M' := mX12_top) (as := [.int (nI 4)]) (st := []) (v := .int (nI (mo 4))) dX12_high_30 wX12_top iX12_top sX12_top kX12_118 (hl.n (k := 45) (by decide)) (hl.k (k := 45) (by decide)) (by decide) rfl rfl (t_X12_top (σ := σ) (i := 4) (by decide)) rfl rfl (by decide) (by decide) (Nat.le_of_ble_eq_true rfl) (by decide) (by decide) ?_
  refine Z.iret B Rt dX12_high_33 (ty := .int) rfl rfl (by decide) (by decide) ?_
  exact ⟨rfl, rfl⟩

theorem t_X12_high_0_5 {σ : zSt} {ac : Nat} (hl : Lay σ) (hac : zX σ 45 1 = nI ac) : Dt mX12_high [.ref 45, .int (nI 0), .int (nI 5)] σ (some (.int (mx ac 0 5))) σ := by
  refine Dt.of (by decide) (Nat.le_of_ble_eq_true rfl) fun κ B Rt => ?_
  show Z κ 0 0 σ 0 [(0, .ref 45), (1, .int (nI 0)), (2, .int (nI 5))] []
  refine Z.iload_n B dX12_high_0 (x := nI 0) rfl ?_
  refine Z.tabIn B dX12_high_1 (by decide) (by decide) (off := 27) (by decide) (tgt := 28) rfl ?_
  refine Z.aload_n B dX12_high_28 (v := .ref 45) rfl rfl ?_
  refine Z.iload_n B dX12_high_29 (x := nI 5) rfl ?_
  refine Z.callVI (σ := σ) B (M' := mX12_top) (as := [.int (nI 5)]) (st := []) (v := .int (nI (mo 5))) dX12_high_30 wX12_top iX12_top sX12_top kX12_118 (hl.n (k := 45) (by decide)) (hl.k (k := 45) (by decide)) (by decide) rfl rfl (t_X12_top (σ := σ) (i := 5) (by decide)) rfl rfl (by decide) (by decide) (Nat.le_of_ble_eq_true rfl) (by decide) (by decide) ?_
  refine Z.iret B Rt dX12_high_33 (ty := .int) rfl rfl (by decide) (by decide) ?_
  exact ⟨rfl, rfl⟩

theorem t_X12_high_1_0 {σ : zSt} {ac : Nat} (hl : Lay σ) (hac : zX σ 45 1 = nI ac) : Dt mX12_high [.ref 45, .int (nI 1), .int (nI 0)] σ (some (.int (mx ac 1 0))) σ := by
  refine Dt.of (by decide) (Nat.le_of_ble_eq_true rfl) fun κ B Rt => ?_
  show Z κ 0 0 σ 0 [(0, .ref 45), (1, .int (nI 1)), (2, .int (nI 0))] []
  refine Z.iload_n B dX12_high_0 (x := nI 1) rfl ?_
  refine Z.tabIn B dX12_high_1 (by decide) (by decide) (off := 33) (by decide) (tgt := 34) rfl ?_
  refine Z.iload_n B dX12_high_34 (x := nI 0) rfl ?_
  refine Z.if_neN B dX12_high_35 (tgt := 42) rfl (by omega) (fun h35 => by exfalso; first | omega | contradiction | simp_all) (fun h35 => ?_)
  refine Z.iconst B dX12_high_38 (v := nI 3) rfl ?_
  refine Z.goto B dX12_high_39 (tgt := 54) rfl ?_
  refine Z.iret B Rt dX12_high_54 (ty := .int) rfl rfl (by decide) (by decide) ?_
  exact ⟨rfl, rfl⟩

theorem t_X12_high_1_1 {σ : zSt} {ac : Nat} (hl : Lay σ) (hac : zX σ 45 1 = nI ac) : Dt mX12_high [.ref 45, .int (nI 1), .int (nI 1)] σ (some (.int (mx ac 1 1))) σ := by
  refine Dt.of (by decide) (Nat.le_of_ble_eq_true rfl) fun κ B Rt => ?_
  show Z κ 0 0 σ 0 [(0, .ref 45), (1, .int (nI 1)), (2, .int (nI 1))] []
  refine Z.iload_n B dX12_high_0 (x := nI 1) rfl ?_
  refine Z.tabIn B dX12_high_1 (by decide) (by decide) (off := 33) (by decide) (tgt := 34) rfl ?_
  refine Z.iload_n B dX12_high_34 (x := nI 1) rfl ?_
  refine Z.if_neN B dX12_high_35 (tgt := 42) rfl (by omega) (fun h35 => ?_) (fun h35 => by exfalso; first | omega | contradiction | simp_all)
  refine Z.iload_n B dX12_high_42 (x := nI 1) rfl ?_
  refine Z.iconst B dX12_high_43 (v := nI 1) rfl ?_
  refine Z.icmp_neN B dX12_high_44 (tgt := 52) rfl (by omega) (by omega) (fun h44 => by exfalso; first | omega | contradiction | simp_all) (fun h44 => ?_)
  refine Z.bipush B dX12_high_47 (v := nI 9) rfl ?_
  refine Z.goto B dX12_high_49 (tgt := 54) rfl ?_
  refine Z.iret B Rt dX12_high_54 (ty := .int) rfl rfl (by decide) (by decide) ?_
  exact ⟨rfl, rfl⟩

theorem t_X12_high_1_2 {σ : zSt} {ac : Nat} (hl : Lay σ) (hac : zX σ 45 1 = nI ac) : Dt mX12_high [.ref 45, .int (nI 1), .int (nI 2)] σ (some (.int (mx ac 1 2))) σ := by
  refine Dt.of (by decide) (Nat.le_of_ble_eq_true rfl) fun κ B Rt => ?_
  show Z κ 0 0 σ 0 [(0, .ref 45), (1, .int (nI 1)), (2, .int (nI 2))] []
  refine Z.iload_n B dX12_high_0 (x := nI 1) rfl ?_
  refine Z.tabIn B dX12_high_1 (by decide) (by decide) (off := 33) (by decide) (tgt := 34) rfl ?_
  refine Z.iload_n B dX12_high_34 (x := nI 2) rfl ?_
  refine Z.if_neN B dX12_high_35 (tgt := 42) rfl (by omega) (fun h35 => ?_) (fun h35 => by exfalso; first | omega | contradiction | simp_all)
  refine Z.iload_n B dX12_high_42 (x := nI 2) rfl ?_
  refine Z.iconst B dX12_high_43 (v := nI 1) rfl ?_
  refine Z.icmp_neN B dX12_high_44 (tgt := 52) rfl (by omega) (by omega) (fun h44 => ?_) (fun h44 => by exfalso; first | omega | contradiction | simp_all)
  refine Z.bipush B dX12_high_52 (v := nI 10) rfl ?_
  refine Z.iret B Rt dX12_high_54 (ty := .int) rfl rfl (by decide) (by decide) ?_
  exact ⟨rfl, rfl⟩

theorem t_X12_high_2_0 {σ : zSt} {ac : Nat} (hl : Lay σ) (hac : zX σ 45 1 = nI ac) : Dt mX12_high [.ref 45, .int (nI 2), .int (nI 0)] σ (some (.int (mx ac 2 0))) σ := by
  refine Dt.of (by decide) (Nat.le_of_ble_eq_true rfl) fun κ B Rt => ?_
  show Z κ 0 0 σ 0 [(0, .ref 45), (1, .int (nI 2)), (2, .int (nI 0))] []
  refine Z.iload_n B dX12_high_0 (x := nI 2) rfl ?_
  refine Z.tabIn B dX12_high_1 (by decide) (by decide) (off := 54) (by decide) (tgt := 55) rfl ?_
  refine Z.iload_n B dX12_high_55 (x := nI 0) rfl ?_
  refine Z.if_neN B dX12_high_56 (tgt := 64) rfl (by omega) (fun h56 => by exfalso; first | omega | contradiction | simp_all) (fun h56 => ?_)
  refine Z.bipush B dX12_high_59 (v := nI 6) rfl ?_
  refine Z.goto B dX12_high_61 (tgt := 66) rfl ?_
  refine Z.iret B Rt dX12_high_66 (ty := .int) rfl rfl (by decide) (by decide) ?_
  exact ⟨rfl, rfl⟩

theorem t_X12_high_2_1 {σ : zSt} {ac : Nat} (hl : Lay σ) (hac : zX σ 45 1 = nI ac) : Dt mX12_high [.ref 45, .int (nI 2), .int (nI 1)] σ (some (.int (mx ac 2 1))) σ := by
  refine Dt.of (by decide) (Nat.le_of_ble_eq_true rfl) fun κ B Rt => ?_
  show Z κ 0 0 σ 0 [(0, .ref 45), (1, .int (nI 2)), (2, .int (nI 1))] []
  refine Z.iload_n B dX12_high_0 (x := nI 2) rfl ?_
  refine Z.tabIn B dX12_high_1 (by decide) (by decide) (off := 54) (by decide) (tgt := 55) rfl ?_
  refine Z.iload_n B dX12_high_55 (x := nI 1) rfl ?_
  refine Z.if_neN B dX12_high_56 (tgt := 64) rfl (by omega) (fun h56 => ?_) (fun h56 => by exfalso; first | omega | contradiction | simp_all)
  refine Z.bipush B dX12_high_64 (v := nI 99) rfl ?_
  refine Z.iret B Rt dX12_high_66 (ty := .int) rfl rfl (by decide) (by decide) ?_
  exact ⟨rfl, rfl⟩

theorem t_X12_high_3_0 {σ : zSt} {ac : Nat} (hl : Lay σ) (hac : zX σ 45 1 = nI ac) : Dt mX12_high [.ref 45, .int (nI 3), .int (nI 0)] σ (some (.int (mx ac 3 0))) σ := by
  refine Dt.of (by decide) (Nat.le_of_ble_eq_true rfl) fun κ B Rt => ?_
  show Z κ 0 0 σ 0 [(0, .ref 45), (1, .int (nI 3)), (2, .int (nI 0))] []
  refine Z.iload_n B dX12_high_0 (x := nI 3) rfl ?_
  refine Z.tabOut B dX12_high_1 (by decide) (tgt := 67) rfl ?_
  refine Z.aload_n B dX12_high_67 (v := .ref 45) rfl rfl ?_
  refine Z.getI (σ := σ) B fX12_84_12 dX12_high_68 (hl.n (k := 45) (by decide)) (hl.k (k := 45) (by decide)) (by decide) (v := nI ac) hac ?_
  refine Z.iconst B dX12_high_71 (v := nI 1) rfl ?_
  refine Z.isub B dX12_high_72 ?_
  refine Z.iret B Rt dX12_high_73 (ty := .int) rfl rfl (by decide) (by decide) ?_
  exact ⟨rfl, rfl⟩

theorem t_X12_high {σ : zSt} {ac w i : Nat} (hl : Lay σ) (hac : zX σ 45 1 = nI ac) (hw : w < 4) (hi : i < wc w) : Dt mX12_high [.ref 45, .int (nI w), .int (nI i)] σ (some (.int (mx ac w i))) σ := by
  have : w = 0 ∨ w = 1 ∨ w = 2 ∨ w = 3 := by omega
  rcases this with rfl | rfl | rfl | rfl
  · have hi : i < 6 := hi
    have : i = 0 ∨ i = 1 ∨ i = 2 ∨ i = 3 ∨ i = 4 ∨ i = 5 := by omega
    rcases this with rfl | rfl | rfl | rfl | rfl | rfl
    · exact t_X12_high_0_0 hl hac
    · exact t_X12_high_0_1 hl hac
    · exact t_X12_high_0_2 hl hac
    · exact t_X12_high_0_3 hl hac
    · exact t_X12_high_0_4 hl hac
    · exact t_X12_high_0_5 hl hac
  · have hi : i < 3 := hi
    have : i = 0 ∨ i = 1 ∨ i = 2 := by omega
    rcases this with rfl | rfl | rfl
    · exact t_X12_high_1_0 hl hac
    · exact t_X12_high_1_1 hl hac
    · exact t_X12_high_1_2 hl hac
  · have hi : i < 2 := hi
    have : i = 0 ∨ i = 1 := by omega
    rcases this with rfl | rfl
    · exact t_X12_high_2_0 hl hac
    · exact t_X12_high_2_1 hl hac
  · have hi : i < 1 := hi
    obtain rfl : i = 0 := by omega
    exact t_X12_high_3_0 hl hac
theorem t_X12_isFull_0_1 {σ : zSt} (hl : Lay σ) {n ac y : Nat} (hn : zX σ 45 0 = nI n) (hn8 : n ≤ 8) (hac : zX σ 45 1 = nI ac) (hac4 : ac ≤ 4) (hy : zX σ 45 2 = nI y) (hy8 : y ≤ 8) (hr : n = 8) : Dt mX12_isFull [.ref 45, .int (nI 0)] σ (some (.int (nI 1))) σ := by
  refine Dt.of (by decide) (Nat.le_of_ble_eq_true rfl) fun κ B Rt => ?_
  show Z κ 0 0 σ 0 [(0, .ref 45), (1, .int (nI 0))] []
  refine Z.iload_n B dX12_isFull_0 (x := nI 0) rfl ?_
  refine Z.if_neN B dX12_isFull_1 (tgt := 13) rfl (by omega) (fun h1 => by exfalso; first | omega | contradiction | simp_all) (fun h1 => ?_)
  refine Z.aload_n B dX12_isFull_4 (v := .ref 45) rfl rfl ?_
  refine Z.getI (σ := σ) B fX12_81_12 dX12_isFull_5 (hl.n (k := 45) (by decide)) (hl.k (k := 45) (by decide)) (by decide) (v := nI n) hn ?_
  refine Z.bipush B dX12_isFull_8 (v := nI 8) rfl ?_
  refine Z.icmp_eqN B dX12_isFull_10 (tgt := 40) rfl (by omega) (by omega) (fun h10 => ?_) (fun h10 => by exfalso; first | omega | contradiction | simp_all)
  refine Z.iconst B dX12_isFull_40 (v := nI 1) rfl ?_
  refine Z.goto B dX12_isFull_41 (tgt := 45) rfl ?_
  refine Z.iret B Rt dX12_isFull_45 (ty := .boolean) rfl rfl (by decide) (by decide) ?_
  exact ⟨rfl, rfl⟩

theorem t_X12_isFull_0_0 {σ : zSt} (hl : Lay σ) {n ac y : Nat} (hn : zX σ 45 0 = nI n) (hn8 : n ≤ 8) (hac : zX σ 45 1 = nI ac) (hac4 : ac ≤ 4) (hy : zX σ 45 2 = nI y) (hy8 : y ≤ 8) (hr : n < 8) : Dt mX12_isFull [.ref 45, .int (nI 0)] σ (some (.int (nI 0))) σ := by
  refine Dt.of (by decide) (Nat.le_of_ble_eq_true rfl) fun κ B Rt => ?_
  show Z κ 0 0 σ 0 [(0, .ref 45), (1, .int (nI 0))] []
  refine Z.iload_n B dX12_isFull_0 (x := nI 0) rfl ?_
  refine Z.if_neN B dX12_isFull_1 (tgt := 13) rfl (by omega) (fun h1 => by exfalso; first | omega | contradiction | simp_all) (fun h1 => ?_)
  refine Z.aload_n B dX12_isFull_4 (v := .ref 45) rfl rfl ?_
  refine Z.getI (σ := σ) B fX12_81_12 dX12_isFull_5 (hl.n (k := 45) (by decide)) (hl.k (k := 45) (by decide)) (by decide) (v := nI n) hn ?_
  refine Z.bipush B dX12_isFull_8 (v := nI 8) rfl ?_
  refine Z.icmp_eqN B dX12_isFull_10 (tgt := 40) rfl (by omega) (by omega) (fun h10 => by exfalso; first | omega | contradiction | simp_all) (fun h10 => ?_)
  refine Z.iload_n B dX12_isFull_13 (x := nI 0) rfl ?_
  refine Z.iconst B dX12_isFull_14 (v := nI 1) rfl ?_
  refine Z.icmp_neN B dX12_isFull_15 (tgt := 26) rfl (by omega) (by omega) (fun h15 => ?_) (fun h15 => by exfalso; first | omega | contradiction | simp_all)
  refine Z.iload_n B dX12_isFull_26 (x := nI 0) rfl ?_
  refine Z.iconst B dX12_isFull_27 (v := nI 2) rfl ?_
  refine Z.icmp_neN B dX12_isFull_28 (tgt := 44) rfl (by omega) (by omega) (fun h28 => ?_) (fun h28 => by exfalso; first | omega | contradiction | simp_all)
  refine Z.iconst B dX12_isFull_44 (v := nI 0) rfl ?_
  refine Z.iret B Rt dX12_isFull_45 (ty := .boolean) rfl rfl (by decide) (by decide) ?_
  exact ⟨rfl, rfl⟩

theorem t_X12_isFull_1_1 {σ : zSt} (hl : Lay σ) {n ac y : Nat} (hn : zX σ 45 0 = nI n) (hn8 : n ≤ 8) (hac : zX σ 45 1 = nI ac) (hac4 : ac ≤ 4) (hy : zX σ 45 2 = nI y) (hy8 : y ≤ 8) (hr : ac = 4) : Dt mX12_isFull [.ref 45, .int (nI 1)] σ (some (.int (nI 1))) σ := by
  refine Dt.of (by decide) (Nat.le_of_ble_eq_true rfl) fun κ B Rt => ?_
  show Z κ 0 0 σ 0 [(0, .ref 45), (1, .int (nI 1))] []
  refine Z.iload_n B dX12_isFull_0 (x := nI 1) rfl ?_
  refine Z.if_neN B dX12_isFull_1 (tgt := 13) rfl (by omega) (fun h1 => ?_) (fun h1 => by exfalso; first | omega | contradiction | simp_all)
  refine Z.iload_n B dX12_isFull_13 (x := nI 1) rfl ?_
  refine Z.iconst B dX12_isFull_14 (v := nI 1) rfl ?_
  refine Z.icmp_neN B dX12_isFull_15 (tgt := 26) rfl (by omega) (by omega) (fun h15 => by exfalso; first | omega | contradiction | simp_all) (fun h15 => ?_)
  refine Z.aload_n B dX12_isFull_18 (v := .ref 45) rfl rfl ?_
  refine Z.getI (σ := σ) B fX12_84_12 dX12_isFull_19 (hl.n (k := 45) (by decide)) (hl.k (k := 45) (by decide)) (by decide) (v := nI ac) hac ?_
  refine Z.iconst B dX12_isFull_22 (v := nI 4) rfl ?_
  refine Z.icmp_eqN B dX12_isFull_23 (tgt := 40) rfl (by omega) (by omega) (fun h23 => ?_) (fun h23 => by exfalso; first | omega | contradiction | simp_all)
  refine Z.iconst B dX12_isFull_40 (v := nI 1) rfl ?_
  refine Z.goto B dX12_isFull_41 (tgt := 45) rfl ?_
  refine Z.iret B Rt dX12_isFull_45 (ty := .boolean) rfl rfl (by decide) (by decide) ?_
  exact ⟨rfl, rfl⟩

theorem t_X12_isFull_1_0 {σ : zSt} (hl : Lay σ) {n ac y : Nat} (hn : zX σ 45 0 = nI n) (hn8 : n ≤ 8) (hac : zX σ 45 1 = nI ac) (hac4 : ac ≤ 4) (hy : zX σ 45 2 = nI y) (hy8 : y ≤ 8) (hr : ac < 4) : Dt mX12_isFull [.ref 45, .int (nI 1)] σ (some (.int (nI 0))) σ := by
  refine Dt.of (by decide) (Nat.le_of_ble_eq_true rfl) fun κ B Rt => ?_
  show Z κ 0 0 σ 0 [(0, .ref 45), (1, .int (nI 1))] []
  refine Z.iload_n B dX12_isFull_0 (x := nI 1) rfl ?_
  refine Z.if_neN B dX12_isFull_1 (tgt := 13) rfl (by omega) (fun h1 => ?_) (fun h1 => by exfalso; first | omega | contradiction | simp_all)
  refine Z.iload_n B dX12_isFull_13 (x := nI 1) rfl ?_
  refine Z.iconst B dX12_isFull_14 (v := nI 1) rfl ?_
  refine Z.icmp_neN B dX12_isFull_15 (tgt := 26) rfl (by omega) (by omega) (fun h15 => by exfalso; first | omega | contradiction | simp_all) (fun h15 => ?_)
  refine Z.aload_n B dX12_isFull_18 (v := .ref 45) rfl rfl ?_
  refine Z.getI (σ := σ) B fX12_84_12 dX12_isFull_19 (hl.n (k := 45) (by decide)) (hl.k (k := 45) (by decide)) (by decide) (v := nI ac) hac ?_
  refine Z.iconst B dX12_isFull_22 (v := nI 4) rfl ?_
  refine Z.icmp_eqN B dX12_isFull_23 (tgt := 40) rfl (by omega) (by omega) (fun h23 => by exfalso; first | omega | contradiction | simp_all) (fun h23 => ?_)
  refine Z.iload_n B dX12_isFull_26 (x := nI 1) rfl ?_
  refine Z.iconst B dX12_isFull_27 (v := nI 2) rfl ?_
  refine Z.icmp_neN B dX12_isFull_28 (tgt := 44) rfl (by omega) (by omega) (fun h28 => ?_) (fun h28 => by exfalso; first | omega | contradiction | simp_all)
  refine Z.iconst B dX12_isFull_44 (v := nI 0) rfl ?_
  refine Z.iret B Rt dX12_isFull_45 (ty := .boolean) rfl rfl (by decide) (by decide) ?_
  exact ⟨rfl, rfl⟩

theorem t_X12_isFull_2_1 {σ : zSt} (hl : Lay σ) {n ac y : Nat} (hn : zX σ 45 0 = nI n) (hn8 : n ≤ 8) (hac : zX σ 45 1 = nI ac) (hac4 : ac ≤ 4) (hy : zX σ 45 2 = nI y) (hy8 : y ≤ 8) (hr : y = 8) : Dt mX12_isFull [.ref 45, .int (nI 2)] σ (some (.int (nI 1))) σ := by
  refine Dt.of (by decide) (Nat.le_of_ble_eq_true rfl) fun κ B Rt => ?_
  show Z κ 0 0 σ 0 [(0, .ref 45), (1, .int (nI 2))] []
  refine Z.iload_n B dX12_isFull_0 (x := nI 2) rfl ?_
  refine Z.if_neN B dX12_isFull_1 (tgt := 13) rfl (by omega) (fun h1 => ?_) (fun h1 => by exfalso; first | omega | contradiction | simp_all)
  refine Z.iload_n B dX12_isFull_13 (x := nI 2) rfl ?_
  refine Z.iconst B dX12_isFull_14 (v := nI 1) rfl ?_
  refine Z.icmp_neN B dX12_isFull_15 (tgt := 26) rfl (by omega) (by omega) (fun h15 => ?_) (fun h15 => by exfalso; first | omega | contradiction | simp_all)
  refine Z.iload_n B dX12_isFull_26 (x := nI 2) rfl ?_
  refine Z.iconst B dX12_isFull_27 (v := nI 2) rfl ?_
  refine Z.icmp_neN B dX12_isFull_28 (tgt := 44) rfl (by omega) (by omega) (fun h28 => by exfalso; first | omega | contradiction | simp_all) (fun h28 => ?_)
  refine Z.aload_n B dX12_isFull_31 (v := .ref 45) rfl rfl ?_
  refine Z.getI (σ := σ) B fX12_87_12 dX12_isFull_32 (hl.n (k := 45) (by decide)) (hl.k (k := 45) (by decide)) (by decide) (v := nI y) hy ?_
  refine Z.bipush B dX12_isFull_35 (v := nI 8) rfl ?_
  refine Z.icmp_neN B dX12_isFull_37 (tgt := 44) rfl (by omega) (by omega) (fun h37 => by exfalso; first | omega | contradiction | simp_all) (fun h37 => ?_)
  refine Z.iconst B dX12_isFull_40 (v := nI 1) rfl ?_
  refine Z.goto B dX12_isFull_41 (tgt := 45) rfl ?_
  refine Z.iret B Rt dX12_isFull_45 (ty := .boolean) rfl rfl (by decide) (by decide) ?_
  exact ⟨rfl, rfl⟩

theorem t_X12_isFull_2_0 {σ : zSt} (hl : Lay σ) {n ac y : Nat} (hn : zX σ 45 0 = nI n) (hn8 : n ≤ 8) (hac : zX σ 45 1 = nI ac) (hac4 : ac ≤ 4) (hy : zX σ 45 2 = nI y) (hy8 : y ≤ 8) (hr : y < 8) : Dt mX12_isFull [.ref 45, .int (nI 2)] σ (some (.int (nI 0))) σ := by
  refine Dt.of (by decide) (Nat.le_of_ble_eq_true rfl) fun κ B Rt => ?_
  show Z κ 0 0 σ 0 [(0, .ref 45), (1, .int (nI 2))] []
  refine Z.iload_n B dX12_isFull_0 (x := nI 2) rfl ?_
  refine Z.if_neN B dX12_isFull_1 (tgt := 13) rfl (by omega) (fun h1 => ?_) (fun h1 => by exfalso; first | omega | contradiction | simp_all)
  refine Z.iload_n B dX12_isFull_13 (x := nI 2) rfl ?_
  refine Z.iconst B dX12_isFull_14 (v := nI 1) rfl ?_
  refine Z.icmp_neN B dX12_isFull_15 (tgt := 26) rfl (by omega) (by omega) (fun h15 => ?_) (fun h15 => by exfalso; first | omega | contradiction | simp_all)
  refine Z.iload_n B dX12_isFull_26 (x := nI 2) rfl ?_
  refine Z.iconst B dX12_isFull_27 (v := nI 2) rfl ?_
  refine Z.icmp_neN B dX12_isFull_28 (tgt := 44) rfl (by omega) (by omega) (fun h28 => by exfalso; first | omega | contradiction | simp_all) (fun h28 => ?_)
  refine Z.aload_n B dX12_isFull_31 (v := .ref 45) rfl rfl ?_
  refine Z.getI (σ := σ) B fX12_87_12 dX12_isFull_32 (hl.n (k := 45) (by decide)) (hl.k (k := 45) (by decide)) (by decide) (v := nI y) hy ?_
  refine Z.bipush B dX12_isFull_35 (v := nI 8) rfl ?_
  refine Z.icmp_neN B dX12_isFull_37 (tgt := 44) rfl (by omega) (by omega) (fun h37 => ?_) (fun h37 => by exfalso; first | omega | contradiction | simp_all)
  refine Z.iconst B dX12_isFull_44 (v := nI 0) rfl ?_
  refine Z.iret B Rt dX12_isFull_45 (ty := .boolean) rfl rfl (by decide) (by decide) ?_
  exact ⟨rfl, rfl⟩

theorem t_X12_isFull_3_0 {σ : zSt} (hl : Lay σ) {n ac y : Nat} (hn : zX σ 45 0 = nI n) (hn8 : n ≤ 8) (hac : zX σ 45 1 = nI ac) (hac4 : ac ≤ 4) (hy : zX σ 45 2 = nI y) (hy8 : y ≤ 8)  : Dt mX12_isFull [.ref 45, .int (nI 3)] σ (some (.int (nI 0))) σ := by
  refine Dt.of (by decide) (Nat.le_of_ble_eq_true rfl) fun κ B Rt => ?_
  show Z κ 0 0 σ 0 [(0, .ref 45), (1, .int (nI 3))] []
  refine Z.iload_n B dX12_isFull_0 (x := nI 3) rfl ?_
  refine Z.if_neN B dX12_isFull_1 (tgt := 13) rfl (by omega) (fun h1 => ?_) (fun h1 => by exfalso; first | omega | contradiction | simp_all)
  refine Z.iload_n B dX12_isFull_13 (x := nI 3) rfl ?_
  refine Z.iconst B dX12_isFull_14 (v := nI 1) rfl ?_
  refine Z.icmp_neN B dX12_isFull_15 (tgt := 26) rfl (by omega) (by omega) (fun h15 => ?_) (fun h15 => by exfalso; first | omega | contradiction | simp_all)
  refine Z.iload_n B dX12_isFull_26 (x := nI 3) rfl ?_
  refine Z.iconst B dX12_isFull_27 (v := nI 2) rfl ?_
  refine Z.icmp_neN B dX12_isFull_28 (tgt := 44) rfl (by omega) (by omega) (fun h28 => ?_) (fun h28 => by exfalso; first | omega | contradiction | simp_all)
  refine Z.iconst B dX12_isFull_44 (v := nI 0) rfl ?_
  refine Z.iret B Rt dX12_isFull_45 (ty := .boolean) rfl rfl (by decide) (by decide) ?_
  exact ⟨rfl, rfl⟩
