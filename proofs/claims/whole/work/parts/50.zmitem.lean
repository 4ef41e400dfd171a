/-! houses read: an item, the model -/
theorem am_n {T : Nat → Int32} {a v w : Nat} (hv : v < 4) (hw : w < 4) (h : al T a v = wl v) (hne : w ≠ v) : ¬ amW T a w = wl w + 1 := by
  intro h1
  have h2 := ((am_al hw).1.mp h1).1
  have h3 := al_other hv hw h hne
  rw [h2] at h3
  have : w = 0 ∨ w = 1 ∨ w = 2 ∨ w = 3 := by omega
  rcases this with rfl | rfl | rfl | rfl <;> exact absurd h3 (by decide)
theorem am_y {T : Nat → Int32} {a v : Nat} (hv : v < 4) (h : al T a v = wl v) (hs : T (a + wl v) = nI 32) : amW T a v = wl v + 1 := (am_al hv).1.mpr ⟨h, hs⟩
theorem am_z {T : Nat → Int32} {a v : Nat} (hv : v < 4) (hs : ¬ T (a + wl v) = nI 32) : ¬ amW T a v = wl v + 1 := fun h => hs ((am_al hv).1.mp h).2
theorem am_4 {T : Nat → Int32} {a v : Nat} (hv : v < 4) (h : ¬ al T a v = wl v) : ¬ amW T a v = wl v + 1 := fun e => h ((am_al hv).1.mp e).1
section
variable {σ : zSt} {t w : Int32} {r : Nat → Int32} {s m a : Nat} {T : Nat → Int32}
theorem wdM_0 (hl : Lay σ) (ht : zTm σ s m T) (ha : a < 2 ^ 30) (hw : wd T a = 0) (hs : T (a + 5) = nI 32) : Dt mX12_word [.ref 45] (mS σ a t w r) (some (.int (nI 0))) (mS σ (a + 5 + 1) t w r) := by
  obtain ⟨h1, h2⟩ := wd_al (by decide) hw
  have e := am_y (by decide) h1 hs
  have key := t_X12_word_0 (t := t) (w := w) (r := r) hl ht ha e
  rw [e] at key
  exact key
theorem wdM_1 (hl : Lay σ) (ht : zTm σ s m T) (ha : a < 2 ^ 30) (hw : wd T a = 1) (hs : T (a + 5) = nI 32) : Dt mX12_word [.ref 45] (mS σ a t w r) (some (.int (nI 1))) (mS σ (a + 5 + 1) t w r) := by
  obtain ⟨h1, h2⟩ := wd_al (by decide) hw
  have e := am_y (by decide) h1 hs
  have key := t_X12_word_1 (t := t) (w := w) (r := r) hl ht ha (am_n (by decide) (by decide) h1 (by decide)) e
  rw [e] at key
  exact key
theorem wdM_2 (hl : Lay σ) (ht : zTm σ s m T) (ha : a < 2 ^ 30) (hw : wd T a = 2) (hs : T (a + 3) = nI 32) : Dt mX12_word [.ref 45] (mS σ a t w r) (some (.int (nI 2))) (mS σ (a + 3 + 1) t w r) := by
  obtain ⟨h1, h2⟩ := wd_al (by decide) hw
  have e := am_y (by decide) h1 hs
  have key := t_X12_word_2 (t := t) (w := w) (r := r) hl ht ha (am_n (by decide) (by decide) h1 (by decide)) (am_n (by decide) (by decide) h1 (by decide)) e
  rw [e] at key
  exact key
theorem wdM_3 (hl : Lay σ) (ht : zTm σ s m T) (ha : a < 2 ^ 30) (hw : wd T a = 3) (hs : T (a + 5) = nI 32) : Dt mX12_word [.ref 45] (mS σ a t w r) (some (.int (nI 3))) (mS σ (a + 5 + 1) t w r) := by
  obtain ⟨h1, h2⟩ := wd_al (by decide) hw
  have e := am_y (by decide) h1 hs
  have key := t_X12_word_3 (t := t) (w := w) (r := r) hl ht ha (am_n (by decide) (by decide) h1 (by decide)) (am_n (by decide) (by decide) h1 (by decide)) (am_n (by decide) (by decide) h1 (by decide)) e
  rw [e] at key
  exact key
theorem wdM_4 (hl : Lay σ) (ht : zTm σ s m T) (ha : a < 2 ^ 30) (hw : wd T a = 4) : Dt mX12_word [.ref 45] (mS σ a t w r) (some (.int (-1))) (mS σ a t (nI (a + far T a)) r) := by
  obtain ⟨h0, h1, h2, h3⟩ := wd_al4 hw
  exact t_X12_word_n hl ht ha (am_4 (by decide) h0) (am_4 (by decide) h1) (am_4 (by decide) h2) (am_4 (by decide) h3)
theorem wdM_s {v : Nat} (hl : Lay σ) (ht : zTm σ s m T) (ha : a < 2 ^ 30) (hv : v < 4) (hw : wd T a = v) (hs : ¬ T (a + wl v) = nI 32) : Dt mX12_word [.ref 45] (mS σ a t w r) (some (.int (-1))) (mS σ a t (nI (a + wl v)) r) := by
  obtain ⟨h1, h2⟩ := wd_al hv hw
  have key : ∀ w, w < 4 → ¬ amW T a w = wl w + 1 := by
    intro w hw4
    by_cases e : w = v
    · subst e; exact am_z hv hs
    · exact am_n hv hw4 h1 e
  have k := t_X12_word_n (t := t) (w := w) (r := r) hl ht ha (key 0 (by decide)) (key 1 (by decide)) (key 2 (by decide)) (key 3 (by decide))
  rw [far_al hv hw] at k
  exact k
end
def atK (T : Nat → Int32) (p : Nat) : Nat → Nat
  | 0 => p + 1
  | k + 1 => ps T p (k + 1)
def tK (t : Int32) (T : Nat → Int32) (p : Nat) : Nat → Int32
  | 0 => t
  | k + 1 => vs T p k
theorem atK_0 {T : Nat → Int32} {p k : Nat} (h : k = 0) : atK T p k = ps T p k + 1 := by
  subst h
  rfl
theorem atK_s {T : Nat → Int32} {p k : Nat} (h : 0 < k) : atK T p k = ps T p k := by
  obtain ⟨j, rfl⟩ : ∃ j, k = j + 1 := ⟨k - 1, by omega⟩
  rfl
theorem ps_ok {T : Nat → Int32} {p k : Nat} {mo : Int32} (h : nok T (ps T p k) mo) : ps T p (k + 1) = nl T (ps T p k + 1) := by
  show nat_ T (ps T p k) = _
  unfold nat_
  rw [if_pos h.1, if_pos h.2.1]
theorem zMd.mS {σ : zSt} {n ac y a : Nat} {t w : Int32} {r : Nat → Int32} (h : zMd σ n ac y) : zMd (mS σ a t w r) n ac y := h
theorem in_m {σ : zSt} {s m i c : Nat} {T : Nat → Int32} (h : zTm σ s m T) (hc : T i = nI (c + 1)) (hc2 : c + 1 < 2 ^ 31) : i < m := by
  rcases Nat.lt_or_ge i m with h1 | h1
  · exact h1
  · exfalso
    rw [h.z h1] at hc
    have := (nI_eq (by decide) hc2).mp hc
    omega

theorem it_M_a {σ : zSt} {t w : Int32} {r : Nat → Int32} (hl : Lay σ) {s m : Nat} {T : Nat → Int32} (ht : zTm σ s m T) {a : Nat} (ha : a < 2 ^ 29) {n ac y : Nat} (H : zMd σ n ac y) (hw : wd T a = 4) : Dt mX12_item [.ref 45] (mS σ a t w r) (some (.int (nI 0))) (mS σ a t (nI (a + far T a)) r) := by
  obtain ⟨⟨hs8, hm160⟩, ⟨hbs, hen⟩, hT, hwd⟩ := id ht
  obtain ⟨-, hn, hn8, hac, hac4, hy, hy8⟩ := id H
  have hwa := wd_al4 hw
  refine Dt.of (by decide) (Nat.le_of_ble_eq_true rfl) fun κ B Rt => ?_
  show Z κ 0 0 (mS σ a t w r) 0 [(0, .ref 45)] []
  refine Z.iconst B dX12_item_0 (v := nI 0) rfl ?_
  refine Z.istore_n B dX12_item_1 (by decide) (L' := [(0, .ref 45), (1, .int (nI 0))]) rfl ?_
  refine Z.iload_n B dX12_item_2 (x := nI 0) rfl ?_
  refine Z.iconst B dX12_item_3 (v := nI 4) rfl ?_
  refine Z.icmp_geN B dX12_item_4 (tgt := 38) rfl (by omega) (by omega) (fun h4 => by exfalso; first | omega | contradiction | simp_all) (fun h4 => ?_)
  refine Z.aload_n B dX12_item_7 (v := .ref 45) rfl rfl ?_
  refine Z.iload_n B dX12_item_8 (x := nI 0) rfl ?_
  refine Z.callVI (σ := (mS σ a t w r)) B (M' := mX12_isWordAt) (as := [.int (nI 0)]) (st := []) (v := .int (nI 0)) dX12_item_9 wX12_isWordAt iX12_isWordAt sX12_isWordAt kX12_160 (hl.n (k := 45) (by decide)) (hl.k (k := 45) (by decide)) (by decide) rfl rfl (t_X12_isW_0_0 (σ := σ) (t := t) (w := w) (r := r) hl ht (by omega) hwa.1) rfl rfl (by decide) (by decide) (Nat.le_of_ble_eq_true rfl) (by decide) (by decide) ?_
  refine Z.if_eqN B dX12_item_12 (tgt := 32) rfl (by omega) (fun h12 => ?_) (fun h12 => by exfalso; first | omega | contradiction | simp_all)
  refine Z.iinc B dX12_item_32 (by decide) (x := nI 0) rfl (v := nI 1) (nI_inc 0) (L' := [(0, .ref 45), (1, .int (nI 1))]) rfl ?_
  refine Z.goto B dX12_item_35 (tgt := 2) rfl ?_
  refine Z.iload_n B dX12_item_2 (x := nI 1) rfl ?_
  refine Z.iconst B dX12_item_3 (v := nI 4) rfl ?_
  refine Z.icmp_geN B dX12_item_4 (tgt := 38) rfl (by omega) (by omega) (fun h4 => by exfalso; first | omega | contradiction | simp_all) (fun h4 => ?_)
  refine Z.aload_n B dX12_item_7 (v := .ref 45) rfl rfl ?_
  refine Z.iload_n B dX12_item_8 (x := nI 1) rfl ?_
  refine Z.callVI (σ := (mS σ a t w r)) B (M' := mX12_isWordAt) (as := [.int (nI 1)]) (st := []) (v := .int (nI 0)) dX12_item_9 wX12_isWordAt iX12_isWordAt sX12_isWordAt kX12_160 (hl.n (k := 45) (by decide)) (hl.k (k := 45) (by decide)) (by decide) rfl rfl (t_X12_isW_1_0 (σ := σ) (t := t) (w := w) (r := r) hl ht (by omega) hwa.2.1) rfl rfl (by decide) (by decide) (Nat.le_of_ble_eq_true rfl) (by decide) (by decide) ?_
  refine Z.if_eqN B dX12_item_12 (tgt := 32) rfl (by omega) (fun h12 => ?_) (fun h12 => by exfalso; first | omega | contradiction | simp_all)
  refine Z.iinc B dX12_item_32 (by decide) (x := nI 1) rfl (v := nI 2) (nI_inc 1) (L' := [(0, .ref 45), (1, .int (nI 2))]) rfl ?_
  refine Z.goto B dX12_item_35 (tgt := 2) rfl ?_
  refine Z.iload_n B dX12_item_2 (x := nI 2) rfl ?_
  refine Z.iconst B dX12_item_3 (v := nI 4) rfl ?_
  refine Z.icmp_geN B dX12_item_4 (tgt := 38) rfl (by omega) (by omega) (fun h4 => by exfalso; first | omega | contradiction | simp_all) (fun h4 => ?_)
  refine Z.aload_n B dX12_item_7 (v := .ref 45) rfl rfl ?_
  refine Z.iload_n B dX12_item_8 (x := nI 2) rfl ?_
  refine Z.callVI (σ := (mS σ a t w r)) B (M' := mX12_isWordAt) (as := [.int (nI 2)]) (st := []) (v := .int (nI 0)) dX12_item_9 wX12_isWordAt iX12_isWordAt sX12_isWordAt kX12_160 (hl.n (k := 45) (by decide)) (hl.k (k := 45) (by decide)) (by decide) rfl rfl (t_X12_isW_2_0 (σ := σ) (t := t) (w := w) (r := r) hl ht (by omega) hwa.2.2.1) rfl rfl (by decide) (by decide) (Nat.le_of_ble_eq_true rfl) (by decide) (by decide) ?_
  refine Z.if_eqN B dX12_item_12 (tgt := 32) rfl (by omega) (fun h12 => ?_) (fun h12 => by exfalso; first | omega | contradiction | simp_all)
  refine Z.iinc B dX12_item_32 (by decide) (x := nI 2) rfl (v := nI 3) (nI_inc 2) (L' := [(0, .ref 45), (1, .int (nI 3))]) rfl ?_
  refine Z.goto B dX12_item_35 (tgt := 2) rfl ?_
  refine Z.iload_n B dX12_item_2 (x := nI 3) rfl ?_
  refine Z.iconst B dX12_item_3 (v := nI 4) rfl ?_
  refine Z.icmp_geN B dX12_item_4 (tgt := 38) rfl (by omega) (by omega) (fun h4 => by exfalso; first | omega | contradiction | simp_all) (fun h4 => ?_)
  refine Z.aload_n B dX12_item_7 (v := .ref 45) rfl rfl ?_
  refine Z.iload_n B dX12_item_8 (x := nI 3) rfl ?_
  refine Z.callVI (σ := (mS σ a t w r)) B (M' := mX12_isWordAt) (as := [.int (nI 3)]) (st := []) (v := .int (nI 0)) dX12_item_9 wX12_isWordAt iX12_isWordAt sX12_isWordAt kX12_160 (hl.n (k := 45) (by decide)) (hl.k (k := 45) (by decide)) (by decide) rfl rfl (t_X12_isW_3_0 (σ := σ) (t := t) (w := w) (r := r) hl ht (by omega) hwa.2.2.2) rfl rfl (by decide) (by decide) (Nat.le_of_ble_eq_true rfl) (by decide) (by decide) ?_
  refine Z.if_eqN B dX12_item_12 (tgt := 32) rfl (by omega) (fun h12 => ?_) (fun h12 => by exfalso; first | omega | contradiction | simp_all)
  refine Z.iinc B dX12_item_32 (by decide) (x := nI 3) rfl (v := nI 4) (nI_inc 3) (L' := [(0, .ref 45), (1, .int (nI 4))]) rfl ?_
  refine Z.goto B dX12_item_35 (tgt := 2) rfl ?_
  refine Z.iload_n B dX12_item_2 (x := nI 4) rfl ?_
  refine Z.iconst B dX12_item_3 (v := nI 4) rfl ?_
  refine Z.icmp_geN B dX12_item_4 (tgt := 38) rfl (by omega) (by omega) (fun h4 => ?_) (fun h4 => by exfalso; first | omega | contradiction | simp_all)
  refine Z.aload_n B dX12_item_38 (v := .ref 45) rfl rfl ?_
  refine Z.getI (σ := (mS σ a t w r)) B fX12_141_12 dX12_item_39 (hl.n (k := 45) (by decide)) (hl.k (k := 45) (by decide)) (by decide) (v := nI a) mS_a ?_
  refine Z.istore_n B dX12_item_42 (by decide) (L' := [(0, .ref 45), (1, .int (nI a))]) rfl ?_
  refine Z.aload_n B dX12_item_43 (v := .ref 45) rfl rfl ?_
  refine Z.callVI (σ := (mS σ a t w r)) B (M' := mX12_word) (as := []) (st := []) (v := .int (-1)) dX12_item_44 wX12_word iX12_word sX12_word kX12_166 (hl.n (k := 45) (by decide)) (hl.k (k := 45) (by decide)) (by decide) rfl rfl (wdM_4 (σ := σ) (t := t) (w := w) (r := r) hl ht (by omega) hw) rfl rfl (by decide) (by decide) (Nat.le_of_ble_eq_true rfl) (by decide) (by decide) ?_
  refine Z.istore_n B dX12_item_47 (by decide) (L' := [(0, .ref 45), (1, .int (nI a)), (2, .int (-1))]) rfl ?_
  refine Z.iload_n B dX12_item_48 (x := (-1)) rfl ?_
  refine Z.iconst B dX12_item_49 (v := (-1)) rfl ?_
  refine Z.icmp_ne B dX12_item_50 (tgt := 55) rfl (fun h50 => absurd rfl h50) (fun h50 => ?_)
  refine Z.iconst B dX12_item_53 (v := nI 0) rfl ?_
  refine Z.iret B Rt dX12_item_54 (ty := .boolean) rfl rfl (by decide) (by decide) ?_
  exact ⟨rfl, rfl⟩

theorem it_M_b0 {σ : zSt} {t w : Int32} {r : Nat → Int32} (hl : Lay σ) {s m : Nat} {T : Nat → Int32} (ht : zTm σ s m T) {a : Nat} (ha : a < 2 ^ 29) {n ac y : Nat} (H : zMd σ n ac y) (hw : wd T a = 0) (hr : n = 8) : Dt mX12_item [.ref 45] (mS σ a t w r) (some (.int (nI 0))) (mS σ a t (nI a) r) := by
  obtain ⟨⟨hs8, hm160⟩, ⟨hbs, hen⟩, hT, hwd⟩ := id ht
  obtain ⟨-, hn, hn8, hac, hac4, hy, hy8⟩ := id H
  obtain ⟨hv, ho⟩ := wd_al (by decide) hw
  have hwl : wl 0 = 5 := rfl
  rw [hwl] at hv
  refine Dt.of (by decide) (Nat.le_of_ble_eq_true rfl) fun κ B Rt => ?_
  show Z κ 0 0 (mS σ a t w r) 0 [(0, .ref 45)] []
  refine Z.iconst B dX12_item_0 (v := nI 0) rfl ?_
  refine Z.istore_n B dX12_item_1 (by decide) (L' := [(0, .ref 45), (1, .int (nI 0))]) rfl ?_
  refine Z.iload_n B dX12_item_2 (x := nI 0) rfl ?_
  refine Z.iconst B dX12_item_3 (v := nI 4) rfl ?_
  refine Z.icmp_geN B dX12_item_4 (tgt := 38) rfl (by omega) (by omega) (fun h4 => by exfalso; first | omega | contradiction | simp_all) (fun h4 => ?_)
  refine Z.aload_n B dX12_item_7 (v := .ref 45) rfl rfl ?_
  refine Z.iload_n B dX12_item_8 (x := nI 0) rfl ?_
  refine Z.callVI (σ := (mS σ a t w r)) B (M' := mX12_isWordAt) (as := [.int (nI 0)]) (st := []) (v := .int (nI 1)) dX12_item_9 wX12_isWordAt iX12_isWordAt sX12_isWordAt kX12_160 (hl.n (k := 45) (by decide)) (hl.k (k := 45) (by decide)) (by decide) rfl rfl (t_X12_isW_0_1 (σ := σ) (t := t) (w := w) (r := r) hl ht (by omega) hv) rfl rfl (by decide) (by decide) (Nat.le_of_ble_eq_true rfl) (by decide) (by decide) ?_
  refine Z.if_eqN B dX12_item_12 (tgt := 32) rfl (by omega) (fun h12 => by exfalso; first | omega | contradiction | simp_all) (fun h12 => ?_)
  refine Z.aload_n B dX12_item_15 (v := .ref 45) rfl rfl ?_
  refine Z.iload_n B dX12_item_16 (x := nI 0) rfl ?_
  refine Z.callVI (σ := (mS σ a t w r)) B (M' := mX12_isFull) (as := [.int (nI 0)]) (st := []) (v := .int (nI 1)) dX12_item_17 wX12_isFull iX12_isFull sX12_isFull kX12_163 (hl.n (k := 45) (by decide)) (hl.k (k := 45) (by decide)) (by decide) rfl rfl (t_X12_isFull_0_1 (σ := mS σ a t w r) hl ((mS_f (by decide) (by decide) (by decide)).trans hn) hn8 ((mS_f (by decide) (by decide) (by decide)).trans hac) hac4 ((mS_f (by decide) (by decide) (by decide)).trans hy) hy8 hr) rfl rfl (by decide) (by decide) (Nat.le_of_ble_eq_true rfl) (by decide) (by decide) ?_
  refine Z.if_eqN B dX12_item_20 (tgt := 32) rfl (by omega) (fun h20 => by exfalso; first | omega | contradiction | simp_all) (fun h20 => ?_)
  refine Z.aload_n B dX12_item_23 (v := .ref 45) rfl rfl ?_
  refine Z.aload_n B dX12_item_24 (v := .ref 45) rfl rfl ?_
  refine Z.getI (σ := (mS σ a t w r)) B fX12_141_12 dX12_item_25 (hl.n (k := 45) (by decide)) (hl.k (k := 45) (by decide)) (by decide) (v := nI a) mS_a ?_
  refine Z.callVI (σ := (mS σ a t w r)) B (M' := mX12_wrong) (as := [.int (nI a)]) (st := []) (v := .int (nI 0)) dX12_item_28 wX12_wrong iX12_wrong sX12_wrong kX12_154 (hl.n (k := 45) (by decide)) (hl.k (k := 45) (by decide)) (by decide) rfl rfl (t_X12_wrong (σ := σ) (t := t) (w := w) (r := r) hl ht (a := a) (by omega) (p := nI a)) rfl rfl (by decide) (by decide) (Nat.le_of_ble_eq_true rfl) (by decide) (by decide) ?_
  refine Z.iret B Rt dX12_item_31 (ty := .boolean) rfl rfl (by decide) (by decide) ?_
  exact ⟨rfl, rfl⟩

theorem it_M_s0 {σ : zSt} {t w : Int32} {r : Nat → Int32} (hl : Lay σ) {s m : Nat} {T : Nat → Int32} (ht : zTm σ s m T) {a : Nat} (ha : a < 2 ^ 29) {n ac y : Nat} (H : zMd σ n ac y) (hw : wd T a = 0) (hr : n < 8) (hs : ¬ T (a + 5) = nI 32) : Dt mX12_item [.ref 45] (mS σ a t w r) (some (.int (nI 0))) (mS σ a t (nI (a + 5)) r) := by
  obtain ⟨⟨hs8, hm160⟩, ⟨hbs, hen⟩, hT, hwd⟩ := id ht
  obtain ⟨-, hn, hn8, hac, hac4, hy, hy8⟩ := id H
  obtain ⟨hv, ho⟩ := wd_al (by decide) hw
  have hwl : wl 0 = 5 := rfl
  rw [hwl] at hv
  refine Dt.of (by decide) (Nat.le_of_ble_eq_true rfl) fun κ B Rt => ?_
  show Z κ 0 0 (mS σ a t w r) 0 [(0, .ref 45)] []
  refine Z.iconst B dX12_item_0 (v := nI 0) rfl ?_
  refine Z.istore_n B dX12_item_1 (by decide) (L' := [(0, .ref 45), (1, .int (nI 0))]) rfl ?_
  refine Z.iload_n B dX12_item_2 (x := nI 0) rfl ?_
  refine Z.iconst B dX12_item_3 (v := nI 4) rfl ?_
  refine Z.icmp_geN B dX12_item_4 (tgt := 38) rfl (by omega) (by omega) (fun h4 => by exfalso; first | omega | contradiction | simp_all) (fun h4 => ?_)
  refine Z.aload_n B dX12_item_7 (v := .ref 45) rfl rfl ?_
  refine Z.iload_n B dX12_item_8 (x := nI 0) rfl ?_
  refine Z.callVI (σ := (mS σ a t w r)) B (M' := mX12_isWordAt) (as := [.int (nI 0)]) (st := []) (v := .int (nI 1)) dX12_item_9 wX12_isWordAt iX12_isWordAt sX12_isWordAt kX12_160 (hl.n (k := 45) (by decide)) (hl.k (k := 45) (by decide)) (by decide) rfl rfl (t_X12_isW_0_1 (σ := σ) (t := t) (w := w) (r := r) hl ht (by omega) hv) rfl rfl (by decide) (by decide) (Nat.le_of_ble_eq_true rfl) (by decide) (by decide) ?_
  refine Z.if_eqN B dX12_item_12 (tgt := 32) rfl (by omega) (fun h12 => by exfalso; first | omega | contradiction | simp_all) (fun h12 => ?_)
  refine Z.aload_n B dX12_item_15 (v := .ref 45) rfl rfl ?_
  refine Z.iload_n B dX12_item_16 (x := nI 0) rfl ?_
  refine Z.callVI (σ := (mS σ a t w r)) B (M' := mX12_isFull) (as := [.int (nI 0)]) (st := []) (v := .int (nI 0)) dX12_item_17 wX12_isFull iX12_isFull sX12_isFull kX12_163 (hl.n (k := 45) (by decide)) (hl.k (k := 45) (by decide)) (by decide) rfl rfl (t_X12_isFull_0_0 (σ := mS σ a t w r) hl ((mS_f (by decide) (by decide) (by decide)).trans hn) hn8 ((mS_f (by decide) (by decide) (by decide)).trans hac) hac4 ((mS_f (by decide) (by decide) (by decide)).trans hy) hy8 hr) rfl rfl (by decide) (by decide) (Nat.le_of_ble_eq_true rfl) (by decide) (by decide) ?_
  refine Z.if_eqN B dX12_item_20 (tgt := 32) rfl (by omega) (fun h20 => ?_) (fun h20 => by exfalso; first | omega | contradiction | simp_all)
  refine Z.iinc B dX12_item_32 (by decide) (x := nI 0) rfl (v := nI 1) (nI_inc 0) (L' := [(0, .ref 45), (1, .int (nI 1))]) rfl ?_
  refine Z.goto B dX12_item_35 (tgt := 2) rfl ?_
  refine Z.iload_n B dX12_item_2 (x := nI 1) rfl ?_
  refine Z.iconst B dX12_item_3 (v := nI 4) rfl ?_
  refine Z.icmp_geN B dX12_item_4 (tgt := 38) rfl (by omega) (by omega) (fun h4 => by exfalso; first | omega | contradiction | simp_all) (fun h4 => ?_)
  refine Z.aload_n B dX12_item_7 (v := .ref 45) rfl rfl ?_
  refine Z.iload_n B dX12_item_8 (x := nI 1) rfl ?_
  refine Z.callVI (σ := (mS σ a t w r)) B (M' := mX12_isWordAt) (as := [.int (nI 1)]) (st := []) (v := .int (nI 0)) dX12_item_9 wX12_isWordAt iX12_isWordAt sX12_isWordAt kX12_160 (hl.n (k := 45) (by decide)) (hl.k (k := 45) (by decide)) (by decide) rfl rfl (t_X12_isW_1_0 (σ := σ) (t := t) (w := w) (r := r) hl ht (by omega) (by have := ho 1 (by decide) (by decide); omega)) rfl rfl (by decide) (by decide) (Nat.le_of_ble_eq_true rfl) (by decide) (by decide) ?_
  refine Z.if_eqN B dX12_item_12 (tgt := 32) rfl (by omega) (fun h12 => ?_) (fun h12 => by exfalso; first | omega | contradiction | simp_all)
  refine Z.iinc B dX12_item_32 (by decide) (x := nI 1) rfl (v := nI 2) (nI_inc 1) (L' := [(0, .ref 45), (1, .int (nI 2))]) rfl ?_
  refine Z.goto B dX12_item_35 (tgt := 2) rfl ?_
  refine Z.iload_n B dX12_item_2 (x := nI 2) rfl ?_
  refine Z.iconst B dX12_item_3 (v := nI 4) rfl ?_
  refine Z.icmp_geN B dX12_item_4 (tgt := 38) rfl (by omega) (by omega) (fun h4 => by exfalso; first | omega | contradiction | simp_all) (fun h4 => ?_)
  refine Z.aload_n B dX12_item_7 (v := .ref 45) rfl rfl ?_
  refine Z.iload_n B dX12_item_8 (x := nI 2) rfl ?_
  refine Z.callVI (σ := (mS σ a t w r)) B (M' := mX12_isWordAt) (as := [.int (nI 2)]) (st := []) (v := .int (nI 0)) dX12_item_9 wX12_isWordAt iX12_isWordAt sX12_isWordAt kX12_160 (hl.n (k := 45) (by decide)) (hl.k (k := 45) (by decide)) (by decide) rfl rfl (t_X12_isW_2_0 (σ := σ) (t := t) (w := w) (r := r) hl ht (by omega) (by have := ho 2 (by decide) (by decide); omega)) rfl rfl (by decide) (by decide) (Nat.le_of_ble_eq_true rfl) (by decide) (by decide) ?_
  refine Z.if_eqN B dX12_item_12 (tgt := 32) rfl (by omega) (fun h12 => ?_) (fun h12 => by exfalso; first | omega | contradiction | simp_all)
  refine Z.iinc B dX12_item_32 (by decide) (x := nI 2) rfl (v := nI 3) (nI_inc 2) (L' := [(0, .ref 45), (1, .int (nI 3))]) rfl ?_
  refine Z.goto B dX12_item_35 (tgt := 2) rfl ?_
  refine Z.iload_n B dX12_item_2 (x := nI 3) rfl ?_
  refine Z.iconst B dX12_item_3 (v := nI 4) rfl ?_
  refine Z.icmp_geN B dX12_item_4 (tgt := 38) rfl (by omega) (by omega) (fun h4 => by exfalso; first | omega | contradiction | simp_all) (fun h4 => ?_)
  refine Z.aload_n B dX12_item_7 (v := .ref 45) rfl rfl ?_
  refine Z.iload_n B dX12_item_8 (x := nI 3) rfl ?_
  refine Z.callVI (σ := (mS σ a t w r)) B (M' := mX12_isWordAt) (as := [.int (nI 3)]) (st := []) (v := .int (nI 0)) dX12_item_9 wX12_isWordAt iX12_isWordAt sX12_isWordAt kX12_160 (hl.n (k := 45) (by decide)) (hl.k (k := 45) (by decide)) (by decide) rfl rfl (t_X12_isW_3_0 (σ := σ) (t := t) (w := w) (r := r) hl ht (by omega) (by have := ho 3 (by decide) (by decide); omega)) rfl rfl (by decide) (by decide) (Nat.le_of_ble_eq_true rfl) (by decide) (by decide) ?_
  refine Z.if_eqN B dX12_item_12 (tgt := 32) rfl (by omega) (fun h12 => ?_) (fun h12 => by exfalso; first | omega | contradiction | simp_all)
  refine Z.iinc B dX12_item_32 (by decide) (x := nI 3) rfl (v := nI 4) (nI_inc 3) (L' := [(0, .ref 45), (1, .int (nI 4))]) rfl ?_
  refine Z.goto B dX12_item_35 (tgt := 2) rfl ?_
  refine Z.iload_n B dX12_item_2 (x := nI 4) rfl ?_
  refine Z.iconst B dX12_item_3 (v := nI 4) rfl ?_
  refine Z.icmp_geN B dX12_item_4 (tgt := 38) rfl (by omega) (by omega) (fun h4 => ?_) (fun h4 => by exfalso; first | omega | contradiction | simp_all)
  refine Z.aload_n B dX12_item_38 (v := .ref 45) rfl rfl ?_
  refine Z.getI (σ := (mS σ a t w r)) B fX12_141_12 dX12_item_39 (hl.n (k := 45) (by decide)) (hl.k (k := 45) (by decide)) (by decide) (v := nI a) mS_a ?_
  refine Z.istore_n B dX12_item_42 (by decide) (L' := [(0, .ref 45), (1, .int (nI a))]) rfl ?_
  refine Z.aload_n B dX12_item_43 (v := .ref 45) rfl rfl ?_
  refine Z.callVI (σ := (mS σ a t w r)) B (M' := mX12_word) (as := []) (st := []) (v := .int (-1)) dX12_item_44 wX12_word iX12_word sX12_word kX12_166 (hl.n (k := 45) (by decide)) (hl.k (k := 45) (by decide)) (by decide) rfl rfl (wdM_s (v := 0) (σ := σ) (t := t) (w := w) (r := r) hl ht (by omega) (by decide) hw hs) rfl rfl (by decide) (by decide) (Nat.le_of_ble_eq_true rfl) (by decide) (by decide) ?_
  refine Z.istore_n B dX12_item_47 (by decide) (L' := [(0, .ref 45), (1, .int (nI a)), (2, .int (-1))]) rfl ?_
  refine Z.iload_n B dX12_item_48 (x := (-1)) rfl ?_
  refine Z.iconst B dX12_item_49 (v := (-1)) rfl ?_
  refine Z.icmp_ne B dX12_item_50 (tgt := 55) rfl (fun h50 => absurd rfl h50) (fun h50 => ?_)
  refine Z.iconst B dX12_item_53 (v := nI 0) rfl ?_
  refine Z.iret B Rt dX12_item_54 (ty := .boolean) rfl rfl (by decide) (by decide) ?_
  exact ⟨rfl, rfl⟩

theorem it_M_c0 {σ : zSt} {t w : Int32} {r : Nat → Int32} (hl : Lay σ) {s m : Nat} {T : Nat → Int32} (ht : zTm σ s m T) {a : Nat} (ha : a < 2 ^ 29) {n ac y : Nat} (H : zMd σ n ac y) (hw : wd T a = 0) (hs : T (a + 5) = nI 32) (hr : n < 8) {k0 : Nat} (hk0 : k0 < 6) (hall : ∀ k, k < k0 → nok T (ps T (a + 5) k) (mx ac 0 k)) (hb : ¬ nok T (ps T (a + 5) k0) (mx ac 0 k0))  : Ct mX12_item [.ref 45] (mS σ a t w r) (fun r1 τ => r1 = some (.int (nI 0)) ∧ ∃ a1 t1 r2, τ = mS σ a1 t1 (nI (nbd T (ps T (a + 5) k0))) r2) := by
  obtain ⟨⟨hs8, hm160⟩, ⟨hbs, hen⟩, hT, hwd⟩ := id ht
  obtain ⟨-, hn, hn8, hac, hac4, hy, hy8⟩ := id H
  obtain ⟨hv, ho⟩ := wd_al (by decide) hw
  have hwl : wl 0 = 5 := rfl
  rw [hwl] at hv
  have hs0 := hs
  refine Ct.of (by decide) (Nat.le_of_ble_eq_true rfl) fun κ B Rt => ?_
  show Z κ 0 0 (mS σ a t w r) 0 [(0, .ref 45)] []
  refine Z.iconst B dX12_item_0 (v := nI 0) rfl ?_
  refine Z.istore_n B dX12_item_1 (by decide) (L' := [(0, .ref 45), (1, .int (nI 0))]) rfl ?_
  refine Z.iload_n B dX12_item_2 (x := nI 0) rfl ?_
  refine Z.iconst B dX12_item_3 (v := nI 4) rfl ?_
  refine Z.icmp_geN B dX12_item_4 (tgt := 38) rfl (by omega) (by omega) (fun h4 => by exfalso; first | omega | contradiction | simp_all) (fun h4 => ?_)
  refine Z.aload_n B dX12_item_7 (v := .ref 45) rfl rfl ?_
  refine Z.iload_n B dX12_item_8 (x := nI 0) rfl ?_
  refine Z.callVI (σ := (mS σ a t w r)) B (M' := mX12_isWordAt) (as := [.int (nI 0)]) (st := []) (v := .int (nI 1)) dX12_item_9 wX12_isWordAt iX12_isWordAt sX12_isWordAt kX12_160 (hl.n (k := 45) (by decide)) (hl.k (k := 45) (by decide)) (by decide) rfl rfl (t_X12_isW_0_1 (σ := σ) (t := t) (w := w) (r := r) hl ht (by omega) hv) rfl rfl (by decide) (by decide) (Nat.le_of_ble_eq_true rfl) (by decide) (by decide) ?_
  refine Z.if_eqN B dX12_item_12 (tgt := 32) rfl (by omega) (fun h12 => by exfalso; first | omega | contradiction | simp_all) (fun h12 => ?_)
  refine Z.aload_n B dX12_item_15 (v := .ref 45) rfl rfl ?_
  refine Z.iload_n B dX12_item_16 (x := nI 0) rfl ?_
  refine Z.callVI (σ := (mS σ a t w r)) B (M' := mX12_isFull) (as := [.int (nI 0)]) (st := []) (v := .int (nI 0)) dX12_item_17 wX12_isFull iX12_isFull sX12_isFull kX12_163 (hl.n (k := 45) (by decide)) (hl.k (k := 45) (by decide)) (by decide) rfl rfl (t_X12_isFull_0_0 (σ := mS σ a t w r) hl ((mS_f (by decide) (by decide) (by decide)).trans hn) hn8 ((mS_f (by decide) (by decide) (by decide)).trans hac) hac4 ((mS_f (by decide) (by decide) (by decide)).trans hy) hy8 hr) rfl rfl (by decide) (by decide) (Nat.le_of_ble_eq_true rfl) (by decide) (by decide) ?_
  refine Z.if_eqN B dX12_item_20 (tgt := 32) rfl (by omega) (fun h20 => ?_) (fun h20 => by exfalso; first | omega | contradiction | simp_all)
  refine Z.iinc B dX12_item_32 (by decide) (x := nI 0) rfl (v := nI 1) (nI_inc 0) (L' := [(0, .ref 45), (1, .int (nI 1))]) rfl ?_
  refine Z.goto B dX12_item_35 (tgt := 2) rfl ?_
  refine Z.iload_n B dX12_item_2 (x := nI 1) rfl ?_
  refine Z.iconst B dX12_item_3 (v := nI 4) rfl ?_
  refine Z.icmp_geN B dX12_item_4 (tgt := 38) rfl (by omega) (by omega) (fun h4 => by exfalso; first | omega | contradiction | simp_all) (fun h4 => ?_)
  refine Z.aload_n B dX12_item_7 (v := .ref 45) rfl rfl ?_
  refine Z.iload_n B dX12_item_8 (x := nI 1) rfl ?_
  refine Z.callVI (σ := (mS σ a t w r)) B (M' := mX12_isWordAt) (as := [.int (nI 1)]) (st := []) (v := .int (nI 0)) dX12_item_9 wX12_isWordAt iX12_isWordAt sX12_isWordAt kX12_160 (hl.n (k := 45) (by decide)) (hl.k (k := 45) (by decide)) (by decide) rfl rfl (t_X12_isW_1_0 (σ := σ) (t := t) (w := w) (r := r) hl ht (by omega) (by have := ho 1 (by decide) (by decide); omega)) rfl rfl (by decide) (by decide) (Nat.le_of_ble_eq_true rfl) (by decide) (by decide) ?_
  refine Z.if_eqN B dX12_item_12 (tgt := 32) rfl (by omega) (fun h12 => ?_) (fun h12 => by exfalso; first | omega | contradiction | simp_all)
  refine Z.iinc B dX12_item_32 (by decide) (x := nI 1) rfl (v := nI 2) (nI_inc 1) (L' := [(0, .ref 45), (1, .int (nI 2))]) rfl ?_
  refine Z.goto B dX12_item_35 (tgt := 2) rfl ?_
  refine Z.iload_n B dX12_item_2 (x := nI 2) rfl ?_
  refine Z.iconst B dX12_item_3 (v := nI 4) rfl ?_
  refine Z.icmp_geN B dX12_item_4 (tgt := 38) rfl (by omega) (by omega) (fun h4 => by exfalso; first | omega | contradiction | simp_all) (fun h4 => ?_)
  refine Z.aload_n B dX12_item_7 (v := .ref 45) rfl rfl ?_
  refine Z.iload_n B dX12_item_8 (x := nI 2) rfl ?_
  refine Z.callVI (σ := (mS σ a t w r)) B (M' := mX12_isWordAt) (as := [.int (nI 2)]) (st := []) (v := .int (nI 0)) dX12_item_9 wX12_isWordAt iX12_isWordAt sX12_isWordAt kX12_160 (hl.n (k := 45) (by decide)) (hl.k (k := 45) (by decide)) (by decide) rfl rfl (t_X12_isW_2_0 (σ := σ) (t := t) (w := w) (r := r) hl ht (by omega) (by have := ho 2 (by decide) (by decide); omega)) rfl rfl (by decide) (by decide) (Nat.le_of_ble_eq_true rfl) (by decide) (by decide) ?_
  refine Z.if_eqN B dX12_item_12 (tgt := 32) rfl (by omega) (fun h12 => ?_) (fun h12 => by exfalso; first | omega | contradiction | simp_all)
  refine Z.iinc B dX12_item_32 (by decide) (x := nI 2) rfl (v := nI 3) (nI_inc 2) (L' := [(0, .ref 45), (1, .int (nI 3))]) rfl ?_
  refine Z.goto B dX12_item_35 (tgt := 2) rfl ?_
  refine Z.iload_n B dX12_item_2 (x := nI 3) rfl ?_
  refine Z.iconst B dX12_item_3 (v := nI 4) rfl ?_
  refine Z.icmp_geN B dX12_item_4 (tgt := 38) rfl (by omega) (by omega) (fun h4 => by exfalso; first | omega | contradiction | simp_all) (fun h4 => ?_)
  refine Z.aload_n B dX12_item_7 (v := .ref 45) rfl rfl ?_
  refine Z.iload_n B dX12_item_8 (x := nI 3) rfl ?_
  refine Z.callVI (σ := (mS σ a t w r)) B (M' := mX12_isWordAt) (as := [.int (nI 3)]) (st := []) (v := .int (nI 0)) dX12_item_9 wX12_isWordAt iX12_isWordAt sX12_isWordAt kX12_160 (hl.n (k := 45) (by decide)) (hl.k (k := 45) (by decide)) (by decide) rfl rfl (t_X12_isW_3_0 (σ := σ) (t := t) (w := w) (r := r) hl ht (by omega) (by have := ho 3 (by decide) (by decide); omega)) rfl rfl (by decide) (by decide) (Nat.le_of_ble_eq_true rfl) (by decide) (by decide) ?_
  refine Z.if_eqN B dX12_item_12 (tgt := 32) rfl (by omega) (fun h12 => ?_) (fun h12 => by exfalso; first | omega | contradiction | simp_all)
  refine Z.iinc B dX12_item_32 (by decide) (x := nI 3) rfl (v := nI 4) (nI_inc 3) (L' := [(0, .ref 45), (1, .int (nI 4))]) rfl ?_
  refine Z.goto B dX12_item_35 (tgt := 2) rfl ?_
  refine Z.iload_n B dX12_item_2 (x := nI 4) rfl ?_
  refine Z.iconst B dX12_item_3 (v := nI 4) rfl ?_
  refine Z.icmp_geN B dX12_item_4 (tgt := 38) rfl (by omega) (by omega) (fun h4 => ?_) (fun h4 => by exfalso; first | omega | contradiction | simp_all)
  refine Z.aload_n B dX12_item_38 (v := .ref 45) rfl rfl ?_
  refine Z.getI (σ := (mS σ a t w r)) B fX12_141_12 dX12_item_39 (hl.n (k := 45) (by decide)) (hl.k (k := 45) (by decide)) (by decide) (v := nI a) mS_a ?_
  refine Z.istore_n B dX12_item_42 (by decide) (L' := [(0, .ref 45), (1, .int (nI a))]) rfl ?_
  refine Z.aload_n B dX12_item_43 (v := .ref 45) rfl rfl ?_
  refine Z.callVI (σ := (mS σ a t w r)) B (M' := mX12_word) (as := []) (st := []) (v := .int (nI 0)) dX12_item_44 wX12_word iX12_word sX12_word kX12_166 (hl.n (k := 45) (by decide)) (hl.k (k := 45) (by decide)) (by decide) rfl rfl (wdM_0 (σ := σ) (t := t) (w := w) (r := r) hl ht (by omega) hw hs) rfl rfl (by decide) (by decide) (Nat.le_of_ble_eq_true rfl) (by decide) (by decide) ?_
  refine Z.istore_n B dX12_item_47 (by decide) (L' := [(0, .ref 45), (1, .int (nI a)), (2, .int (nI 0))]) rfl ?_
  refine Z.iload_n B dX12_item_48 (x := nI 0) rfl ?_
  refine Z.iconst B dX12_item_49 (v := (-1)) rfl ?_
  refine Z.icmp_ne B dX12_item_50 (tgt := 55) rfl (fun h50 => ?_) (fun h50 => (by exfalso; revert h50; decide))
  refine Z.iload_n B dX12_item_55 (x := nI 0) rfl ?_
  refine Z.if_neN B dX12_item_56 (tgt := 68) rfl (by omega) (fun h56 => by exfalso; first | omega | contradiction | simp_all) (fun h56 => ?_)
  refine Z.aload_n B dX12_item_59 (v := .ref 45) rfl rfl ?_
  refine Z.getI (σ := (mS σ (a + 5 + 1) t w r)) B fX12_81_12 dX12_item_60 (hl.n (k := 45) (by decide)) (hl.k (k := 45) (by decide)) (by decide) (v := nI n) ((mS_f (by decide) (by decide) (by decide)).trans hn) ?_
  refine Z.bipush B dX12_item_63 (v := nI 8) rfl ?_
  refine Z.icmp_eqN B dX12_item_65 (tgt := 95) rfl (by omega) (by omega) (fun h65 => (by omega)) (fun h65 => ?_)
  refine Z.iload_n B dX12_item_68 (x := nI 0) rfl ?_
  refine Z.iconst B dX12_item_69 (v := nI 1) rfl ?_
  refine Z.icmp_neN B dX12_item_70 (tgt := 81) rfl (by omega) (by omega) (fun h70 => ?_) (fun h70 => by exfalso; first | omega | contradiction | simp_all)
  refine Z.iload_n B dX12_item_81 (x := nI 0) rfl ?_
  refine Z.iconst B dX12_item_82 (v := nI 2) rfl ?_
  refine Z.icmp_neN B dX12_item_83 (tgt := 101) rfl (by omega) (by omega) (fun h83 => ?_) (fun h83 => by exfalso; first | omega | contradiction | simp_all)
  refine Z.iload_n B dX12_item_101 (x := nI 0) rfl ?_
  refine Z.if_neN B dX12_item_102 (tgt := 110) rfl (by omega) (fun h102 => by exfalso; first | omega | contradiction | simp_all) (fun h102 => ?_)
  refine Z.bipush B dX12_item_105 (v := nI 6) rfl ?_
  refine Z.goto B dX12_item_107 (tgt := 129) rfl ?_
  refine Z.istore_n B dX12_item_129 (by decide) (L' := [(0, .ref 45), (1, .int (nI a)), (2, .int (nI 0)), (3, .int (nI 6))]) rfl ?_
  refine Z.iconst B dX12_item_130 (v := nI 0) rfl ?_
  refine Z.istore B dX12_item_131 (by decide) (L' := [(0, .ref 45), (1, .int (nI a)), (2, .int (nI 0)), (3, .int (nI 6)), (4, .int (nI 0))]) rfl ?_
  have hloop133 : ∀ k : Nat, k ≤ k0 → Z κ 0 0 (mS σ (atK T (a + 5) k) (tK t T (a + 5) k) w (fi k (vs T (a + 5)) r)) 133 [(0, .ref 45), (1, .int (nI a)), (2, .int (nI 0)), (3, .int (nI 6)), (4, .int (nI k))] [] := by
    refine z_loop (fun k => 6 - k) (fun k ih hk0k => ?_)
    have hps := ps_le (T := T) (p := a + 5) k
    rcases (by omega : k < k0 ∨ k0 = k) with hlt | hke
    · skip
      have hk := hall k hlt
      refine Z.iload B dX12_item_133 (x := nI k) rfl ?_
      refine Z.iload_n B dX12_item_135 (x := nI 6) rfl ?_
      refine Z.icmp_geN B dX12_item_136 (tgt := 227) rfl (by omega) (by omega) (fun h136 => (by omega)) (fun h136 => ?_)
      refine Z.iload B dX12_item_139 (x := nI k) rfl ?_
      refine Z.if_leN B dX12_item_141 (tgt := 194) rfl (by omega) (fun h141 => ?_) (fun h141 => ?_)
      · skip
        refine Z.eqσ (τ := (mS σ (ps T (a + 5) k + 1) (tK t T (a + 5) k) w (fi k (vs T (a + 5)) r))) (by rw [atK_0 h141]) ?_
        refine Z.aload_n B dX12_item_194 (v := .ref 45) rfl rfl ?_
        refine Z.aload_n B dX12_item_195 (v := .ref 45) rfl rfl ?_
        refine Z.iload_n B dX12_item_196 (x := nI 0) rfl ?_
        refine Z.iload B dX12_item_197 (x := nI k) rfl ?_
        refine Z.callVI (σ := (mS σ (ps T (a + 5) k + 1) (tK t T (a + 5) k) w (fi k (vs T (a + 5)) r))) B (M' := mX12_high) (as := [.int (nI 0), .int (nI k)]) (st := [.ref 45]) (v := .int (mx ac 0 k)) dX12_item_199 wX12_high iX12_high sX12_high kX12_170 (hl.n (k := 45) (by decide)) (hl.k (k := 45) (by decide)) (by decide) rfl rfl (t_X12_high (w := 0) (i := k) hl ((mS_f (by decide) (by decide) (by decide)).trans hac) (by decide) (by show k < 6; omega)) rfl rfl (by decide) (by decide) (Nat.le_of_ble_eq_true rfl) (by decide) (by decide) ?_
        refine Z.callVI (σ := (mS σ (ps T (a + 5) k + 1) (tK t T (a + 5) k) w (fi k (vs T (a + 5)) r))) B (M' := mX12_number) (as := [.int (mx ac 0 k)]) (st := []) (v := .int (nI 1)) dX12_item_202 wX12_number iX12_number sX12_number kX12_173 (hl.n (k := 45) (by decide)) (hl.k (k := 45) (by decide)) (by decide) rfl rfl (t_X12_num_ok (σ := σ) (t := (tK t T (a + 5) k)) (w := w) (r := (fi k (vs T (a + 5)) r)) hl ht (a := ps T (a + 5) k + 1) (by omega) hk.2.1 hk.2.2) rfl rfl (by decide) (by decide) (Nat.le_of_ble_eq_true rfl) (by decide) (by decide) ?_
        refine Z.eqσ (τ := (mS σ (ps T (a + 5) (k + 1)) (vs T (a + 5) k) w (fi k (vs T (a + 5)) r))) (congrArg (fun q => mS σ q (vs T (a + 5) k) w (fi k (vs T (a + 5)) r)) (ps_ok hk).symm) ?_
        refine Z.if_neN B dX12_item_205 (tgt := 210) rfl (by omega) (fun h205 => ?_) (fun h205 => (by omega))
        refine Z.aload_n B dX12_item_210 (v := .ref 45) rfl rfl ?_
        refine Z.getR (σ := (mS σ (ps T (a + 5) (k + 1)) (vs T (a + 5) k) w (fi k (vs T (a + 5)) r))) B fX12_63_12 dX12_item_211 (hl.n (k := 45) (by decide)) (hl.k (k := 45) (by decide)) (by decide) (j := 61) (hl.r (k := 45) (f := 20) (by decide) (by decide)) ?_
        refine Z.iload B dX12_item_214 (x := nI k) rfl ?_
        refine Z.aload_n B dX12_item_216 (v := .ref 45) rfl rfl ?_
        refine Z.getI (σ := (mS σ (ps T (a + 5) (k + 1)) (vs T (a + 5) k) w (fi k (vs T (a + 5)) r))) B fX12_157_12 dX12_item_217 (hl.n (k := 45) (by decide)) (hl.k (k := 45) (by decide)) (by decide) (v := (vs T (a + 5) k)) mS_t ?_
        refine Z.iast (σ := (mS σ (ps T (a + 5) (k + 1)) (vs T (a + 5) k) w (fi k (vs T (a + 5)) r))) B dX12_item_220 (n := 6) (hl.n (k := 61) (by decide)) (hl.k (k := 61) (by decide)) (hl.l (k := 61) (by decide)) (by decide) (j := k) rfl (by omega) (τ := (zuX (mS σ (ps T (a + 5) (k + 1)) (vs T (a + 5) k) w (fi k (vs T (a + 5)) r)) 61 (upd (zX (mS σ (ps T (a + 5) (k + 1)) (vs T (a + 5) k) w (fi k (vs T (a + 5)) r)) 61) k (vs T (a + 5) k)))) rfl ?_
        refine Z.eqσ (τ := (mS σ (ps T (a + 5) (k + 1)) (vs T (a + 5) k) w (fi (k + 1) (vs T (a + 5)) r))) (by rw [mS_r, fi_s (f := vs T (a + 5)) rfl]; exact mS_ur) ?_
        refine Z.iincN B dX12_item_221 (by decide) (a := k) rfl (L' := [(0, .ref 45), (1, .int (nI a)), (2, .int (nI 0)), (3, .int (nI 6)), (4, .int (nI (k + 1)))]) rfl ?_
        refine Z.goto B dX12_item_224 (tgt := 133) rfl ?_
        exact ih (k + 1) (by omega) (by omega)
      · skip
        have h141 := h141
        refine Z.eqσ (τ := (mS σ (ps T (a + 5) k) (tK t T (a + 5) k) w (fi k (vs T (a + 5)) r))) (by rw [atK_s h141]) ?_
        refine Z.aload_n B dX12_item_144 (v := .ref 45) rfl rfl ?_
        refine Z.getI (σ := (mS σ (ps T (a + 5) k) (tK t T (a + 5) k) w (fi k (vs T (a + 5)) r))) B fX12_141_12 dX12_item_145 (hl.n (k := 45) (by decide)) (hl.k (k := 45) (by decide)) (by decide) (v := nI (ps T (a + 5) k)) mS_a ?_
        refine Z.aload_n B dX12_item_148 (v := .ref 45) rfl rfl ?_
        refine Z.getI (σ := (mS σ (ps T (a + 5) k) (tK t T (a + 5) k) w (fi k (vs T (a + 5)) r))) B fX12_144_12 dX12_item_149 (hl.n (k := 45) (by decide)) (hl.k (k := 45) (by decide)) (by decide) (v := nI m) ((mS_f (by decide) (by decide) (by decide)).trans hen) ?_
        refine Z.icmp_geN B dX12_item_152 (tgt := 175) rfl (by omega) (by omega) (fun h152 => (by have := in_m ht (c := 31) hk.1 (by decide); omega)) (fun h152 => ?_)
        refine Z.aload_n B dX12_item_155 (v := .ref 45) rfl rfl ?_
        refine Z.getR (σ := (mS σ (ps T (a + 5) k) (tK t T (a + 5) k) w (fi k (vs T (a + 5)) r))) B fX12_53_12 dX12_item_156 (hl.n (k := 45) (by decide)) (hl.k (k := 45) (by decide)) (by decide) (j := 58) (hl.r (k := 45) (f := 17) (by decide) (by decide)) ?_
        refine Z.aload_n B dX12_item_159 (v := .ref 45) rfl rfl ?_
        refine Z.getI (σ := (mS σ (ps T (a + 5) k) (tK t T (a + 5) k) w (fi k (vs T (a + 5)) r))) B fX12_147_12 dX12_item_160 (hl.n (k := 45) (by decide)) (hl.k (k := 45) (by decide)) (by decide) (v := nI (s * 160)) ((mS_f (by decide) (by decide) (by decide)).trans hbs) ?_
        refine Z.aload_n B dX12_item_163 (v := .ref 45) rfl rfl ?_
        refine Z.getI (σ := (mS σ (ps T (a + 5) k) (tK t T (a + 5) k) w (fi k (vs T (a + 5)) r))) B fX12_141_12 dX12_item_164 (hl.n (k := 45) (by decide)) (hl.k (k := 45) (by decide)) (by decide) (v := nI (ps T (a + 5) k)) mS_a ?_
        refine Z.iaddN B dX12_item_167 (a := s * 160) (b := ps T (a + 5) k) ?_
        refine Z.lald (σ := (mS σ (ps T (a + 5) k) (tK t T (a + 5) k) w (fi k (vs T (a + 5)) r))) B dX12_item_168 (n := 1280) (hl.n (k := 58) (by decide)) (hl.k (k := 58) (by decide)) (hl.l (k := 58) (by decide)) (by decide) (j := (s * 160) + (ps T (a + 5) k)) rfl (by have := in_m ht (c := 31) hk.1 (by decide); omega) (v := (zY (mS σ (ps T (a + 5) k) (tK t T (a + 5) k) w (fi k (vs T (a + 5)) r)) 58 ((s * 160) + (ps T (a + 5) k)))) rfl ?_
        refine Z.l2i B dX12_item_169 ?_
        refine Z.eqS (st' := [.int (T (ps T (a + 5) k))]) (congrArg (fun z => Value.int z :: _) (ht.t (i := ps T (a + 5) k) (in_m ht (c := 31) hk.1 (by decide)))) ?_
        refine Z.bipush B dX12_item_170 (v := nI 32) rfl ?_
        refine Z.icmp_eq B dX12_item_172 (tgt := 184) rfl (fun h172 => ?_) (fun h172 => (absurd hk.1 h172))
        refine Z.aload_n B dX12_item_184 (v := .ref 45) rfl rfl ?_
        refine Z.dup B dX12_item_185 rfl ?_
        refine Z.getI (σ := (mS σ (ps T (a + 5) k) (tK t T (a + 5) k) w (fi k (vs T (a + 5)) r))) B fX12_141_12 dX12_item_186 (hl.n (k := 45) (by decide)) (hl.k (k := 45) (by decide)) (by decide) (v := nI (ps T (a + 5) k)) mS_a ?_
        refine Z.iconst B dX12_item_189 (v := nI 1) rfl ?_
        refine Z.iaddN B dX12_item_190 (a := ps T (a + 5) k) (b := 1) ?_
        refine Z.putI (σ := (mS σ (ps T (a + 5) k) (tK t T (a + 5) k) w (fi k (vs T (a + 5)) r))) B fX12_141_12 (ty := .int) ⟨_, _, _, rfl, rfl, by decide +kernel⟩ dX12_item_191 (hl.n (k := 45) (by decide)) (hl.k (k := 45) (by decide)) (by decide) rfl rfl (τ := (zuX (mS σ (ps T (a + 5) k) (tK t T (a + 5) k) w (fi k (vs T (a + 5)) r)) 45 (upd (zX (mS σ (ps T (a + 5) k) (tK t T (a + 5) k) w (fi k (vs T (a + 5)) r)) 45) 22 (nI ((ps T (a + 5) k) + 1))))) rfl ?_
        refine Z.eqσ (τ := (mS σ (ps T (a + 5) k + 1) (tK t T (a + 5) k) w (fi k (vs T (a + 5)) r))) mS_ua ?_
        refine Z.aload_n B dX12_item_194 (v := .ref 45) rfl rfl ?_
        refine Z.aload_n B dX12_item_195 (v := .ref 45) rfl rfl ?_
        refine Z.iload_n B dX12_item_196 (x := nI 0) rfl ?_
        refine Z.iload B dX12_item_197 (x := nI k) rfl ?_
        refine Z.callVI (σ := (mS σ (ps T (a + 5) k + 1) (tK t T (a + 5) k) w (fi k (vs T (a + 5)) r))) B (M' := mX12_high) (as := [.int (nI 0), .int (nI k)]) (st := [.ref 45]) (v := .int (mx ac 0 k)) dX12_item_199 wX12_high iX12_high sX12_high kX12_170 (hl.n (k := 45) (by decide)) (hl.k (k := 45) (by decide)) (by decide) rfl rfl (t_X12_high (w := 0) (i := k) hl ((mS_f (by decide) (by decide) (by decide)).trans hac) (by decide) (by show k < 6; omega)) rfl rfl (by decide) (by decide) (Nat.le_of_ble_eq_true rfl) (by decide) (by decide) ?_
        refine Z.callVI (σ := (mS σ (ps T (a + 5) k + 1) (tK t T (a + 5) k) w (fi k (vs T (a + 5)) r))) B (M' := mX12_number) (as := [.int (mx ac 0 k)]) (st := []) (v := .int (nI 1)) dX12_item_202 wX12_number iX12_number sX12_number kX12_173 (hl.n (k := 45) (by decide)) (hl.k (k := 45) (by decide)) (by decide) rfl rfl (t_X12_num_ok (σ := σ) (t := (tK t T (a + 5) k)) (w := w) (r := (fi k (vs T (a + 5)) r)) hl ht (a := ps T (a + 5) k + 1) (by omega) hk.2.1 hk.2.2) rfl rfl (by decide) (by decide) (Nat.le_of_ble_eq_true rfl) (by decide) (by decide) ?_
        refine Z.eqσ (τ := (mS σ (ps T (a + 5) (k + 1)) (vs T (a + 5) k) w (fi k (vs T (a + 5)) r))) (congrArg (fun q => mS σ q (vs T (a + 5) k) w (fi k (vs T (a + 5)) r)) (ps_ok hk).symm) ?_
        refine Z.if_neN B dX12_item_205 (tgt := 210) rfl (by omega) (fun h205 => ?_) (fun h205 => (by omega))
        refine Z.aload_n B dX12_item_210 (v := .ref 45) rfl rfl ?_
        refine Z.getR (σ := (mS σ (ps T (a + 5) (k + 1)) (vs T (a + 5) k) w (fi k (vs T (a + 5)) r))) B fX12_63_12 dX12_item_211 (hl.n (k := 45) (by decide)) (hl.k (k := 45) (by decide)) (by decide) (j := 61) (hl.r (k := 45) (f := 20) (by decide) (by decide)) ?_
        refine Z.iload B dX12_item_214 (x := nI k) rfl ?_
        refine Z.aload_n B dX12_item_216 (v := .ref 45) rfl rfl ?_
        refine Z.getI (σ := (mS σ (ps T (a + 5) (k + 1)) (vs T (a + 5) k) w (fi k (vs T (a + 5)) r))) B fX12_157_12 dX12_item_217 (hl.n (k := 45) (by decide)) (hl.k (k := 45) (by decide)) (by decide) (v := (vs T (a + 5) k)) mS_t ?_
        refine Z.iast (σ := (mS σ (ps T (a + 5) (k + 1)) (vs T (a + 5) k) w (fi k (vs T (a + 5)) r))) B dX12_item_220 (n := 6) (hl.n (k := 61) (by decide)) (hl.k (k := 61) (by decide)) (hl.l (k := 61) (by decide)) (by decide) (j := k) rfl (by omega) (τ := (zuX (mS σ (ps T (a + 5) (k + 1)) (vs T (a + 5) k) w (fi k (vs T (a + 5)) r)) 61 (upd (zX (mS σ (ps T (a + 5) (k + 1)) (vs T (a + 5) k) w (fi k (vs T (a + 5)) r)) 61) k (vs T (a + 5) k)))) rfl ?_
        refine Z.eqσ (τ := (mS σ (ps T (a + 5) (k + 1)) (vs T (a + 5) k) w (fi (k + 1) (vs T (a + 5)) r))) (by rw [mS_r, fi_s (f := vs T (a + 5)) rfl]; exact mS_ur) ?_
        refine Z.iincN B dX12_item_221 (by decide) (a := k) rfl (L' := [(0, .ref 45), (1, .int (nI a)), (2, .int (nI 0)), (3, .int (nI 6)), (4, .int (nI (k + 1)))]) rfl ?_
        refine Z.goto B dX12_item_224 (tgt := 133) rfl ?_
        exact ih (k + 1) (by omega) (by omega)
    · skip
      have hb2 : ¬ nok T (ps T (a + 5) k) (mx ac 0 k) := by rw [← hke]; exact hb
      refine Z.iload B dX12_item_133 (x := nI k) rfl ?_
      refine Z.iload_n B dX12_item_135 (x := nI 6) rfl ?_
      refine Z.icmp_geN B dX12_item_136 (tgt := 227) rfl (by omega) (by omega) (fun h136 => (by omega)) (fun h136 => ?_)
      refine Z.iload B dX12_item_139 (x := nI k) rfl ?_
      refine Z.if_leN B dX12_item_141 (tgt := 194) rfl (by omega) (fun h141 => ?_) (fun h141 => ?_)
      · skip
        have h172 : T (ps T (a + 5) k) = nI 32 := (by subst h141; exact hs)
        refine Z.eqσ (τ := (mS σ (ps T (a + 5) k + 1) (tK t T (a + 5) k) w (fi k (vs T (a + 5)) r))) (by rw [atK_0 h141]) ?_
        refine Z.aload_n B dX12_item_194 (v := .ref 45) rfl rfl ?_
        refine Z.aload_n B dX12_item_195 (v := .ref 45) rfl rfl ?_
        refine Z.iload_n B dX12_item_196 (x := nI 0) rfl ?_
        refine Z.iload B dX12_item_197 (x := nI k) rfl ?_
        refine Z.callVI (σ := (mS σ (ps T (a + 5) k + 1) (tK t T (a + 5) k) w (fi k (vs T (a + 5)) r))) B (M' := mX12_high) (as := [.int (nI 0), .int (nI k)]) (st := [.ref 45]) (v := .int (mx ac 0 k)) dX12_item_199 wX12_high iX12_high sX12_high kX12_170 (hl.n (k := 45) (by decide)) (hl.k (k := 45) (by decide)) (by decide) rfl rfl (t_X12_high (w := 0) (i := k) hl ((mS_f (by decide) (by decide) (by decide)).trans hac) (by decide) (by show k < 6; omega)) rfl rfl (by decide) (by decide) (Nat.le_of_ble_eq_true rfl) (by decide) (by decide) ?_
        rcases Bool.eq_false_or_eq_true (dg (T (ps T (a + 5) k + 1))) with hd1 | hd0
        · skip
          have hbig : ¬ nv T (ps T (a + 5) k + 1) ≤ (mx ac 0 k) := fun h => hb2 ⟨h172, hd1, h⟩
          refine Z.callVI (σ := (mS σ (ps T (a + 5) k + 1) (tK t T (a + 5) k) w (fi k (vs T (a + 5)) r))) B (M' := mX12_number) (as := [.int (mx ac 0 k)]) (st := []) (v := .int (nI 0)) dX12_item_202 wX12_number iX12_number sX12_number kX12_173 (hl.n (k := 45) (by decide)) (hl.k (k := 45) (by decide)) (by decide) rfl rfl (t_X12_num_big (σ := σ) (t := (tK t T (a + 5) k)) (w := w) (r := (fi k (vs T (a + 5)) r)) hl ht (a := ps T (a + 5) k + 1) (by omega) hd1 hbig) rfl rfl (by decide) (by decide) (Nat.le_of_ble_eq_true rfl) (by decide) (by decide) ?_
          refine Z.if_neN B dX12_item_205 (tgt := 210) rfl (by omega) (fun h205 => (by omega)) (fun h205 => ?_)
          refine Z.iconst B dX12_item_208 (v := nI 0) rfl ?_
          refine Z.iret B Rt dX12_item_209 (ty := .boolean) rfl rfl (by decide) (by decide) ?_
          have hx : nbd T (ps T (a + 5) k0) = _ := (by first | exact if_pos (by rw [hke]; exact h172) | exact if_neg (by rw [hke]; exact h172))
          rw [hx, hke]
          exact ⟨rfl, _, _, _, rfl⟩
        · skip
          refine Z.callVI (σ := (mS σ (ps T (a + 5) k + 1) (tK t T (a + 5) k) w (fi k (vs T (a + 5)) r))) B (M' := mX12_number) (as := [.int (mx ac 0 k)]) (st := []) (v := .int (nI 0)) dX12_item_202 wX12_number iX12_number sX12_number kX12_173 (hl.n (k := 45) (by decide)) (hl.k (k := 45) (by decide)) (by decide) rfl rfl (t_X12_num_nd (σ := σ) (t := (tK t T (a + 5) k)) (w := w) (r := (fi k (vs T (a + 5)) r)) hl ht (a := ps T (a + 5) k + 1) (by omega) hd0) rfl rfl (by decide) (by decide) (Nat.le_of_ble_eq_true rfl) (by decide) (by decide) ?_
          refine Z.if_neN B dX12_item_205 (tgt := 210) rfl (by omega) (fun h205 => (by omega)) (fun h205 => ?_)
          refine Z.iconst B dX12_item_208 (v := nI 0) rfl ?_
          refine Z.iret B Rt dX12_item_209 (ty := .boolean) rfl rfl (by decide) (by decide) ?_
          have hx : nbd T (ps T (a + 5) k0) = _ := (by first | exact if_pos (by rw [hke]; exact h172) | exact if_neg (by rw [hke]; exact h172))
          rw [hx, hke]
          exact ⟨rfl, _, _, _, rfl⟩
      · skip
        have h141 := h141
        refine Z.eqσ (τ := (mS σ (ps T (a + 5) k) (tK t T (a + 5) k) w (fi k (vs T (a + 5)) r))) (by rw [atK_s h141]) ?_
        refine Z.aload_n B dX12_item_144 (v := .ref 45) rfl rfl ?_
        refine Z.getI (σ := (mS σ (ps T (a + 5) k) (tK t T (a + 5) k) w (fi k (vs T (a + 5)) r))) B fX12_141_12 dX12_item_145 (hl.n (k := 45) (by decide)) (hl.k (k := 45) (by decide)) (by decide) (v := nI (ps T (a + 5) k)) mS_a ?_
        refine Z.aload_n B dX12_item_148 (v := .ref 45) rfl rfl ?_
        refine Z.getI (σ := (mS σ (ps T (a + 5) k) (tK t T (a + 5) k) w (fi k (vs T (a + 5)) r))) B fX12_144_12 dX12_item_149 (hl.n (k := 45) (by decide)) (hl.k (k := 45) (by decide)) (by decide) (v := nI m) ((mS_f (by decide) (by decide) (by decide)).trans hen) ?_
        refine Z.icmp_geN B dX12_item_152 (tgt := 175) rfl (by omega) (by omega) (fun h152 => ?_) (fun h152 => ?_)
        · skip
          have h172 : ¬ T (ps T (a + 5) k) = nI 32 := (fun e => by have := in_m ht (c := 31) e (by decide); omega)
          refine Z.aload_n B dX12_item_175 (v := .ref 45) rfl rfl ?_
          refine Z.aload_n B dX12_item_176 (v := .ref 45) rfl rfl ?_
          refine Z.getI (σ := (mS σ (ps T (a + 5) k) (tK t T (a + 5) k) w (fi k (vs T (a + 5)) r))) B fX12_141_12 dX12_item_177 (hl.n (k := 45) (by decide)) (hl.k (k := 45) (by decide)) (by decide) (v := nI (ps T (a + 5) k)) mS_a ?_
          refine Z.callVI (σ := (mS σ (ps T (a + 5) k) (tK t T (a + 5) k) w (fi k (vs T (a + 5)) r))) B (M' := mX12_wrong) (as := [.int (nI (ps T (a + 5) k))]) (st := []) (v := .int (nI 0)) dX12_item_180 wX12_wrong iX12_wrong sX12_wrong kX12_154 (hl.n (k := 45) (by decide)) (hl.k (k := 45) (by decide)) (by decide) rfl rfl (t_X12_wrong (σ := σ) (t := (tK t T (a + 5) k)) (w := w) (r := (fi k (vs T (a + 5)) r)) hl ht (a := (ps T (a + 5) k)) (by omega) (p := nI (ps T (a + 5) k))) rfl rfl (by decide) (by decide) (Nat.le_of_ble_eq_true rfl) (by decide) (by decide) ?_
          refine Z.iret B Rt dX12_item_183 (ty := .boolean) rfl rfl (by decide) (by decide) ?_
          have hx : nbd T (ps T (a + 5) k0) = _ := (by first | exact if_pos (by rw [hke]; exact h172) | exact if_neg (by rw [hke]; exact h172))
          rw [hx, hke]
          exact ⟨rfl, _, _, _, rfl⟩
        · skip
          refine Z.aload_n B dX12_item_155 (v := .ref 45) rfl rfl ?_
          refine Z.getR (σ := (mS σ (ps T (a + 5) k) (tK t T (a + 5) k) w (fi k (vs T (a + 5)) r))) B fX12_53_12 dX12_item_156 (hl.n (k := 45) (by decide)) (hl.k (k := 45) (by decide)) (by decide) (j := 58) (hl.r (k := 45) (f := 17) (by decide) (by decide)) ?_
          refine Z.aload_n B dX12_item_159 (v := .ref 45) rfl rfl ?_
          refine Z.getI (σ := (mS σ (ps T (a + 5) k) (tK t T (a + 5) k) w (fi k (vs T (a + 5)) r))) B fX12_147_12 dX12_item_160 (hl.n (k := 45) (by decide)) (hl.k (k := 45) (by decide)) (by decide) (v := nI (s * 160)) ((mS_f (by decide) (by decide) (by decide)).trans hbs) ?_
          refine Z.aload_n B dX12_item_163 (v := .ref 45) rfl rfl ?_
          refine Z.getI (σ := (mS σ (ps T (a + 5) k) (tK t T (a + 5) k) w (fi k (vs T (a + 5)) r))) B fX12_141_12 dX12_item_164 (hl.n (k := 45) (by decide)) (hl.k (k := 45) (by decide)) (by decide) (v := nI (ps T (a + 5) k)) mS_a ?_
          refine Z.iaddN B dX12_item_167 (a := s * 160) (b := ps T (a + 5) k) ?_
          refine Z.lald (σ := (mS σ (ps T (a + 5) k) (tK t T (a + 5) k) w (fi k (vs T (a + 5)) r))) B dX12_item_168 (n := 1280) (hl.n (k := 58) (by decide)) (hl.k (k := 58) (by decide)) (hl.l (k := 58) (by decide)) (by decide) (j := (s * 160) + (ps T (a + 5) k)) rfl (by omega) (v := (zY (mS σ (ps T (a + 5) k) (tK t T (a + 5) k) w (fi k (vs T (a + 5)) r)) 58 ((s * 160) + (ps T (a + 5) k)))) rfl ?_
          refine Z.l2i B dX12_item_169 ?_
          refine Z.eqS (st' := [.int (T (ps T (a + 5) k))]) (congrArg (fun z => Value.int z :: _) (ht.t (i := ps T (a + 5) k) (by omega))) ?_
          refine Z.bipush B dX12_item_170 (v := nI 32) rfl ?_
          refine Z.icmp_eq B dX12_item_172 (tgt := 184) rfl (fun h172 => ?_) (fun h172 => ?_)
          · skip
            refine Z.aload_n B dX12_item_184 (v := .ref 45) rfl rfl ?_
            refine Z.dup B dX12_item_185 rfl ?_
            refine Z.getI (σ := (mS σ (ps T (a + 5) k) (tK t T (a + 5) k) w (fi k (vs T (a + 5)) r))) B fX12_141_12 dX12_item_186 (hl.n (k := 45) (by decide)) (hl.k (k := 45) (by decide)) (by decide) (v := nI (ps T (a + 5) k)) mS_a ?_
            refine Z.iconst B dX12_item_189 (v := nI 1) rfl ?_
            refine Z.iaddN B dX12_item_190 (a := ps T (a + 5) k) (b := 1) ?_
            refine Z.putI (σ := (mS σ (ps T (a + 5) k) (tK t T (a + 5) k) w (fi k (vs T (a + 5)) r))) B fX12_141_12 (ty := .int) ⟨_, _, _, rfl, rfl, by decide +kernel⟩ dX12_item_191 (hl.n (k := 45) (by decide)) (hl.k (k := 45) (by decide)) (by decide) rfl rfl (τ := (zuX (mS σ (ps T (a + 5) k) (tK t T (a + 5) k) w (fi k (vs T (a + 5)) r)) 45 (upd (zX (mS σ (ps T (a + 5) k) (tK t T (a + 5) k) w (fi k (vs T (a + 5)) r)) 45) 22 (nI ((ps T (a + 5) k) + 1))))) rfl ?_
            refine Z.eqσ (τ := (mS σ (ps T (a + 5) k + 1) (tK t T (a + 5) k) w (fi k (vs T (a + 5)) r))) mS_ua ?_
            refine Z.aload_n B dX12_item_194 (v := .ref 45) rfl rfl ?_
            refine Z.aload_n B dX12_item_195 (v := .ref 45) rfl rfl ?_
            refine Z.iload_n B dX12_item_196 (x := nI 0) rfl ?_
            refine Z.iload B dX12_item_197 (x := nI k) rfl ?_
            refine Z.callVI (σ := (mS σ (ps T (a + 5) k + 1) (tK t T (a + 5) k) w (fi k (vs T (a + 5)) r))) B (M' := mX12_high) (as := [.int (nI 0), .int (nI k)]) (st := [.ref 45]) (v := .int (mx ac 0 k)) dX12_item_199 wX12_high iX12_high sX12_high kX12_170 (hl.n (k := 45) (by decide)) (hl.k (k := 45) (by decide)) (by decide) rfl rfl (t_X12_high (w := 0) (i := k) hl ((mS_f (by decide) (by decide) (by decide)).trans hac) (by decide) (by show k < 6; omega)) rfl rfl (by decide) (by decide) (Nat.le_of_ble_eq_true rfl) (by decide) (by decide) ?_
            rcases Bool.eq_false_or_eq_true (dg (T (ps T (a + 5) k + 1))) with hd1 | hd0
            · skip
              have hbig : ¬ nv T (ps T (a + 5) k + 1) ≤ (mx ac 0 k) := fun h => hb2 ⟨h172, hd1, h⟩
              refine Z.callVI (σ := (mS σ (ps T (a + 5) k + 1) (tK t T (a + 5) k) w (fi k (vs T (a + 5)) r))) B (M' := mX12_number) (as := [.int (mx ac 0 k)]) (st := []) (v := .int (nI 0)) dX12_item_202 wX12_number iX12_number sX12_number kX12_173 (hl.n (k := 45) (by decide)) (hl.k (k := 45) (by decide)) (by decide) rfl rfl (t_X12_num_big (σ := σ) (t := (tK t T (a + 5) k)) (w := w) (r := (fi k (vs T (a + 5)) r)) hl ht (a := ps T (a + 5) k + 1) (by omega) hd1 hbig) rfl rfl (by decide) (by decide) (Nat.le_of_ble_eq_true rfl) (by decide) (by decide) ?_
              refine Z.if_neN B dX12_item_205 (tgt := 210) rfl (by omega) (fun h205 => (by omega)) (fun h205 => ?_)
              refine Z.iconst B dX12_item_208 (v := nI 0) rfl ?_
              refine Z.iret B Rt dX12_item_209 (ty := .boolean) rfl rfl (by decide) (by decide) ?_
              have hx : nbd T (ps T (a + 5) k0) = _ := (by first | exact if_pos (by rw [hke]; exact h172) | exact if_neg (by rw [hke]; exact h172))
              rw [hx, hke]
              exact ⟨rfl, _, _, _, rfl⟩
            · skip
              refine Z.callVI (σ := (mS σ (ps T (a + 5) k + 1) (tK t T (a + 5) k) w (fi k (vs T (a + 5)) r))) B (M' := mX12_number) (as := [.int (mx ac 0 k)]) (st := []) (v := .int (nI 0)) dX12_item_202 wX12_number iX12_number sX12_number kX12_173 (hl.n (k := 45) (by decide)) (hl.k (k := 45) (by decide)) (by decide) rfl rfl (t_X12_num_nd (σ := σ) (t := (tK t T (a + 5) k)) (w := w) (r := (fi k (vs T (a + 5)) r)) hl ht (a := ps T (a + 5) k + 1) (by omega) hd0) rfl rfl (by decide) (by decide) (Nat.le_of_ble_eq_true rfl) (by decide) (by decide) ?_
              refine Z.if_neN B dX12_item_205 (tgt := 210) rfl (by omega) (fun h205 => (by omega)) (fun h205 => ?_)
              refine Z.iconst B dX12_item_208 (v := nI 0) rfl ?_
              refine Z.iret B Rt dX12_item_209 (ty := .boolean) rfl rfl (by decide) (by decide) ?_
              have hx : nbd T (ps T (a + 5) k0) = _ := (by first | exact if_pos (by rw [hke]; exact h172) | exact if_neg (by rw [hke]; exact h172))
              rw [hx, hke]
              exact ⟨rfl, _, _, _, rfl⟩
          · skip
            refine Z.aload_n B dX12_item_175 (v := .ref 45) rfl rfl ?_
            refine Z.aload_n B dX12_item_176 (v := .ref 45) rfl rfl ?_
            refine Z.getI (σ := (mS σ (ps T (a + 5) k) (tK t T (a + 5) k) w (fi k (vs T (a + 5)) r))) B fX12_141_12 dX12_item_177 (hl.n (k := 45) (by decide)) (hl.k (k := 45) (by decide)) (by decide) (v := nI (ps T (a + 5) k)) mS_a ?_
            refine Z.callVI (σ := (mS σ (ps T (a + 5) k) (tK t T (a + 5) k) w (fi k (vs T (a + 5)) r))) B (M' := mX12_wrong) (as := [.int (nI (ps T (a + 5) k))]) (st := []) (v := .int (nI 0)) dX12_item_180 wX12_wrong iX12_wrong sX12_wrong kX12_154 (hl.n (k := 45) (by decide)) (hl.k (k := 45) (by decide)) (by decide) rfl rfl (t_X12_wrong (σ := σ) (t := (tK t T (a + 5) k)) (w := w) (r := (fi k (vs T (a + 5)) r)) hl ht (a := (ps T (a + 5) k)) (by omega) (p := nI (ps T (a + 5) k))) rfl rfl (by decide) (by decide) (Nat.le_of_ble_eq_true rfl) (by decide) (by decide) ?_
            refine Z.iret B Rt dX12_item_183 (ty := .boolean) rfl rfl (by decide) (by decide) ?_
            have hx : nbd T (ps T (a + 5) k0) = _ := (by first | exact if_pos (by rw [hke]; exact h172) | exact if_neg (by rw [hke]; exact h172))
            rw [hx, hke]
            exact ⟨rfl, _, _, _, rfl⟩
  have h0 := hloop133 0 (Nat.zero_le _)
  rw [fi_0] at h0
  exact h0

theorem it_M_d0 {σ : zSt} {t w : Int32} {r : Nat → Int32} (hl : Lay σ) {s m : Nat} {T : Nat → Int32} (ht : zTm σ s m T) {a : Nat} (ha : a < 2 ^ 29) {n ac y : Nat} (H : zMd σ n ac y) (hw : wd T a = 0) (hs : T (a + 5) = nI 32) (hr : n < 8) (hall : ∀ k, k < 6 → nok T (ps T (a + 5) k) (mx ac 0 k))  : Dt mX12_item [.ref 45] (mS σ a t w r) (some (.int (nI 1))) (zuX (zuX (mS σ (ps T (a + 5) 6) (vs T (a + 5) 5) w (fi 6 (vs T (a + 5)) r)) 47 (va_cpy (zX (mS σ (ps T (a + 5) 6) (vs T (a + 5) 5) w (fi 6 (vs T (a + 5)) r)) 61) (zX (mS σ (ps T (a + 5) 6) (vs T (a + 5) 5) w (fi 6 (vs T (a + 5)) r)) 47) 0 (n * 6) 6)) 45 (upd (zX (mS σ (ps T (a + 5) 6) (vs T (a + 5) 5) w (fi 6 (vs T (a + 5)) r)) 45) 0 (nI (n + 1)))) := by
  obtain ⟨⟨hs8, hm160⟩, ⟨hbs, hen⟩, hT, hwd⟩ := id ht
  obtain ⟨-, hn, hn8, hac, hac4, hy, hy8⟩ := id H
  obtain ⟨hv, ho⟩ := wd_al (by decide) hw
  have hwl : wl 0 = 5 := rfl
  rw [hwl] at hv
  refine Dt.of (by decide) (Nat.le_of_ble_eq_true rfl) fun κ B Rt => ?_
  show Z κ 0 0 (mS σ a t w r) 0 [(0, .ref 45)] []
  refine Z.iconst B dX12_item_0 (v := nI 0) rfl ?_
  refine Z.istore_n B dX12_item_1 (by decide) (L' := [(0, .ref 45), (1, .int (nI 0))]) rfl ?_
  refine Z.iload_n B dX12_item_2 (x := nI 0) rfl ?_
  refine Z.iconst B dX12_item_3 (v := nI 4) rfl ?_
  refine Z.icmp_geN B dX12_item_4 (tgt := 38) rfl (by omega) (by omega) (fun h4 => by exfalso; first | omega | contradiction | simp_all) (fun h4 => ?_)
  refine Z.aload_n B dX12_item_7 (v := .ref 45) rfl rfl ?_
  refine Z.iload_n B dX12_item_8 (x := nI 0) rfl ?_
  refine Z.callVI (σ := (mS σ a t w r)) B (M' := mX12_isWordAt) (as := [.int (nI 0)]) (st := []) (v := .int (nI 1)) dX12_item_9 wX12_isWordAt iX12_isWordAt sX12_isWordAt kX12_160 (hl.n (k := 45) (by decide)) (hl.k (k := 45) (by decide)) (by decide) rfl rfl (t_X12_isW_0_1 (σ := σ) (t := t) (w := w) (r := r) hl ht (by omega) hv) rfl rfl (by decide) (by decide) (Nat.le_of_ble_eq_true rfl) (by decide) (by decide) ?_
  refine Z.if_eqN B dX12_item_12 (tgt := 32) rfl (by omega) (fun h12 => by exfalso; first | omega | contradiction | simp_all) (fun h12 => ?_)
  refine Z.aload_n B dX12_item_15 (v := .ref 45) rfl rfl ?_
  refine Z.iload_n B dX12_item_16 (x := nI 0) rfl ?_
  refine Z.callVI (σ := (mS σ a t w r)) B (M' := mX12_isFull) (as := [.int (nI 0)]) (st := []) (v := .int (nI 0)) dX12_item_17 wX12_isFull iX12_isFull sX12_isFull kX12_163 (hl.n (k := 45) (by decide)) (hl.k (k := 45) (by decide)) (by decide) rfl rfl (t_X12_isFull_0_0 (σ := mS σ a t w r) hl ((mS_f (by decide) (by decide) (by decide)).trans hn) hn8 ((mS_f (by decide) (by decide) (by decide)).trans hac) hac4 ((mS_f (by decide) (by decide) (by decide)).trans hy) hy8 hr) rfl rfl (by decide) (by decide) (Nat.le_of_ble_eq_true rfl) (by decide) (by decide) ?_
  refine Z.if_eqN B dX12_item_20 (tgt := 32) rfl (by omega) (fun h20 => ?_) (fun h20 => by exfalso; first | omega | contradiction | simp_all)
  refine Z.iinc B dX12_item_32 (by decide) (x := nI 0) rfl (v := nI 1) (nI_inc 0) (L' := [(0, .ref 45), (1, .int (nI 1))]) rfl ?_
  refine Z.goto B dX12_item_35 (tgt := 2) rfl ?_
  refine Z.iload_n B dX12_item_2 (x := nI 1) rfl ?_
  refine Z.iconst B dX12_item_3 (v := nI 4) rfl ?_
  refine Z.icmp_geN B dX12_item_4 (tgt := 38) rfl (by omega) (by omega) (fun h4 => by exfalso; first | omega | contradiction | simp_all) (fun h4 => ?_)
  refine Z.aload_n B dX12_item_7 (v := .ref 45) rfl rfl ?_
  refine Z.iload_n B dX12_item_8 (x := nI 1) rfl ?_
  refine Z.callVI (σ := (mS σ a t w r)) B (M' := mX12_isWordAt) (as := [.int (nI 1)]) (st := []) (v := .int (nI 0)) dX12_item_9 wX12_isWordAt iX12_isWordAt sX12_isWordAt kX12_160 (hl.n (k := 45) (by decide)) (hl.k (k := 45) (by decide)) (by decide) rfl rfl (t_X12_isW_1_0 (σ := σ) (t := t) (w := w) (r := r) hl ht (by omega) (by have := ho 1 (by decide) (by decide); omega)) rfl rfl (by decide) (by decide) (Nat.le_of_ble_eq_true rfl) (by decide) (by decide) ?_
  refine Z.if_eqN B dX12_item_12 (tgt := 32) rfl (by omega) (fun h12 => ?_) (fun h12 => by exfalso; first | omega | contradiction | simp_all)
  refine Z.iinc B dX12_item_32 (by decide) (x := nI 1) rfl (v := nI 2) (nI_inc 1) (L' := [(0, .ref 45), (1, .int (nI 2))]) rfl ?_
  refine Z.goto B dX12_item_35 (tgt := 2) rfl ?_
  refine Z.iload_n B dX12_item_2 (x := nI 2) rfl ?_
  refine Z.iconst B dX12_item_3 (v := nI 4) rfl ?_
  refine Z.icmp_geN B dX12_item_4 (tgt := 38) rfl (by omega) (by omega) (fun h4 => by exfalso; first | omega | contradiction | simp_all) (fun h4 => ?_)
  refine Z.aload_n B dX12_item_7 (v := .ref 45) rfl rfl ?_
  refine Z.iload_n B dX12_item_8 (x := nI 2) rfl ?_
  refine Z.callVI (σ := (mS σ a t w r)) B (M' := mX12_isWordAt) (as := [.int (nI 2)]) (st := []) (v := .int (nI 0)) dX12_item_9 wX12_isWordAt iX12_isWordAt sX12_isWordAt kX12_160 (hl.n (k := 45) (by decide)) (hl.k (k := 45) (by decide)) (by decide) rfl rfl (t_X12_isW_2_0 (σ := σ) (t := t) (w := w) (r := r) hl ht (by omega) (by have := ho 2 (by decide) (by decide); omega)) rfl rfl (by decide) (by decide) (Nat.le_of_ble_eq_true rfl) (by decide) (by decide) ?_
  refine Z.if_eqN B dX12_item_12 (tgt := 32) rfl (by omega) (fun h12 => ?_) (fun h12 => by exfalso; first | omega | contradiction | simp_all)
  refine Z.iinc B dX12_item_32 (by decide) (x := nI 2) rfl (v := nI 3) (nI_inc 2) (L' := [(0, .ref 45), (1, .int (nI 3))]) rfl ?_
  refine Z.goto B dX12_item_35 (tgt := 2) rfl ?_
  refine Z.iload_n B dX12_item_2 (x := nI 3) rfl ?_
  refine Z.iconst B dX12_item_3 (v := nI 4) rfl ?_
  refine Z.icmp_geN B dX12_item_4 (tgt := 38) rfl (by omega) (by omega) (fun h4 => by exfalso; first | omega | contradiction | simp_all) (fun h4 => ?_)
  refine Z.aload_n B dX12_item_7 (v := .ref 45) rfl rfl ?_
  refine Z.iload_n B dX12_item_8 (x := nI 3) rfl ?_
  refine Z.callVI (σ := (mS σ a t w r)) B (M' := mX12_isWordAt) (as := [.int (nI 3)]) (st := []) (v := .int (nI 0)) dX12_item_9 wX12_isWordAt iX12_isWordAt sX12_isWordAt kX12_160 (hl.n (k := 45) (by decide)) (hl.k (k := 45) (by decide)) (by decide) rfl rfl (t_X12_isW_3_0 (σ := σ) (t := t) (w := w) (r := r) hl ht (by omega) (by have := ho 3 (by decide) (by decide); omega)) rfl rfl (by decide) (by decide) (Nat.le_of_ble_eq_true rfl) (by decide) (by decide) ?_
  refine Z.if_eqN B dX12_item_12 (tgt := 32) rfl (by omega) (fun h12 => ?_) (fun h12 => by exfalso; first | omega | contradiction | simp_all)
  refine Z.iinc B dX12_item_32 (by decide) (x := nI 3) rfl (v := nI 4) (nI_inc 3) (L' := [(0, .ref 45), (1, .int (nI 4))]) rfl ?_
  refine Z.goto B dX12_item_35 (tgt := 2) rfl ?_
  refine Z.iload_n B dX12_item_2 (x := nI 4) rfl ?_
  refine Z.iconst B dX12_item_3 (v := nI 4) rfl ?_
  refine Z.icmp_geN B dX12_item_4 (tgt := 38) rfl (by omega) (by omega) (fun h4 => ?_) (fun h4 => by exfalso; first | omega | contradiction | simp_all)
  refine Z.aload_n B dX12_item_38 (v := .ref 45) rfl rfl ?_
  refine Z.getI (σ := (mS σ a t w r)) B fX12_141_12 dX12_item_39 (hl.n (k := 45) (by decide)) (hl.k (k := 45) (by decide)) (by decide) (v := nI a) mS_a ?_
  refine Z.istore_n B dX12_item_42 (by decide) (L' := [(0, .ref 45), (1, .int (nI a))]) rfl ?_
  refine Z.aload_n B dX12_item_43 (v := .ref 45) rfl rfl ?_
  refine Z.callVI (σ := (mS σ a t w r)) B (M' := mX12_word) (as := []) (st := []) (v := .int (nI 0)) dX12_item_44 wX12_word iX12_word sX12_word kX12_166 (hl.n (k := 45) (by decide)) (hl.k (k := 45) (by decide)) (by decide) rfl rfl (wdM_0 (σ := σ) (t := t) (w := w) (r := r) hl ht (by omega) hw hs) rfl rfl (by decide) (by decide) (Nat.le_of_ble_eq_true rfl) (by decide) (by decide) ?_
  refine Z.istore_n B dX12_item_47 (by decide) (L' := [(0, .ref 45), (1, .int (nI a)), (2, .int (nI 0))]) rfl ?_
  refine Z.iload_n B dX12_item_48 (x := nI 0) rfl ?_
  refine Z.iconst B dX12_item_49 (v := (-1)) rfl ?_
  refine Z.icmp_ne B dX12_item_50 (tgt := 55) rfl (fun h50 => ?_) (fun h50 => (by exfalso; revert h50; decide))
  refine Z.iload_n B dX12_item_55 (x := nI 0) rfl ?_
  refine Z.if_neN B dX12_item_56 (tgt := 68) rfl (by omega) (fun h56 => by exfalso; first | omega | contradiction | simp_all) (fun h56 => ?_)
  refine Z.aload_n B dX12_item_59 (v := .ref 45) rfl rfl ?_
  refine Z.getI (σ := (mS σ (a + 5 + 1) t w r)) B fX12_81_12 dX12_item_60 (hl.n (k := 45) (by decide)) (hl.k (k := 45) (by decide)) (by decide) (v := nI n) ((mS_f (by decide) (by decide) (by decide)).trans hn) ?_
  refine Z.bipush B dX12_item_63 (v := nI 8) rfl ?_
  refine Z.icmp_eqN B dX12_item_65 (tgt := 95) rfl (by omega) (by omega) (fun h65 => (by omega)) (fun h65 => ?_)
  refine Z.iload_n B dX12_item_68 (x := nI 0) rfl ?_
  refine Z.iconst B dX12_item_69 (v := nI 1) rfl ?_
  refine Z.icmp_neN B dX12_item_70 (tgt := 81) rfl (by omega) (by omega) (fun h70 => ?_) (fun h70 => by exfalso; first | omega | contradiction | simp_all)
  refine Z.iload_n B dX12_item_81 (x := nI 0) rfl ?_
  refine Z.iconst B dX12_item_82 (v := nI 2) rfl ?_
  refine Z.icmp_neN B dX12_item_83 (tgt := 101) rfl (by omega) (by omega) (fun h83 => ?_) (fun h83 => by exfalso; first | omega | contradiction | simp_all)
  refine Z.iload_n B dX12_item_101 (x := nI 0) rfl ?_
  refine Z.if_neN B dX12_item_102 (tgt := 110) rfl (by omega) (fun h102 => by exfalso; first | omega | contradiction | simp_all) (fun h102 => ?_)
  refine Z.bipush B dX12_item_105 (v := nI 6) rfl ?_
  refine Z.goto B dX12_item_107 (tgt := 129) rfl ?_
  refine Z.istore_n B dX12_item_129 (by decide) (L' := [(0, .ref 45), (1, .int (nI a)), (2, .int (nI 0)), (3, .int (nI 6))]) rfl ?_
  refine Z.iconst B dX12_item_130 (v := nI 0) rfl ?_
  refine Z.istore B dX12_item_131 (by decide) (L' := [(0, .ref 45), (1, .int (nI a)), (2, .int (nI 0)), (3, .int (nI 6)), (4, .int (nI 0))]) rfl ?_
  have hloop133 : ∀ k : Nat, k ≤ 6 → Z κ 0 0 (mS σ (atK T (a + 5) k) (tK t T (a + 5) k) w (fi k (vs T (a + 5)) r)) 133 [(0, .ref 45), (1, .int (nI a)), (2, .int (nI 0)), (3, .int (nI 6)), (4, .int (nI k))] [] := by
    refine z_loop (fun k => 6 - k) (fun k ih hkc => ?_)
    have hps := ps_le (T := T) (p := a + 5) k
    refine Z.iload B dX12_item_133 (x := nI k) rfl ?_
    refine Z.iload_n B dX12_item_135 (x := nI 6) rfl ?_
    refine Z.icmp_geN B dX12_item_136 (tgt := 227) rfl (by omega) (by omega) (fun h136 => ?_) (fun h136 => ?_)
    · skip
      obtain rfl : k = 6 := by omega
      refine Z.eqσ (τ := (mS σ (ps T (a + 5) 6) (vs T (a + 5) 5) w (fi 6 (vs T (a + 5)) r))) rfl ?_
      refine Z.iload_n B dX12_item_227 (x := nI 0) rfl ?_
      refine Z.tabIn B dX12_item_228 (by decide) (by decide) (off := 28) (by decide) (tgt := 256) rfl ?_
      refine Z.iconst B dX12_item_256 (v := nI 0) rfl ?_
      refine Z.istore B dX12_item_257 (by decide) (L' := [(0, .ref 45), (1, .int (nI a)), (2, .int (nI 0)), (3, .int (nI 6)), (4, .int (nI 0))]) rfl ?_
      have hloop259 : ∀ i : Nat, i ≤ 6 → Z κ 0 0 (zuX (mS σ (ps T (a + 5) 6) (vs T (a + 5) 5) w (fi 6 (vs T (a + 5)) r)) 47 (va_cpy (zX (mS σ (ps T (a + 5) 6) (vs T (a + 5) 5) w (fi 6 (vs T (a + 5)) r)) 61) (zX (mS σ (ps T (a + 5) 6) (vs T (a + 5) 5) w (fi 6 (vs T (a + 5)) r)) 47) 0 (n * 6) i)) 259 [(0, .ref 45), (1, .int (nI a)), (2, .int (nI 0)), (3, .int (nI 6)), (4, .int (nI i))] [] := by
        refine z_loop (fun i => 6 - i) (fun i ih hi6 => ?_)
        refine Z.iload B dX12_item_259 (x := nI i) rfl ?_
        refine Z.bipush B dX12_item_261 (v := nI 6) rfl ?_
        refine Z.icmp_geN B dX12_item_263 (tgt := 294) rfl (by omega) (by omega) (fun h263 => ?_) (fun h263 => ?_)
        · skip
          obtain rfl : i = 6 := by omega
          refine Z.aload_n B dX12_item_294 (v := .ref 45) rfl rfl ?_
          refine Z.dup B dX12_item_295 rfl ?_
          refine Z.getI (σ := (zuX (mS σ (ps T (a + 5) 6) (vs T (a + 5) 5) w (fi 6 (vs T (a + 5)) r)) 47 (va_cpy (zX (mS σ (ps T (a + 5) 6) (vs T (a + 5) 5) w (fi 6 (vs T (a + 5)) r)) 61) (zX (mS σ (ps T (a + 5) 6) (vs T (a + 5) 5) w (fi 6 (vs T (a + 5)) r)) 47) 0 (n * 6) 6))) B fX12_81_12 dX12_item_296 (hl.n (k := 45) (by decide)) (hl.k (k := 45) (by decide)) (by decide) (v := nI n) ((mS_f (by decide) (by decide) (by decide)).trans hn) ?_
          refine Z.iconst B dX12_item_299 (v := nI 1) rfl ?_
          refine Z.iaddN B dX12_item_300 (a := n) (b := 1) ?_
          refine Z.putI (σ := (zuX (mS σ (ps T (a + 5) 6) (vs T (a + 5) 5) w (fi 6 (vs T (a + 5)) r)) 47 (va_cpy (zX (mS σ (ps T (a + 5) 6) (vs T (a + 5) 5) w (fi 6 (vs T (a + 5)) r)) 61) (zX (mS σ (ps T (a + 5) 6) (vs T (a + 5) 5) w (fi 6 (vs T (a + 5)) r)) 47) 0 (n * 6) 6))) B fX12_81_12 (ty := .int) ⟨_, _, _, rfl, rfl, by decide +kernel⟩ dX12_item_301 (hl.n (k := 45) (by decide)) (hl.k (k := 45) (by decide)) (by decide) rfl rfl (τ := (zuX (zuX (mS σ (ps T (a + 5) 6) (vs T (a + 5) 5) w (fi 6 (vs T (a + 5)) r)) 47 (va_cpy (zX (mS σ (ps T (a + 5) 6) (vs T (a + 5) 5) w (fi 6 (vs T (a + 5)) r)) 61) (zX (mS σ (ps T (a + 5) 6) (vs T (a + 5) 5) w (fi 6 (vs T (a + 5)) r)) 47) 0 (n * 6) 6)) 45 (upd (zX (mS σ (ps T (a + 5) 6) (vs T (a + 5) 5) w (fi 6 (vs T (a + 5)) r)) 45) 0 (nI (n + 1))))) rfl ?_
          refine Z.goto B dX12_item_304 (tgt := 364) rfl ?_
          refine Z.iconst B dX12_item_364 (v := nI 1) rfl ?_
          refine Z.iret B Rt dX12_item_365 (ty := .boolean) rfl rfl (by decide) (by decide) ?_
          exact ⟨rfl, rfl⟩
        · skip
          refine Z.aload_n B dX12_item_266 (v := .ref 45) rfl rfl ?_
          refine Z.getR (σ := (zuX (mS σ (ps T (a + 5) 6) (vs T (a + 5) 5) w (fi 6 (vs T (a + 5)) r)) 47 (va_cpy (zX (mS σ (ps T (a + 5) 6) (vs T (a + 5) 5) w (fi 6 (vs T (a + 5)) r)) 61) (zX (mS σ (ps T (a + 5) 6) (vs T (a + 5) 5) w (fi 6 (vs T (a + 5)) r)) 47) 0 (n * 6) i))) B fX12_20_12 dX12_item_267 (hl.n (k := 45) (by decide)) (hl.k (k := 45) (by decide)) (by decide) (j := 47) (hl.r (k := 45) (f := 6) (by decide) (by decide)) ?_
          refine Z.bipush B dX12_item_270 (v := nI 6) rfl ?_
          refine Z.aload_n B dX12_item_272 (v := .ref 45) rfl rfl ?_
          refine Z.getI (σ := (zuX (mS σ (ps T (a + 5) 6) (vs T (a + 5) 5) w (fi 6 (vs T (a + 5)) r)) 47 (va_cpy (zX (mS σ (ps T (a + 5) 6) (vs T (a + 5) 5) w (fi 6 (vs T (a + 5)) r)) 61) (zX (mS σ (ps T (a + 5) 6) (vs T (a + 5) 5) w (fi 6 (vs T (a + 5)) r)) 47) 0 (n * 6) i))) B fX12_81_12 dX12_item_273 (hl.n (k := 45) (by decide)) (hl.k (k := 45) (by decide)) (by decide) (v := nI n) ((mS_f (by decide) (by decide) (by decide)).trans hn) ?_
          refine Z.imulNc B dX12_item_276 (a := 6) (b := n) ?_
          refine Z.iload B dX12_item_277 (x := nI i) rfl ?_
          refine Z.iaddN B dX12_item_279 (a := n * 6) (b := i) ?_
          refine Z.aload_n B dX12_item_280 (v := .ref 45) rfl rfl ?_
          refine Z.getR (σ := (zuX (mS σ (ps T (a + 5) 6) (vs T (a + 5) 5) w (fi 6 (vs T (a + 5)) r)) 47 (va_cpy (zX (mS σ (ps T (a + 5) 6) (vs T (a + 5) 5) w (fi 6 (vs T (a + 5)) r)) 61) (zX (mS σ (ps T (a + 5) 6) (vs T (a + 5) 5) w (fi 6 (vs T (a + 5)) r)) 47) 0 (n * 6) i))) B fX12_63_12 dX12_item_281 (hl.n (k := 45) (by decide)) (hl.k (k := 45) (by decide)) (by decide) (j := 61) (hl.r (k := 45) (f := 20) (by decide) (by decide)) ?_
          refine Z.iload B dX12_item_284 (x := nI i) rfl ?_
          refine Z.iald (σ := (zuX (mS σ (ps T (a + 5) 6) (vs T (a + 5) 5) w (fi 6 (vs T (a + 5)) r)) 47 (va_cpy (zX (mS σ (ps T (a + 5) 6) (vs T (a + 5) 5) w (fi 6 (vs T (a + 5)) r)) 61) (zX (mS σ (ps T (a + 5) 6) (vs T (a + 5) 5) w (fi 6 (vs T (a + 5)) r)) 47) 0 (n * 6) i))) B dX12_item_286 (n := 6) (hl.n (k := 61) (by decide)) (hl.k (k := 61) (by decide)) (hl.l (k := 61) (by decide)) (by decide) (j := i) rfl (by omega) (v := (zX (mS σ (ps T (a + 5) 6) (vs T (a + 5) 5) w (fi 6 (vs T (a + 5)) r)) 61 i)) rfl ?_
          refine Z.iast (σ := (zuX (mS σ (ps T (a + 5) 6) (vs T (a + 5) 5) w (fi 6 (vs T (a + 5)) r)) 47 (va_cpy (zX (mS σ (ps T (a + 5) 6) (vs T (a + 5) 5) w (fi 6 (vs T (a + 5)) r)) 61) (zX (mS σ (ps T (a + 5) 6) (vs T (a + 5) 5) w (fi 6 (vs T (a + 5)) r)) 47) 0 (n * 6) i))) B dX12_item_287 (n := 48) (hl.n (k := 47) (by decide)) (hl.k (k := 47) (by decide)) (hl.l (k := 47) (by decide)) (by decide) (j := (n * 6) + i) rfl (by omega) (τ := (zuX (mS σ (ps T (a + 5) 6) (vs T (a + 5) 5) w (fi 6 (vs T (a + 5)) r)) 47 (va_cpy (zX (mS σ (ps T (a + 5) 6) (vs T (a + 5) 5) w (fi 6 (vs T (a + 5)) r)) 61) (zX (mS σ (ps T (a + 5) 6) (vs T (a + 5) 5) w (fi 6 (vs T (a + 5)) r)) 47) 0 (n * 6) (i + 1)))) (by rw [zX_self, zuX_uX, cpy_s (by rw [Nat.zero_add])]) ?_
          refine Z.iincN B dX12_item_288 (by decide) (a := i) rfl (L' := [(0, .ref 45), (1, .int (nI a)), (2, .int (nI 0)), (3, .int (nI 6)), (4, .int (nI (i + 1)))]) rfl ?_
          refine Z.goto B dX12_item_291 (tgt := 259) rfl ?_
          exact ih (i + 1) (by omega) (by omega)
      have h0 := hloop259 0 (Nat.zero_le _)
      rw [cpy_0, zuX_id] at h0
      exact h0
    · skip
      have hk := hall k (by omega)
      refine Z.iload B dX12_item_139 (x := nI k) rfl ?_
      refine Z.if_leN B dX12_item_141 (tgt := 194) rfl (by omega) (fun h141 => ?_) (fun h141 => ?_)
      · skip
        refine Z.eqσ (τ := (mS σ (ps T (a + 5) k + 1) (tK t T (a + 5) k) w (fi k (vs T (a + 5)) r))) (by rw [atK_0 h141]) ?_
        refine Z.aload_n B dX12_item_194 (v := .ref 45) rfl rfl ?_
        refine Z.aload_n B dX12_item_195 (v := .ref 45) rfl rfl ?_
        refine Z.iload_n B dX12_item_196 (x := nI 0) rfl ?_
        refine Z.iload B dX12_item_197 (x := nI k) rfl ?_
        refine Z.callVI (σ := (mS σ (ps T (a + 5) k + 1) (tK t T (a + 5) k) w (fi k (vs T (a + 5)) r))) B (M' := mX12_high) (as := [.int (nI 0), .int (nI k)]) (st := [.ref 45]) (v := .int (mx ac 0 k)) dX12_item_199 wX12_high iX12_high sX12_high kX12_170 (hl.n (k := 45) (by decide)) (hl.k (k := 45) (by decide)) (by decide) rfl rfl (t_X12_high (w := 0) (i := k) hl ((mS_f (by decide) (by decide) (by decide)).trans hac) (by decide) (by show k < 6; omega)) rfl rfl (by decide) (by decide) (Nat.le_of_ble_eq_true rfl) (by decide) (by decide) ?_
        refine Z.callVI (σ := (mS σ (ps T (a + 5) k + 1) (tK t T (a + 5) k) w (fi k (vs T (a + 5)) r))) B (M' := mX12_number) (as := [.int (mx ac 0 k)]) (st := []) (v := .int (nI 1)) dX12_item_202 wX12_number iX12_number sX12_number kX12_173 (hl.n (k := 45) (by decide)) (hl.k (k := 45) (by decide)) (by decide) rfl rfl (t_X12_num_ok (σ := σ) (t := (tK t T (a + 5) k)) (w := w) (r := (fi k (vs T (a + 5)) r)) hl ht (a := ps T (a + 5) k + 1) (by omega) hk.2.1 hk.2.2) rfl rfl (by decide) (by decide) (Nat.le_of_ble_eq_true rfl) (by decide) (by decide) ?_
        refine Z.eqσ (τ := (mS σ (ps T (a + 5) (k + 1)) (vs T (a + 5) k) w (fi k (vs T (a + 5)) r))) (congrArg (fun q => mS σ q (vs T (a + 5) k) w (fi k (vs T (a + 5)) r)) (ps_ok hk).symm) ?_
        refine Z.if_neN B dX12_item_205 (tgt := 210) rfl (by omega) (fun h205 => ?_) (fun h205 => (by omega))
        refine Z.aload_n B dX12_item_210 (v := .ref 45) rfl rfl ?_
        refine Z.getR (σ := (mS σ (ps T (a + 5) (k + 1)) (vs T (a + 5) k) w (fi k (vs T (a + 5)) r))) B fX12_63_12 dX12_item_211 (hl.n (k := 45) (by decide)) (hl.k (k := 45) (by decide)) (by decide) (j := 61) (hl.r (k := 45) (f := 20) (by decide) (by decide)) ?_
        refine Z.iload B dX12_item_214 (x := nI k) rfl ?_
        refine Z.aload_n B dX12_item_216 (v := .ref 45) rfl rfl ?_
        refine Z.getI (σ := (mS σ (ps T (a + 5) (k + 1)) (vs T (a + 5) k) w (fi k (vs T (a + 5)) r))) B fX12_157_12 dX12_item_217 (hl.n (k := 45) (by decide)) (hl.k (k := 45) (by decide)) (by decide) (v := (vs T (a + 5) k)) mS_t ?_
        refine Z.iast (σ := (mS σ (ps T (a + 5) (k + 1)) (vs T (a + 5) k) w (fi k (vs T (a + 5)) r))) B dX12_item_220 (n := 6) (hl.n (k := 61) (by decide)) (hl.k (k := 61) (by decide)) (hl.l (k := 61) (by decide)) (by decide) (j := k) rfl (by omega) (τ := (zuX (mS σ (ps T (a + 5) (k + 1)) (vs T (a + 5) k) w (fi k (vs T (a + 5)) r)) 61 (upd (zX (mS σ (ps T (a + 5) (k + 1)) (vs T (a + 5) k) w (fi k (vs T (a + 5)) r)) 61) k (vs T (a + 5) k)))) rfl ?_
        refine Z.eqσ (τ := (mS σ (ps T (a + 5) (k + 1)) (vs T (a + 5) k) w (fi (k + 1) (vs T (a + 5)) r))) (by rw [mS_r, fi_s (f := vs T (a + 5)) rfl]; exact mS_ur) ?_
        refine Z.iincN B dX12_item_221 (by decide) (a := k) rfl (L' := [(0, .ref 45), (1, .int (nI a)), (2, .int (nI 0)), (3, .int (nI 6)), (4, .int (nI (k + 1)))]) rfl ?_
        refine Z.goto B dX12_item_224 (tgt := 133) rfl ?_
        exact ih (k + 1) (by omega) (by omega)
      · skip
        have h141 := h141
        refine Z.eqσ (τ := (mS σ (ps T (a + 5) k) (tK t T (a + 5) k) w (fi k (vs T (a + 5)) r))) (by rw [atK_s h141]) ?_
        refine Z.aload_n B dX12_item_144 (v := .ref 45) rfl rfl ?_
        refine Z.getI (σ := (mS σ (ps T (a + 5) k) (tK t T (a + 5) k) w (fi k (vs T (a + 5)) r))) B fX12_141_12 dX12_item_145 (hl.n (k := 45) (by decide)) (hl.k (k := 45) (by decide)) (by decide) (v := nI (ps T (a + 5) k)) mS_a ?_
        refine Z.aload_n B dX12_item_148 (v := .ref 45) rfl rfl ?_
        refine Z.getI (σ := (mS σ (ps T (a + 5) k) (tK t T (a + 5) k) w (fi k (vs T (a + 5)) r))) B fX12_144_12 dX12_item_149 (hl.n (k := 45) (by decide)) (hl.k (k := 45) (by decide)) (by decide) (v := nI m) ((mS_f (by decide) (by decide) (by decide)).trans hen) ?_
        refine Z.icmp_geN B dX12_item_152 (tgt := 175) rfl (by omega) (by omega) (fun h152 => (by have := in_m ht (c := 31) hk.1 (by decide); omega)) (fun h152 => ?_)
        refine Z.aload_n B dX12_item_155 (v := .ref 45) rfl rfl ?_
        refine Z.getR (σ := (mS σ (ps T (a + 5) k) (tK t T (a + 5) k) w (fi k (vs T (a + 5)) r))) B fX12_53_12 dX12_item_156 (hl.n (k := 45) (by decide)) (hl.k (k := 45) (by decide)) (by decide) (j := 58) (hl.r (k := 45) (f := 17) (by decide) (by decide)) ?_
        refine Z.aload_n B dX12_item_159 (v := .ref 45) rfl rfl ?_
        refine Z.getI (σ := (mS σ (ps T (a + 5) k) (tK t T (a + 5) k) w (fi k (vs T (a + 5)) r))) B fX12_147_12 dX12_item_160 (hl.n (k := 45) (by decide)) (hl.k (k := 45) (by decide)) (by decide) (v := nI (s * 160)) ((mS_f (by decide) (by decide) (by decide)).trans hbs) ?_
        refine Z.aload_n B dX12_item_163 (v := .ref 45) rfl rfl ?_
        refine Z.getI (σ := (mS σ (ps T (a + 5) k) (tK t T (a + 5) k) w (fi k (vs T (a + 5)) r))) B fX12_141_12 dX12_item_164 (hl.n (k := 45) (by decide)) (hl.k (k := 45) (by decide)) (by decide) (v := nI (ps T (a + 5) k)) mS_a ?_
        refine Z.iaddN B dX12_item_167 (a := s * 160) (b := ps T (a + 5) k) ?_
        refine Z.lald (σ := (mS σ (ps T (a + 5) k) (tK t T (a + 5) k) w (fi k (vs T (a + 5)) r))) B dX12_item_168 (n := 1280) (hl.n (k := 58) (by decide)) (hl.k (k := 58) (by decide)) (hl.l (k := 58) (by decide)) (by decide) (j := (s * 160) + (ps T (a + 5) k)) rfl (by have := in_m ht (c := 31) hk.1 (by decide); omega) (v := (zY (mS σ (ps T (a + 5) k) (tK t T (a + 5) k) w (fi k (vs T (a + 5)) r)) 58 ((s * 160) + (ps T (a + 5) k)))) rfl ?_
        refine Z.l2i B dX12_item_169 ?_
        refine Z.eqS (st' := [.int (T (ps T (a + 5) k))]) (congrArg (fun z => Value.int z :: _) (ht.t (i := ps T (a + 5) k) (in_m ht (c := 31) hk.1 (by decide)))) ?_
        refine Z.bipush B dX12_item_170 (v := nI 32) rfl ?_
        refine Z.icmp_eq B dX12_item_172 (tgt := 184) rfl (fun h172 => ?_) (fun h172 => (absurd hk.1 h172))
        refine Z.aload_n B dX12_item_184 (v := .ref 45) rfl rfl ?_
        refine Z.dup B dX12_item_185 rfl ?_
        refine Z.getI (σ := (mS σ (ps T (a + 5) k) (tK t T (a + 5) k) w (fi k (vs T (a + 5)) r))) B fX12_141_12 dX12_item_186 (hl.n (k := 45) (by decide)) (hl.k (k := 45) (by decide)) (by decide) (v := nI (ps T (a + 5) k)) mS_a ?_
        refine Z.iconst B dX12_item_189 (v := nI 1) rfl ?_
        refine Z.iaddN B dX12_item_190 (a := ps T (a + 5) k) (b := 1) ?_
        refine Z.putI (σ := (mS σ (ps T (a + 5) k) (tK t T (a + 5) k) w (fi k (vs T (a + 5)) r))) B fX12_141_12 (ty := .int) ⟨_, _, _, rfl, rfl, by decide +kernel⟩ dX12_item_191 (hl.n (k := 45) (by decide)) (hl.k (k := 45) (by decide)) (by decide) rfl rfl (τ := (zuX (mS σ (ps T (a + 5) k) (tK t T (a + 5) k) w (fi k (vs T (a + 5)) r)) 45 (upd (zX (mS σ (ps T (a + 5) k) (tK t T (a + 5) k) w (fi k (vs T (a + 5)) r)) 45) 22 (nI ((ps T (a + 5) k) + 1))))) rfl ?_
        refine Z.eqσ (τ := (mS σ (ps T (a + 5) k + 1) (tK t T (a + 5) k) w (fi k (vs T (a + 5)) r))) mS_ua ?_
        refine Z.aload_n B dX12_item_194 (v := .ref 45) rfl rfl ?_
        refine Z.aload_n B dX12_item_195 (v := .ref 45) rfl rfl ?_
        refine Z.iload_n B dX12_item_196 (x := nI 0) rfl ?_
        refine Z.iload B dX12_item_197 (x := nI k) rfl ?_
        refine Z.callVI (σ := (mS σ (ps T (a + 5) k + 1) (tK t T (a + 5) k) w (fi k (vs T (a + 5)) r))) B (M' := mX12_high) (as := [.int (nI 0), .int (nI k)]) (st := [.ref 45]) (v := .int (mx ac 0 k)) dX12_item_199 wX12_high iX12_high sX12_high kX12_170 (hl.n (k := 45) (by decide)) (hl.k (k := 45) (by decide)) (by decide) rfl rfl (t_X12_high (w := 0) (i := k) hl ((mS_f (by decide) (by decide) (by decide)).trans hac) (by decide) (by show k < 6; omega)) rfl rfl (by decide) (by decide) (Nat.le_of_ble_eq_true rfl) (by decide) (by decide) ?_
        refine Z.callVI (σ := (mS σ (ps T (a + 5) k + 1) (tK t T (a + 5) k) w (fi k (vs T (a + 5)) r))) B (M' := mX12_number) (as := [.int (mx ac 0 k)]) (st := []) (v := .int (nI 1)) dX12_item_202 wX12_number iX12_number sX12_number kX12_173 (hl.n (k := 45) (by decide)) (hl.k (k := 45) (by decide)) (by decide) rfl rfl (t_X12_num_ok (σ := σ) (t := (tK t T (a + 5) k)) (w := w) (r := (fi k (vs T (a + 5)) r)) hl ht (a := ps T (a + 5) k + 1) (by omega) hk.2.1 hk.2.2) rfl rfl (by decide) (by decide) (Nat.le_of_ble_eq_true rfl) (by decide) (by decide) ?_
        refine Z.eqσ (τ := (mS σ (ps T (a + 5) (k + 1)) (vs T (a + 5) k) w (fi k (vs T (a + 5)) r))) (congrArg (fun q => mS σ q (vs T (a + 5) k) w (fi k (vs T (a + 5)) r)) (ps_ok hk).symm) ?_
        refine Z.if_neN B dX12_item_205 (tgt := 210) rfl (by omega) (fun h205 => ?_) (fun h205 => (by omega))
        refine Z.aload_n B dX12_item_210 (v := .ref 45) rfl rfl ?_
        refine Z.getR (σ := (mS σ (ps T (a + 5) (k + 1)) (vs T (a + 5) k) w (fi k (vs T (a + 5)) r))) B fX12_63_12 dX12_item_211 (hl.n (k := 45) (by decide)) (hl.k (k := 45) (by decide)) (by decide) (j := 61) (hl.r (k := 45) (f := 20) (by decide) (by decide)) ?_
        refine Z.iload B dX12_item_214 (x := nI k) rfl ?_
        refine Z.aload_n B dX12_item_216 (v := .ref 45) rfl rfl ?_
        refine Z.getI (σ := (mS σ (ps T (a + 5) (k + 1)) (vs T (a + 5) k) w (fi k (vs T (a + 5)) r))) B fX12_157_12 dX12_item_217 (hl.n (k := 45) (by decide)) (hl.k (k := 45) (by decide)) (by decide) (v := (vs T (a + 5) k)) mS_t ?_
        refine Z.iast (σ := (mS σ (ps T (a + 5) (k + 1)) (vs T (a + 5) k) w (fi k (vs T (a + 5)) r))) B dX12_item_220 (n := 6) (hl.n (k := 61) (by decide)) (hl.k (k := 61) (by decide)) (hl.l (k := 61) (by decide)) (by decide) (j := k) rfl (by omega) (τ := (zuX (mS σ (ps T (a + 5) (k + 1)) (vs T (a + 5) k) w (fi k (vs T (a + 5)) r)) 61 (upd (zX (mS σ (ps T (a + 5) (k + 1)) (vs T (a + 5) k) w (fi k (vs T (a + 5)) r)) 61) k (vs T (a + 5) k)))) rfl ?_
        refine Z.eqσ (τ := (mS σ (ps T (a + 5) (k + 1)) (vs T (a + 5) k) w (fi (k + 1) (vs T (a + 5)) r))) (by rw [mS_r, fi_s (f := vs T (a + 5)) rfl]; exact mS_ur) ?_
        refine Z.iincN B dX12_item_221 (by decide) (a := k) rfl (L' := [(0, .ref 45), (1, .int (nI a)), (2, .int (nI 0)), (3, .int (nI 6)), (4, .int (nI (k + 1)))]) rfl ?_
        refine Z.goto B dX12_item_224 (tgt := 133) rfl ?_
        exact ih (k + 1) (by omega) (by omega)
  have h0 := hloop133 0 (Nat.zero_le _)
  rw [fi_0] at h0
  exact h0

theorem it_M_b1 {σ : zSt} {t w : Int32} {r : Nat → Int32} (hl : Lay σ) {s m : Nat} {T : Nat → Int32} (ht : zTm σ s m T) {a : Nat} (ha : a < 2 ^ 29) {n ac y : Nat} (H : zMd σ n ac y) (hw : wd T a = 1) (hr : ac = 4) : Dt mX12_item [.ref 45] (mS σ a t w r) (some (.int (nI 0))) (mS σ a t (nI a) r) := by
  obtain ⟨⟨hs8, hm160⟩, ⟨hbs, hen⟩, hT, hwd⟩ := id ht
  obtain ⟨-, hn, hn8, hac, hac4, hy, hy8⟩ := id H
  obtain ⟨hv, ho⟩ := wd_al (by decide) hw
  have hwl : wl 1 = 5 := rfl
  rw [hwl] at hv
  refine Dt.of (by decide) (Nat.le_of_ble_eq_true rfl) fun κ B Rt => ?_
  show Z κ 0 0 (mS σ a t w r) 0 [(0, .ref 45)] []
  refine Z.iconst B dX12_item_0 (v := nI 0) rfl ?_
  refine Z.istore_n B dX12_item_1 (by decide) (L' := [(0, .ref 45), (1, .int (nI 0))]) rfl ?_
  refine Z.iload_n B dX12_item_2 (x := nI 0) rfl ?_
  refine Z.iconst B dX12_item_3 (v := nI 4) rfl ?_
  refine Z.icmp_geN B dX12_item_4 (tgt := 38) rfl (by omega) (by omega) (fun h4 => by exfalso; first | omega | contradiction | simp_all) (fun h4 => ?_)
  refine Z.aload_n B dX12_item_7 (v := .ref 45) rfl rfl ?_
  refine Z.iload_n B dX12_item_8 (x := nI 0) rfl ?_
  refine Z.callVI (σ := (mS σ a t w r)) B (M' := mX12_isWordAt) (as := [.int (nI 0)]) (st := []) (v := .int (nI 0)) dX12_item_9 wX12_isWordAt iX12_isWordAt sX12_isWordAt kX12_160 (hl.n (k := 45) (by decide)) (hl.k (k := 45) (by decide)) (by decide) rfl rfl (t_X12_isW_0_0 (σ := σ) (t := t) (w := w) (r := r) hl ht (by omega) (by have := ho 0 (by decide) (by decide); omega)) rfl rfl (by decide) (by decide) (Nat.le_of_ble_eq_true rfl) (by decide) (by decide) ?_
  refine Z.if_eqN B dX12_item_12 (tgt := 32) rfl (by omega) (fun h12 => ?_) (fun h12 => by exfalso; first | omega | contradiction | simp_all)
  refine Z.iinc B dX12_item_32 (by decide) (x := nI 0) rfl (v := nI 1) (nI_inc 0) (L' := [(0, .ref 45), (1, .int (nI 1))]) rfl ?_
  refine Z.goto B dX12_item_35 (tgt := 2) rfl ?_
  refine Z.iload_n B dX12_item_2 (x := nI 1) rfl ?_
  refine Z.iconst B dX12_item_3 (v := nI 4) rfl ?_
  refine Z.icmp_geN B dX12_item_4 (tgt := 38) rfl (by omega) (by omega) (fun h4 => by exfalso; first | omega | contradiction | simp_all) (fun h4 => ?_)
  refine Z.aload_n B dX12_item_7 (v := .ref 45) rfl rfl ?_
  refine Z.iload_n B dX12_item_8 (x := nI 1) rfl ?_
  refine Z.callVI (σ := (mS σ a t w r)) B (M' := mX12_isWordAt) (as := [.int (nI 1)]) (st := []) (v := .int (nI 1)) dX12_item_9 wX12_isWordAt iX12_isWordAt sX12_isWordAt kX12_160 (hl.n (k := 45) (by decide)) (hl.k (k := 45) (by decide)) (by decide) rfl rfl (t_X12_isW_1_1 (σ := σ) (t := t) (w := w) (r := r) hl ht (by omega) hv) rfl rfl (by decide) (by decide) (Nat.le_of_ble_eq_true rfl) (by decide) (by decide) ?_
  refine Z.if_eqN B dX12_item_12 (tgt := 32) rfl (by omega) (fun h12 => by exfalso; first | omega | contradiction | simp_all) (fun h12 => ?_)
  refine Z.aload_n B dX12_item_15 (v := .ref 45) rfl rfl ?_
  refine Z.iload_n B dX12_item_16 (x := nI 1) rfl ?_
  refine Z.callVI (σ := (mS σ a t w r)) B (M' := mX12_isFull) (as := [.int (nI 1)]) (st := []) (v := .int (nI 1)) dX12_item_17 wX12_isFull iX12_isFull sX12_isFull kX12_163 (hl.n (k := 45) (by decide)) (hl.k (k := 45) (by decide)) (by decide) rfl rfl (t_X12_isFull_1_1 (σ := mS σ a t w r) hl ((mS_f (by decide) (by decide) (by decide)).trans hn) hn8 ((mS_f (by decide) (by decide) (by decide)).trans hac) hac4 ((mS_f (by decide) (by decide) (by decide)).trans hy) hy8 hr) rfl rfl (by decide) (by decide) (Nat.le_of_ble_eq_true rfl) (by decide) (by decide) ?_
  refine Z.if_eqN B dX12_item_20 (tgt := 32) rfl (by omega) (fun h20 => by exfalso; first | omega | contradiction | simp_all) (fun h20 => ?_)
  refine Z.aload_n B dX12_item_23 (v := .ref 45) rfl rfl ?_
  refine Z.aload_n B dX12_item_24 (v := .ref 45) rfl rfl ?_
  refine Z.getI (σ := (mS σ a t w r)) B fX12_141_12 dX12_item_25 (hl.n (k := 45) (by decide)) (hl.k (k := 45) (by decide)) (by decide) (v := nI a) mS_a ?_
  refine Z.callVI (σ := (mS σ a t w r)) B (M' := mX12_wrong) (as := [.int (nI a)]) (st := []) (v := .int (nI 0)) dX12_item_28 wX12_wrong iX12_wrong sX12_wrong kX12_154 (hl.n (k := 45) (by decide)) (hl.k (k := 45) (by decide)) (by decide) rfl rfl (t_X12_wrong (σ := σ) (t := t) (w := w) (r := r) hl ht (a := a) (by omega) (p := nI a)) rfl rfl (by decide) (by decide) (Nat.le_of_ble_eq_true rfl) (by decide) (by decide) ?_
  refine Z.iret B Rt dX12_item_31 (ty := .boolean) rfl rfl (by decide) (by decide) ?_
  exact ⟨rfl, rfl⟩

theorem it_M_s1 {σ : zSt} {t w : Int32} {r : Nat → Int32} (hl : Lay σ) {s m : Nat} {T : Nat → Int32} (ht : zTm σ s m T) {a : Nat} (ha : a < 2 ^ 29) {n ac y : Nat} (H : zMd σ n ac y) (hw : wd T a = 1) (hr : ac < 4) (hs : ¬ T (a + 5) = nI 32) : Dt mX12_item [.ref 45] (mS σ a t w r) (some (.int (nI 0))) (mS σ a t (nI (a + 5)) r) := by
  obtain ⟨⟨hs8, hm160⟩, ⟨hbs, hen⟩, hT, hwd⟩ := id ht
  obtain ⟨-, hn, hn8, hac, hac4, hy, hy8⟩ := id H
  obtain ⟨hv, ho⟩ := wd_al (by decide) hw
  have hwl : wl 1 = 5 := rfl
  rw [hwl] at hv
  refine Dt.of (by decide) (Nat.le_of_ble_eq_true rfl) fun κ B Rt => ?_
  show Z κ 0 0 (mS σ a t w r) 0 [(0, .ref 45)] []
  refine Z.iconst B dX12_item_0 (v := nI 0) rfl ?_
  refine Z.istore_n B dX12_item_1 (by decide) (L' := [(0, .ref 45), (1, .int (nI 0))]) rfl ?_
  refine Z.iload_n B dX12_item_2 (x := nI 0) rfl ?_
  refine Z.iconst B dX12_item_3 (v := nI 4) rfl ?_
  refine Z.icmp_geN B dX12_item_4 (tgt := 38) rfl (by omega) (by omega) (fun h4 => by exfalso; first | omega | contradiction | simp_all) (fun h4 => ?_)
  refine Z.aload_n B dX12_item_7 (v := .ref 45) rfl rfl ?_
  refine Z.iload_n B dX12_item_8 (x := nI 0) rfl ?_
  refine Z.callVI (σ := (mS σ a t w r)) B (M' := mX12_isWordAt) (as := [.int (nI 0)]) (st := []) (v := .int (nI 0)) dX12_item_9 wX12_isWordAt iX12_isWordAt sX12_isWordAt kX12_160 (hl.n (k := 45) (by decide)) (hl.k (k := 45) (by decide)) (by decide) rfl rfl (t_X12_isW_0_0 (σ := σ) (t := t) (w := w) (r := r) hl ht (by omega) (by have := ho 0 (by decide) (by decide); omega)) rfl rfl (by decide) (by decide) (Nat.le_of_ble_eq_true rfl) (by decide) (by decide) ?_
  refine Z.if_eqN B dX12_item_12 (tgt := 32) rfl (by omega) (fun h12 => ?_) (fun h12 => by exfalso; first | omega | contradiction | simp_all)
  refine Z.iinc B dX12_item_32 (by decide) (x := nI 0) rfl (v := nI 1) (nI_inc 0) (L' := [(0, .ref 45), (1, .int (nI 1))]) rfl ?_
  refine Z.goto B dX12_item_35 (tgt := 2) rfl ?_
  refine Z.iload_n B dX12_item_2 (x := nI 1) rfl ?_
  refine Z.iconst B dX12_item_3 (v := nI 4) rfl ?_
  refine Z.icmp_geN B dX12_item_4 (tgt := 38) rfl (by omega) (by omega) (fun h4 => by exfalso; first | omega | contradiction | simp_all) (fun h4 => ?_)
  refine Z.aload_n B dX12_item_7 (v := .ref 45) rfl rfl ?_
  refine Z.iload_n B dX12_item_8 (x := nI 1) rfl ?_
  refine Z.callVI (σ := (mS σ a t w r)) B (M' := mX12_isWordAt) (as := [.int (nI 1)]) (st := []) (v := .int (nI 1)) dX12_item_9 wX12_isWordAt iX12_isWordAt sX12_isWordAt kX12_160 (hl.n (k := 45) (by decide)) (hl.k (k := 45) (by decide)) (by decide) rfl rfl (t_X12_isW_1_1 (σ := σ) (t := t) (w := w) (r := r) hl ht (by omega) hv) rfl rfl (by decide) (by decide) (Nat.le_of_ble_eq_true rfl) (by decide) (by decide) ?_
  refine Z.if_eqN B dX12_item_12 (tgt := 32) rfl (by omega) (fun h12 => by exfalso; first | omega | contradiction | simp_all) (fun h12 => ?_)
  refine Z.aload_n B dX12_item_15 (v := .ref 45) rfl rfl ?_
  refine Z.iload_n B dX12_item_16 (x := nI 1) rfl ?_
  refine Z.callVI (σ := (mS σ a t w r)) B (M' := mX12_isFull) (as := [.int (nI 1)]) (st := []) (v := .int (nI 0)) dX12_item_17 wX12_isFull iX12_isFull sX12_isFull kX12_163 (hl.n (k := 45) (by decide)) (hl.k (k := 45) (by decide)) (by decide) rfl rfl (t_X12_isFull_1_0 (σ := mS σ a t w r) hl ((mS_f (by decide) (by decide) (by decide)).trans hn) hn8 ((mS_f (by decide) (by decide) (by decide)).trans hac) hac4 ((mS_f (by decide) (by decide) (by decide)).trans hy) hy8 hr) rfl rfl (by decide) (by decide) (Nat.le_of_ble_eq_true rfl) (by decide) (by decide) ?_
  refine Z.if_eqN B dX12_item_20 (tgt := 32) rfl (by omega) (fun h20 => ?_) (fun h20 => by exfalso; first | omega | contradiction | simp_all)
  refine Z.iinc B dX12_item_32 (by decide) (x := nI 1) rfl (v := nI 2) (nI_inc 1) (L' := [(0, .ref 45), (1, .int (nI 2))]) rfl ?_
  refine Z.goto B dX12_item_35 (tgt := 2) rfl ?_
  refine Z.iload_n B dX12_item_2 (x := nI 2) rfl ?_
  refine Z.iconst B dX12_item_3 (v := nI 4) rfl ?_
  refine Z.icmp_geN B dX12_item_4 (tgt := 38) rfl (by omega) (by omega) (fun h4 => by exfalso; first | omega | contradiction | simp_all) (fun h4 => ?_)
  refine Z.aload_n B dX12_item_7 (v := .ref 45) rfl rfl ?_
  refine Z.iload_n B dX12_item_8 (x := nI 2) rfl ?_
  refine Z.callVI (σ := (mS σ a t w r)) B (M' := mX12_isWordAt) (as := [.int (nI 2)]) (st := []) (v := .int (nI 0)) dX12_item_9 wX12_isWordAt iX12_isWordAt sX12_isWordAt kX12_160 (hl.n (k := 45) (by decide)) (hl.k (k := 45) (by decide)) (by decide) rfl rfl (t_X12_isW_2_0 (σ := σ) (t := t) (w := w) (r := r) hl ht (by omega) (by have := ho 2 (by decide) (by decide); omega)) rfl rfl (by decide) (by decide) (Nat.le_of_ble_eq_true rfl) (by decide) (by decide) ?_
  refine Z.if_eqN B dX12_item_12 (tgt := 32) rfl (by omega) (fun h12 => ?_) (fun h12 => by exfalso; first | omega | contradiction | simp_all)
  refine Z.iinc B dX12_item_32 (by decide) (x := nI 2) rfl (v := nI 3) (nI_inc 2) (L' := [(0, .ref 45), (1, .int (nI 3))]) rfl ?_
  refine Z.goto B dX12_item_35 (tgt := 2) rfl ?_
  refine Z.iload_n B dX12_item_2 (x := nI 3) rfl ?_
  refine Z.iconst B dX12_item_3 (v := nI 4) rfl ?_
  refine Z.icmp_geN B dX12_item_4 (tgt := 38) rfl (by omega) (by omega) (fun h4 => by exfalso; first | omega | contradiction | simp_all) (fun h4 => ?_)
  refine Z.aload_n B dX12_item_7 (v := .ref 45) rfl rfl ?_
  refine Z.iload_n B dX12_item_8 (x := nI 3) rfl ?_
  refine Z.callVI (σ := (mS σ a t w r)) B (M' := mX12_isWordAt) (as := [.int (nI 3)]) (st := []) (v := .int (nI 0)) dX12_item_9 wX12_isWordAt iX12_isWordAt sX12_isWordAt kX12_160 (hl.n (k := 45) (by decide)) (hl.k (k := 45) (by decide)) (by decide) rfl rfl (t_X12_isW_3_0 (σ := σ) (t := t) (w := w) (r := r) hl ht (by omega) (by have := ho 3 (by decide) (by decide); omega)) rfl rfl (by decide) (by decide) (Nat.le_of_ble_eq_true rfl) (by decide) (by decide) ?_
  refine Z.if_eqN B dX12_item_12 (tgt := 32) rfl (by omega) (fun h12 => ?_) (fun h12 => by exfalso; first | omega | contradiction | simp_all)
  refine Z.iinc B dX12_item_32 (by decide) (x := nI 3) rfl (v := nI 4) (nI_inc 3) (L' := [(0, .ref 45), (1, .int (nI 4))]) rfl ?_
  refine Z.goto B dX12_item_35 (tgt := 2) rfl ?_
  refine Z.iload_n B dX12_item_2 (x := nI 4) rfl ?_
  refine Z.iconst B dX12_item_3 (v := nI 4) rfl ?_
  refine Z.icmp_geN B dX12_item_4 (tgt := 38) rfl (by omega) (by omega) (fun h4 => ?_) (fun h4 => by exfalso; first | omega | contradiction | simp_all)
  refine Z.aload_n B dX12_item_38 (v := .ref 45) rfl rfl ?_
  refine Z.getI (σ := (mS σ a t w r)) B fX12_141_12 dX12_item_39 (hl.n (k := 45) (by decide)) (hl.k (k := 45) (by decide)) (by decide) (v := nI a) mS_a ?_
  refine Z.istore_n B dX12_item_42 (by decide) (L' := [(0, .ref 45), (1, .int (nI a))]) rfl ?_
  refine Z.aload_n B dX12_item_43 (v := .ref 45) rfl rfl ?_
  refine Z.callVI (σ := (mS σ a t w r)) B (M' := mX12_word) (as := []) (st := []) (v := .int (-1)) dX12_item_44 wX12_word iX12_word sX12_word kX12_166 (hl.n (k := 45) (by decide)) (hl.k (k := 45) (by decide)) (by decide) rfl rfl (wdM_s (v := 1) (σ := σ) (t := t) (w := w) (r := r) hl ht (by omega) (by decide) hw hs) rfl rfl (by decide) (by decide) (Nat.le_of_ble_eq_true rfl) (by decide) (by decide) ?_
  refine Z.istore_n B dX12_item_47 (by decide) (L' := [(0, .ref 45), (1, .int (nI a)), (2, .int (-1))]) rfl ?_
  refine Z.iload_n B dX12_item_48 (x := (-1)) rfl ?_
  refine Z.iconst B dX12_item_49 (v := (-1)) rfl ?_
  refine Z.icmp_ne B dX12_item_50 (tgt := 55) rfl (fun h50 => absurd rfl h50) (fun h50 => ?_)
  refine Z.iconst B dX12_item_53 (v := nI 0) rfl ?_
  refine Z.iret B Rt dX12_item_54 (ty := .boolean) rfl rfl (by decide) (by decide) ?_
  exact ⟨rfl, rfl⟩

theorem it_M_c1 {σ : zSt} {t w : Int32} {r : Nat → Int32} (hl : Lay σ) {s m : Nat} {T : Nat → Int32} (ht : zTm σ s m T) {a : Nat} (ha : a < 2 ^ 29) {n ac y : Nat} (H : zMd σ n ac y) (hw : wd T a = 1) (hs : T (a + 5) = nI 32) (hr : ac < 4) {k0 : Nat} (hk0 : k0 < 3) (hall : ∀ k, k < k0 → nok T (ps T (a + 5) k) (mx ac 1 k)) (hb : ¬ nok T (ps T (a + 5) k0) (mx ac 1 k0))  : Ct mX12_item [.ref 45] (mS σ a t w r) (fun r1 τ => r1 = some (.int (nI 0)) ∧ ∃ a1 t1 r2, τ = mS σ a1 t1 (nI (nbd T (ps T (a + 5) k0))) r2) := by
  obtain ⟨⟨hs8, hm160⟩, ⟨hbs, hen⟩, hT, hwd⟩ := id ht
  obtain ⟨-, hn, hn8, hac, hac4, hy, hy8⟩ := id H
  obtain ⟨hv, ho⟩ := wd_al (by decide) hw
  have hwl : wl 1 = 5 := rfl
  rw [hwl] at hv
  have hs0 := hs
  refine Ct.of (by decide) (Nat.le_of_ble_eq_true rfl) fun κ B Rt => ?_
  show Z κ 0 0 (mS σ a t w r) 0 [(0, .ref 45)] []
  refine Z.iconst B dX12_item_0 (v := nI 0) rfl ?_
  refine Z.istore_n B dX12_item_1 (by decide) (L' := [(0, .ref 45), (1, .int (nI 0))]) rfl ?_
  refine Z.iload_n B dX12_item_2 (x := nI 0) rfl ?_
  refine Z.iconst B dX12_item_3 (v := nI 4) rfl ?_
  refine Z.icmp_geN B dX12_item_4 (tgt := 38) rfl (by omega) (by omega) (fun h4 => by exfalso; first | omega | contradiction | simp_all) (fun h4 => ?_)
  refine Z.aload_n B dX12_item_7 (v := .ref 45) rfl rfl ?_
  refine Z.iload_n B dX12_item_8 (x := nI 0) rfl ?_
  refine Z.callVI (σ := (mS σ a t w r)) B (M' := mX12_isWordAt) (as := [.int (nI 0)]) (st := []) (v := .int (nI 0)) dX12_item_9 wX12_isWordAt iX12_isWordAt sX12_isWordAt kX12_160 (hl.n (k := 45) (by decide)) (hl.k (k := 45) (by decide)) (by decide) rfl rfl (t_X12_isW_0_0 (σ := σ) (t := t) (w := w) (r := r) hl ht (by omega) (by have := ho 0 (by decide) (by decide); omega)) rfl rfl (by decide) (by decide) (Nat.le_of_ble_eq_true rfl) (by decide) (by decide) ?_
  refine Z.if_eqN B dX12_item_12 (tgt := 32) rfl (by omega) (fun h12 => ?_) (fun h12 => by exfalso; first | omega | contradiction | simp_all)
  refine Z.iinc B dX12_item_32 (by decide) (x := nI 0) rfl (v := nI 1) (nI_inc 0) (L' := [(0, .ref 45), (1, .int (nI 1))]) rfl ?_
  refine Z.goto B dX12_item_35 (tgt := 2) rfl ?_
  refine Z.iload_n B dX12_item_2 (x := nI 1) rfl ?_
  refine Z.iconst B dX12_item_3 (v := nI 4) rfl ?_
  refine Z.icmp_geN B dX12_item_4 (tgt := 38) rfl (by omega) (by omega) (fun h4 => by exfalso; first | omega | contradiction | simp_all) (fun h4 => ?_)
  refine Z.aload_n B dX12_item_7 (v := .ref 45) rfl rfl ?_
  refine Z.iload_n B dX12_item_8 (x := nI 1) rfl ?_
  refine Z.callVI (σ := (mS σ a t w r)) B (M' := mX12_isWordAt) (as := [.int (nI 1)]) (st := []) (v := .int (nI 1)) dX12_item_9 wX12_isWordAt iX12_isWordAt sX12_isWordAt kX12_160 (hl.n (k := 45) (by decide)) (hl.k (k := 45) (by decide)) (by decide) rfl rfl (t_X12_isW_1_1 (σ := σ) (t := t) (w := w) (r := r) hl ht (by omega) hv) rfl rfl (by decide) (by decide) (Nat.le_of_ble_eq_true rfl) (by decide) (by decide) ?_
  refine Z.if_eqN B dX12_item_12 (tgt := 32) rfl (by omega) (fun h12 => by exfalso; first | omega | contradiction | simp_all) (fun h12 => ?_)
  refine Z.aload_n B dX12_item_15 (v := .ref 45) rfl rfl ?_
  refine Z.iload_n B dX12_item_16 (x := nI 1) rfl ?_
  refine Z.callVI (σ := (mS σ a t w r)) B (M' := mX12_isFull) (as := [.int (nI 1)]) (st := []) (v := .int (nI 0)) dX12_item_17 wX12_isFull iX12_isFull sX12_isFull kX12_163 (hl.n (k := 45) (by decide)) (hl.k (k := 45) (by decide)) (by decide) rfl rfl (t_X12_isFull_1_0 (σ := mS σ a t w r) hl ((mS_f (by decide) (by decide) (by decide)).trans hn) hn8 ((mS_f (by decide) (by decide) (by decide)).trans hac) hac4 ((mS_f (by decide) (by decide) (by decide)).trans hy) hy8 hr) rfl rfl (by decide) (by decide) (Nat.le_of_ble_eq_true rfl) (by decide) (by decide) ?_
  refine Z.if_eqN B dX12_item_20 (tgt := 32) rfl (by omega) (fun h20 => ?_) (fun h20 => by exfalso; first | omega | contradiction | simp_all)
  refine Z.iinc B dX12_item_32 (by decide) (x := nI 1) rfl (v := nI 2) (nI_inc 1) (L' := [(0, .ref 45), (1, .int (nI 2))]) rfl ?_
  refine Z.goto B dX12_item_35 (tgt := 2) rfl ?_
  refine Z.iload_n B dX12_item_2 (x := nI 2) rfl ?_
  refine Z.iconst B dX12_item_3 (v := nI 4) rfl ?_
  refine Z.icmp_geN B dX12_item_4 (tgt := 38) rfl (by omega) (by omega) (fun h4 => by exfalso; first | omega | contradiction | simp_all) (fun h4 => ?_)
  refine Z.aload_n B dX12_item_7 (v := .ref 45) rfl rfl ?_
  refine Z.iload_n B dX12_item_8 (x := nI 2) rfl ?_
  refine Z.callVI (σ := (mS σ a t w r)) B (M' := mX12_isWordAt) (as := [.int (nI 2)]) (st := []) (v := .int (nI 0)) dX12_item_9 wX12_isWordAt iX12_isWordAt sX12_isWordAt kX12_160 (hl.n (k := 45) (by decide)) (hl.k (k := 45) (by decide)) (by decide) rfl rfl (t_X12_isW_2_0 (σ := σ) (t := t) (w := w) (r := r) hl ht (by omega) (by have := ho 2 (by decide) (by decide); omega)) rfl rfl (by decide) (by decide) (Nat.le_of_ble_eq_true rfl) (by decide) (by decide) ?_
  refine Z.if_eqN B dX12_item_12 (tgt := 32) rfl (by omega) (fun h12 => ?_) (fun h12 => by exfalso; first | omega | contradiction | simp_all)
  refine Z.iinc B dX12_item_32 (by decide) (x := nI 2) rfl (v := nI 3) (nI_inc 2) (L' := [(0, .ref 45), (1, .int (nI 3))]) rfl ?_
  refine Z.goto B dX12_item_35 (tgt := 2) rfl ?_
  refine Z.iload_n B dX12_item_2 (x := nI 3) rfl ?_
  refine Z.iconst B dX12_item_3 (v := nI 4) rfl ?_
  refine Z.icmp_geN B dX12_item_4 (tgt := 38) rfl (by omega) (by omega) (fun h4 => by exfalso; first | omega | contradiction | simp_all) (fun h4 => ?_)
  refine Z.aload_n B dX12_item_7 (v := .ref 45) rfl rfl ?_
  refine Z.iload_n B dX12_item_8 (x := nI 3) rfl ?_
  refine Z.callVI (σ := (mS σ a t w r)) B (M' := mX12_isWordAt) (as := [.int (nI 3)]) (st := []) (v := .int (nI 0)) dX12_item_9 wX12_isWordAt iX12_isWordAt sX12_isWordAt kX12_160 (hl.n (k := 45) (by decide)) (hl.k (k := 45) (by decide)) (by decide) rfl rfl (t_X12_isW_3_0 (σ := σ) (t := t) (w := w) (r := r) hl ht (by omega) (by have := ho 3 (by decide) (by decide); omega)) rfl rfl (by decide) (by decide) (Nat.le_of_ble_eq_true rfl) (by decide) (by decide) ?_
  refine Z.if_eqN B dX12_item_12 (tgt := 32) rfl (by omega) (fun h12 => ?_) (fun h12 => by exfalso; first | omega | contradiction | simp_all)
  refine Z.iinc B dX12_item_32 (by decide) (x := nI 3) rfl (v := nI 4) (nI_inc 3) (L' := [(0, .ref 45), (1, .int (nI 4))]) rfl ?_
  refine Z.goto B dX12_item_35 (tgt := 2) rfl ?_
  refine Z.iload_n B dX12_item_2 (x := nI 4) rfl ?_
  refine Z.iconst B dX12_item_3 (v := nI 4) rfl ?_
  refine Z.icmp_geN B dX12_item_4 (tgt := 38) rfl (by omega) (by omega) (fun h4 => ?_) (fun h4 => by exfalso; first | omega | contradiction | simp_all)
  refine Z.aload_n B dX12_item_38 (v := .ref 45) rfl rfl ?_
  refine Z.getI (σ := (mS σ a t w r)) B fX12_141_12 dX12_item_39 (hl.n (k := 45) (by decide)) (hl.k (k := 45) (by decide)) (by decide) (v := nI a) mS_a ?_
  refine Z.istore_n B dX12_item_42 (by decide) (L' := [(0, .ref 45), (1, .int (nI a))]) rfl ?_
  refine Z.aload_n B dX12_item_43 (v := .ref 45) rfl rfl ?_
  refine Z.callVI (σ := (mS σ a t w r)) B (M' := mX12_word) (as := []) (st := []) (v := .int (nI 1)) dX12_item_44 wX12_word iX12_word sX12_word kX12_166 (hl.n (k := 45) (by decide)) (hl.k (k := 45) (by decide)) (by decide) rfl rfl (wdM_1 (σ := σ) (t := t) (w := w) (r := r) hl ht (by omega) hw hs) rfl rfl (by decide) (by decide) (Nat.le_of_ble_eq_true rfl) (by decide) (by decide) ?_
  refine Z.istore_n B dX12_item_47 (by decide) (L' := [(0, .ref 45), (1, .int (nI a)), (2, .int (nI 1))]) rfl ?_
  refine Z.iload_n B dX12_item_48 (x := nI 1) rfl ?_
  refine Z.iconst B dX12_item_49 (v := (-1)) rfl ?_
  refine Z.icmp_ne B dX12_item_50 (tgt := 55) rfl (fun h50 => ?_) (fun h50 => (by exfalso; revert h50; decide))
  refine Z.iload_n B dX12_item_55 (x := nI 1) rfl ?_
  refine Z.if_neN B dX12_item_56 (tgt := 68) rfl (by omega) (fun h56 => ?_) (fun h56 => by exfalso; first | omega | contradiction | simp_all)
  refine Z.iload_n B dX12_item_68 (x := nI 1) rfl ?_
  refine Z.iconst B dX12_item_69 (v := nI 1) rfl ?_
  refine Z.icmp_neN B dX12_item_70 (tgt := 81) rfl (by omega) (by omega) (fun h70 => by exfalso; first | omega | contradiction | simp_all) (fun h70 => ?_)
  refine Z.aload_n B dX12_item_73 (v := .ref 45) rfl rfl ?_
  refine Z.getI (σ := (mS σ (a + 5 + 1) t w r)) B fX12_84_12 dX12_item_74 (hl.n (k := 45) (by decide)) (hl.k (k := 45) (by decide)) (by decide) (v := nI ac) ((mS_f (by decide) (by decide) (by decide)).trans hac) ?_
  refine Z.iconst B dX12_item_77 (v := nI 4) rfl ?_
  refine Z.icmp_eqN B dX12_item_78 (tgt := 95) rfl (by omega) (by omega) (fun h78 => (by omega)) (fun h78 => ?_)
  refine Z.iload_n B dX12_item_81 (x := nI 1) rfl ?_
  refine Z.iconst B dX12_item_82 (v := nI 2) rfl ?_
  refine Z.icmp_neN B dX12_item_83 (tgt := 101) rfl (by omega) (by omega) (fun h83 => ?_) (fun h83 => by exfalso; first | omega | contradiction | simp_all)
  refine Z.iload_n B dX12_item_101 (x := nI 1) rfl ?_
  refine Z.if_neN B dX12_item_102 (tgt := 110) rfl (by omega) (fun h102 => ?_) (fun h102 => by exfalso; first | omega | contradiction | simp_all)
  refine Z.iload_n B dX12_item_110 (x := nI 1) rfl ?_
  refine Z.iconst B dX12_item_111 (v := nI 1) rfl ?_
  refine Z.icmp_neN B dX12_item_112 (tgt := 119) rfl (by omega) (by omega) (fun h112 => by exfalso; first | omega | contradiction | simp_all) (fun h112 => ?_)
  refine Z.iconst B dX12_item_115 (v := nI 3) rfl ?_
  refine Z.goto B dX12_item_116 (tgt := 129) rfl ?_
  refine Z.istore_n B dX12_item_129 (by decide) (L' := [(0, .ref 45), (1, .int (nI a)), (2, .int (nI 1)), (3, .int (nI 3))]) rfl ?_
  refine Z.iconst B dX12_item_130 (v := nI 0) rfl ?_
  refine Z.istore B dX12_item_131 (by decide) (L' := [(0, .ref 45), (1, .int (nI a)), (2, .int (nI 1)), (3, .int (nI 3)), (4, .int (nI 0))]) rfl ?_
  have hloop133 : ∀ k : Nat, k ≤ k0 → Z κ 0 0 (mS σ (atK T (a + 5) k) (tK t T (a + 5) k) w (fi k (vs T (a + 5)) r)) 133 [(0, .ref 45), (1, .int (nI a)), (2, .int (nI 1)), (3, .int (nI 3)), (4, .int (nI k))] [] := by
    refine z_loop (fun k => 3 - k) (fun k ih hk0k => ?_)
    have hps := ps_le (T := T) (p := a + 5) k
    rcases (by omega : k < k0 ∨ k0 = k) with hlt | hke
    · skip
      have hk := hall k hlt
      refine Z.iload B dX12_item_133 (x := nI k) rfl ?_
      refine Z.iload_n B dX12_item_135 (x := nI 3) rfl ?_
      refine Z.icmp_geN B dX12_item_136 (tgt := 227) rfl (by omega) (by omega) (fun h136 => (by omega)) (fun h136 => ?_)
      refine Z.iload B dX12_item_139 (x := nI k) rfl ?_
      refine Z.if_leN B dX12_item_141 (tgt := 194) rfl (by omega) (fun h141 => ?_) (fun h141 => ?_)
      · skip
        refine Z.eqσ (τ := (mS σ (ps T (a + 5) k + 1) (tK t T (a + 5) k) w (fi k (vs T (a + 5)) r))) (by rw [atK_0 h141]) ?_
        refine Z.aload_n B dX12_item_194 (v := .ref 45) rfl rfl ?_
        refine Z.aload_n B dX12_item_195 (v := .ref 45) rfl rfl ?_
        refine Z.iload_n B dX12_item_196 (x := nI 1) rfl ?_
        refine Z.iload B dX12_item_197 (x := nI k) rfl ?_
        refine Z.callVI (σ := (mS σ (ps T (a + 5) k + 1) (tK t T (a + 5) k) w (fi k (vs T (a + 5)) r))) B (M' := mX12_high) (as := [.int (nI 1), .int (nI k)]) (st := [.ref 45]) (v := .int (mx ac 1 k)) dX12_item_199 wX12_high iX12_high sX12_high kX12_170 (hl.n (k := 45) (by decide)) (hl.k (k := 45) (by decide)) (by decide) rfl rfl (t_X12_high (w := 1) (i := k) hl ((mS_f (by decide) (by decide) (by decide)).trans hac) (by decide) (by show k < 3; omega)) rfl rfl (by decide) (by decide) (Nat.le_of_ble_eq_true rfl) (by decide) (by decide) ?_
        refine Z.callVI (σ := (mS σ (ps T (a + 5) k + 1) (tK t T (a + 5) k) w (fi k (vs T (a + 5)) r))) B (M' := mX12_number) (as := [.int (mx ac 1 k)]) (st := []) (v := .int (nI 1)) dX12_item_202 wX12_number iX12_number sX12_number kX12_173 (hl.n (k := 45) (by decide)) (hl.k (k := 45) (by decide)) (by decide) rfl rfl (t_X12_num_ok (σ := σ) (t := (tK t T (a + 5) k)) (w := w) (r := (fi k (vs T (a + 5)) r)) hl ht (a := ps T (a + 5) k + 1) (by omega) hk.2.1 hk.2.2) rfl rfl (by decide) (by decide) (Nat.le_of_ble_eq_true rfl) (by decide) (by decide) ?_
        refine Z.eqσ (τ := (mS σ (ps T (a + 5) (k + 1)) (vs T (a + 5) k) w (fi k (vs T (a + 5)) r))) (congrArg (fun q => mS σ q (vs T (a + 5) k) w (fi k (vs T (a + 5)) r)) (ps_ok hk).symm) ?_
        refine Z.if_neN B dX12_item_205 (tgt := 210) rfl (by omega) (fun h205 => ?_) (fun h205 => (by omega))
        refine Z.aload_n B dX12_item_210 (v := .ref 45) rfl rfl ?_
        refine Z.getR (σ := (mS σ (ps T (a + 5) (k + 1)) (vs T (a + 5) k) w (fi k (vs T (a + 5)) r))) B fX12_63_12 dX12_item_211 (hl.n (k := 45) (by decide)) (hl.k (k := 45) (by decide)) (by decide) (j := 61) (hl.r (k := 45) (f := 20) (by decide) (by decide)) ?_
        refine Z.iload B dX12_item_214 (x := nI k) rfl ?_
        refine Z.aload_n B dX12_item_216 (v := .ref 45) rfl rfl ?_
        refine Z.getI (σ := (mS σ (ps T (a + 5) (k + 1)) (vs T (a + 5) k) w (fi k (vs T (a + 5)) r))) B fX12_157_12 dX12_item_217 (hl.n (k := 45) (by decide)) (hl.k (k := 45) (by decide)) (by decide) (v := (vs T (a + 5) k)) mS_t ?_
        refine Z.iast (σ := (mS σ (ps T (a + 5) (k + 1)) (vs T (a + 5) k) w (fi k (vs T (a + 5)) r))) B dX12_item_220 (n := 6) (hl.n (k := 61) (by decide)) (hl.k (k := 61) (by decide)) (hl.l (k := 61) (by decide)) (by decide) (j := k) rfl (by omega) (τ := (zuX (mS σ (ps T (a + 5) (k + 1)) (vs T (a + 5) k) w (fi k (vs T (a + 5)) r)) 61 (upd (zX (mS σ (ps T (a + 5) (k + 1)) (vs T (a + 5) k) w (fi k (vs T (a + 5)) r)) 61) k (vs T (a + 5) k)))) rfl ?_
        refine Z.eqσ (τ := (mS σ (ps T (a + 5) (k + 1)) (vs T (a + 5) k) w (fi (k + 1) (vs T (a + 5)) r))) (by rw [mS_r, fi_s (f := vs T (a + 5)) rfl]; exact mS_ur) ?_
        refine Z.iincN B dX12_item_221 (by decide) (a := k) rfl (L' := [(0, .ref 45), (1, .int (nI a)), (2, .int (nI 1)), (3, .int (nI 3)), (4, .int (nI (k + 1)))]) rfl ?_
        refine Z.goto B dX12_item_224 (tgt := 133) rfl ?_
        exact ih (k + 1) (by omega) (by omega)
      · skip
        have h141 := h141
        refine Z.eqσ (τ := (mS σ (ps T (a + 5) k) (tK t T (a + 5) k) w (fi k (vs T (a + 5)) r))) (by rw [atK_s h141]) ?_
        refine Z.aload_n B dX12_item_144 (v := .ref 45) rfl rfl ?_
        refine Z.getI (σ := (mS σ (ps T (a + 5) k) (tK t T (a + 5) k) w (fi k (vs T (a + 5)) r))) B fX12_141_12 dX12_item_145 (hl.n (k := 45) (by decide)) (hl.k (k := 45) (by decide)) (by decide) (v := nI (ps T (a + 5) k)) mS_a ?_
        refine Z.aload_n B dX12_item_148 (v := .ref 45) rfl rfl ?_
        refine Z.getI (σ := (mS σ (ps T (a + 5) k) (tK t T (a + 5) k) w (fi k (vs T (a + 5)) r))) B fX12_144_12 dX12_item_149 (hl.n (k := 45) (by decide)) (hl.k (k := 45) (by decide)) (by decide) (v := nI m) ((mS_f (by decide) (by decide) (by decide)).trans hen) ?_
        refine Z.icmp_geN B dX12_item_152 (tgt := 175) rfl (by omega) (by omega) (fun h152 => (by have := in_m ht (c := 31) hk.1 (by decide); omega)) (fun h152 => ?_)
        refine Z.aload_n B dX12_item_155 (v := .ref 45) rfl rfl ?_
        refine Z.getR (σ := (mS σ (ps T (a + 5) k) (tK t T (a + 5) k) w (fi k (vs T (a + 5)) r))) B fX12_53_12 dX12_item_156 (hl.n (k := 45) (by decide)) (hl.k (k := 45) (by decide)) (by decide) (j := 58) (hl.r (k := 45) (f := 17) (by decide) (by decide)) ?_
        refine Z.aload_n B dX12_item_159 (v := .ref 45) rfl rfl ?_
        refine Z.getI (σ := (mS σ (ps T (a + 5) k) (tK t T (a + 5) k) w (fi k (vs T (a + 5)) r))) B fX12_147_12 dX12_item_160 (hl.n (k := 45) (by decide)) (hl.k (k := 45) (by decide)) (by decide) (v := nI (s * 160)) ((mS_f (by decide) (by decide) (by decide)).trans hbs) ?_
        refine Z.aload_n B dX12_item_163 (v := .ref 45) rfl rfl ?_
        refine Z.getI (σ := (mS σ (ps T (a + 5) k) (tK t T (a + 5) k) w (fi k (vs T (a + 5)) r))) B fX12_141_12 dX12_item_164 (hl.n (k := 45) (by decide)) (hl.k (k := 45) (by decide)) (by decide) (v := nI (ps T (a + 5) k)) mS_a ?_
        refine Z.iaddN B dX12_item_167 (a := s * 160) (b := ps T (a + 5) k) ?_
        refine Z.lald (σ := (mS σ (ps T (a + 5) k) (tK t T (a + 5) k) w (fi k (vs T (a + 5)) r))) B dX12_item_168 (n := 1280) (hl.n (k := 58) (by decide)) (hl.k (k := 58) (by decide)) (hl.l (k := 58) (by decide)) (by decide) (j := (s * 160) + (ps T (a + 5) k)) rfl (by have := in_m ht (c := 31) hk.1 (by decide); omega) (v := (zY (mS σ (ps T (a + 5) k) (tK t T (a + 5) k) w (fi k (vs T (a + 5)) r)) 58 ((s * 160) + (ps T (a + 5) k)))) rfl ?_
        refine Z.l2i B dX12_item_169 ?_
        refine Z.eqS (st' := [.int (T (ps T (a + 5) k))]) (congrArg (fun z => Value.int z :: _) (ht.t (i := ps T (a + 5) k) (in_m ht (c := 31) hk.1 (by decide)))) ?_
        refine Z.bipush B dX12_item_170 (v := nI 32) rfl ?_
        refine Z.icmp_eq B dX12_item_172 (tgt := 184) rfl (fun h172 => ?_) (fun h172 => (absurd hk.1 h172))
        refine Z.aload_n B dX12_item_184 (v := .ref 45) rfl rfl ?_
        refine Z.dup B dX12_item_185 rfl ?_
        refine Z.getI (σ := (mS σ (ps T (a + 5) k) (tK t T (a + 5) k) w (fi k (vs T (a + 5)) r))) B fX12_141_12 dX12_item_186 (hl.n (k := 45) (by decide)) (hl.k (k := 45) (by decide)) (by decide) (v := nI (ps T (a + 5) k)) mS_a ?_
        refine Z.iconst B dX12_item_189 (v := nI 1) rfl ?_
        refine Z.iaddN B dX12_item_190 (a := ps T (a + 5) k) (b := 1) ?_
        refine Z.putI (σ := (mS σ (ps T (a + 5) k) (tK t T (a + 5) k) w (fi k (vs T (a + 5)) r))) B fX12_141_12 (ty := .int) ⟨_, _, _, rfl, rfl, by decide +kernel⟩ dX12_item_191 (hl.n (k := 45) (by decide)) (hl.k (k := 45) (by decide)) (by decide) rfl rfl (τ := (zuX (mS σ (ps T (a + 5) k) (tK t T (a + 5) k) w (fi k (vs T (a + 5)) r)) 45 (upd (zX (mS σ (ps T (a + 5) k) (tK t T (a + 5) k) w (fi k (vs T (a + 5)) r)) 45) 22 (nI ((ps T (a + 5) k) + 1))))) rfl ?_
        refine Z.eqσ (τ := (mS σ (ps T (a + 5) k + 1) (tK t T (a + 5) k) w (fi k (vs T (a + 5)) r))) mS_ua ?_
        refine Z.aload_n B dX12_item_194 (v := .ref 45) rfl rfl ?_
        refine Z.aload_n B dX12_item_195 (v := .ref 45) rfl rfl ?_
        refine Z.iload_n B dX12_item_196 (x := nI 1) rfl ?_
        refine Z.iload B dX12_item_197 (x := nI k) rfl ?_
        refine Z.callVI (σ := (mS σ (ps T (a + 5) k + 1) (tK t T (a + 5) k) w (fi k (vs T (a + 5)) r))) B (M' := mX12_high) (as := [.int (nI 1), .int (nI k)]) (st := [.ref 45]) (v := .int (mx ac 1 k)) dX12_item_199 wX12_high iX12_high sX12_high kX12_170 (hl.n (k := 45) (by decide)) (hl.k (k := 45) (by decide)) (by decide) rfl rfl (t_X12_high (w := 1) (i := k) hl ((mS_f (by decide) (by decide) (by decide)).trans hac) (by decide) (by show k < 3; omega)) rfl rfl (by decide) (by decide) (Nat.le_of_ble_eq_true rfl) (by decide) (by decide) ?_
        refine Z.callVI (σ := (mS σ (ps T (a + 5) k + 1) (tK t T (a + 5) k) w (fi k (vs T (a + 5)) r))) B (M' := mX12_number) (as := [.int (mx ac 1 k)]) (st := []) (v := .int (nI 1)) dX12_item_202 wX12_number iX12_number sX12_number kX12_173 (hl.n (k := 45) (by decide)) (hl.k (k := 45) (by decide)) (by decide) rfl rfl (t_X12_num_ok (σ := σ) (t := (tK t T (a + 5) k)) (w := w) (r := (fi k (vs T (a + 5)) r)) hl ht (a := ps T (a + 5) k + 1) (by omega) hk.2.1 hk.2.2) rfl rfl (by decide) (by decide) (Nat.le_of_ble_eq_true rfl) (by decide) (by decide) ?_
        refine Z.eqσ (τ := (mS σ (ps T (a + 5) (k + 1)) (vs T (a + 5) k) w (fi k (vs T (a + 5)) r))) (congrArg (fun q => mS σ q (vs T (a + 5) k) w (fi k (vs T (a + 5)) r)) (ps_ok hk).symm) ?_
        refine Z.if_neN B dX12_item_205 (tgt := 210) rfl (by omega) (fun h205 => ?_) (fun h205 => (by omega))
        refine Z.aload_n B dX12_item_210 (v := .ref 45) rfl rfl ?_
        refine Z.getR (σ := (mS σ (ps T (a + 5) (k + 1)) (vs T (a + 5) k) w (fi k (vs T (a + 5)) r))) B fX12_63_12 dX12_item_211 (hl.n (k := 45) (by decide)) (hl.k (k := 45) (by decide)) (by decide) (j := 61) (hl.r (k := 45) (f := 20) (by decide) (by decide)) ?_
        refine Z.iload B dX12_item_214 (x := nI k) rfl ?_
        refine Z.aload_n B dX12_item_216 (v := .ref 45) rfl rfl ?_
        refine Z.getI (σ := (mS σ (ps T (a + 5) (k + 1)) (vs T (a + 5) k) w (fi k (vs T (a + 5)) r))) B fX12_157_12 dX12_item_217 (hl.n (k := 45) (by decide)) (hl.k (k := 45) (by decide)) (by decide) (v := (vs T (a + 5) k)) mS_t ?_
        refine Z.iast (σ := (mS σ (ps T (a + 5) (k + 1)) (vs T (a + 5) k) w (fi k (vs T (a + 5)) r))) B dX12_item_220 (n := 6) (hl.n (k := 61) (by decide)) (hl.k (k := 61) (by decide)) (hl.l (k := 61) (by decide)) (by decide) (j := k) rfl (by omega) (τ := (zuX (mS σ (ps T (a + 5) (k + 1)) (vs T (a + 5) k) w (fi k (vs T (a + 5)) r)) 61 (upd (zX (mS σ (ps T (a + 5) (k + 1)) (vs T (a + 5) k) w (fi k (vs T (a + 5)) r)) 61) k (vs T (a + 5) k)))) rfl ?_
        refine Z.eqσ (τ := (mS σ (ps T (a + 5) (k + 1)) (vs T (a + 5) k) w (fi (k + 1) (vs T (a + 5)) r))) (by rw [mS_r, fi_s (f := vs T (a + 5)) rfl]; exact mS_ur) ?_
        refine Z.iincN B dX12_item_221 (by decide) (a := k) rfl (L' := [(0, .ref 45), (1, .int (nI a)), (2, .int (nI 1)), (3, .int (nI 3)), (4, .int (nI (k + 1)))]) rfl ?_
        refine Z.goto B dX12_item_224 (tgt := 133) rfl ?_
        exact ih (k + 1) (by omega) (by omega)
    · skip
      have hb2 : ¬ nok T (ps T (a + 5) k) (mx ac 1 k) := by rw [← hke]; exact hb
      refine Z.iload B dX12_item_133 (x := nI k) rfl ?_
      refine Z.iload_n B dX12_item_135 (x := nI 3) rfl ?_
      refine Z.icmp_geN B dX12_item_136 (tgt := 227) rfl (by omega) (by omega) (fun h136 => (by omega)) (fun h136 => ?_)
      refine Z.iload B dX12_item_139 (x := nI k) rfl ?_
      refine Z.if_leN B dX12_item_141 (tgt := 194) rfl (by omega) (fun h141 => ?_) (fun h141 => ?_)
      · skip
        have h172 : T (ps T (a + 5) k) = nI 32 := (by subst h141; exact hs)
        refine Z.eqσ (τ := (mS σ (ps T (a + 5) k + 1) (tK t T (a + 5) k) w (fi k (vs T (a + 5)) r))) (by rw [atK_0 h141]) ?_
        refine Z.aload_n B dX12_item_194 (v := .ref 45) rfl rfl ?_
        refine Z.aload_n B dX12_item_195 (v := .ref 45) rfl rfl ?_
        refine Z.iload_n B dX12_item_196 (x := nI 1) rfl ?_
        refine Z.iload B dX12_item_197 (x := nI k) rfl ?_
        refine Z.callVI (σ := (mS σ (ps T (a + 5) k + 1) (tK t T (a + 5) k) w (fi k (vs T (a + 5)) r))) B (M' := mX12_high) (as := [.int (nI 1), .int (nI k)]) (st := [.ref 45]) (v := .int (mx ac 1 k)) dX12_item_199 wX12_high iX12_high sX12_high kX12_170 (hl.n (k := 45) (by decide)) (hl.k (k := 45) (by decide)) (by decide) rfl rfl (t_X12_high (w := 1) (i := k) hl ((mS_f (by decide) (by decide) (by decide)).trans hac) (by decide) (by show k < 3; omega)) rfl rfl (by decide) (by decide) (Nat.le_of_ble_eq_true rfl) (by decide) (by decide) ?_
        rcases Bool.eq_false_or_eq_true (dg (T (ps T (a + 5) k + 1))) with hd1 | hd0
        · skip
          have hbig : ¬ nv T (ps T (a + 5) k + 1) ≤ (mx ac 1 k) := fun h => hb2 ⟨h172, hd1, h⟩
          refine Z.callVI (σ := (mS σ (ps T (a + 5) k + 1) (tK t T (a + 5) k) w (fi k (vs T (a + 5)) r))) B (M' := mX12_number) (as := [.int (mx ac 1 k)]) (st := []) (v := .int (nI 0)) dX12_item_202 wX12_number iX12_number sX12_number kX12_173 (hl.n (k := 45) (by decide)) (hl.k (k := 45) (by decide)) (by decide) rfl rfl (t_X12_num_big (σ := σ) (t := (tK t T (a + 5) k)) (w := w) (r := (fi k (vs T (a + 5)) r)) hl ht (a := ps T (a + 5) k + 1) (by omega) hd1 hbig) rfl rfl (by decide) (by decide) (Nat.le_of_ble_eq_true rfl) (by decide) (by decide) ?_
          refine Z.if_neN B dX12_item_205 (tgt := 210) rfl (by omega) (fun h205 => (by omega)) (fun h205 => ?_)
          refine Z.iconst B dX12_item_208 (v := nI 0) rfl ?_
          refine Z.iret B Rt dX12_item_209 (ty := .boolean) rfl rfl (by decide) (by decide) ?_
          have hx : nbd T (ps T (a + 5) k0) = _ := (by first | exact if_pos (by rw [hke]; exact h172) | exact if_neg (by rw [hke]; exact h172))
          rw [hx, hke]
          exact ⟨rfl, _, _, _, rfl⟩
        · skip
          refine Z.callVI (σ := (mS σ (ps T (a + 5) k + 1) (tK t T (a + 5) k) w (fi k (vs T (a + 5)) r))) B (M' := mX12_number) (as := [.int (mx ac 1 k)]) (st := []) (v := .int (nI 0)) dX12_item_202 wX12_number iX12_number sX12_number kX12_173 (hl.n (k := 45) (by decide)) (hl.k (k := 45) (by decide)) (by decide) rfl rfl (t_X12_num_nd (σ := σ) (t := (tK t T (a + 5) k)) (w := w) (r := (fi k (vs T (a + 5)) r)) hl ht (a := ps T (a + 5) k + 1) (by omega) hd0) rfl rfl (by decide) (by decide) (Nat.le_of_ble_eq_true rfl) (by decide) (by decide) ?_
          refine Z.if_neN B dX12_item_205 (tgt := 210) rfl (by omega) (fun h205 => (by omega)) (fun h205 => ?_)
          refine Z.iconst B dX12_item_208 (v := nI 0) rfl ?_
          refine Z.iret B Rt dX12_item_209 (ty := .boolean) rfl rfl (by decide) (by decide) ?_
          have hx : nbd T (ps T (a + 5) k0) = _ := (by first | exact if_pos (by rw [hke]; exact h172) | exact if_neg (by rw [hke]; exact h172))
          rw [hx, hke]
          exact ⟨rfl, _, _, _, rfl⟩
      · skip
        have h141 := h141
        refine Z.eqσ (τ := (mS σ (ps T (a + 5) k) (tK t T (a + 5) k) w (fi k (vs T (a + 5)) r))) (by rw [atK_s h141]) ?_
        refine Z.aload_n B dX12_item_144 (v := .ref 45) rfl rfl ?_
        refine Z.getI (σ := (mS σ (ps T (a + 5) k) (tK t T (a + 5) k) w (fi k (vs T (a + 5)) r))) B fX12_141_12 dX12_item_145 (hl.n (k := 45) (by decide)) (hl.k (k := 45) (by decide)) (by decide) (v := nI (ps T (a + 5) k)) mS_a ?_
        refine Z.aload_n B dX12_item_148 (v := .ref 45) rfl rfl ?_
        refine Z.getI (σ := (mS σ (ps T (a + 5) k) (tK t T (a + 5) k) w (fi k (vs T (a + 5)) r))) B fX12_144_12 dX12_item_149 (hl.n (k := 45) (by decide)) (hl.k (k := 45) (by decide)) (by decide) (v := nI m) ((mS_f (by decide) (by decide) (by decide)).trans hen) ?_
        refine Z.icmp_geN B dX12_item_152 (tgt := 175) rfl (by omega) (by omega) (fun h152 => ?_) (fun h152 => ?_)
        · skip
          have h172 : ¬ T (ps T (a + 5) k) = nI 32 := (fun e => by have := in_m ht (c := 31) e (by decide); omega)
          refine Z.aload_n B dX12_item_175 (v := .ref 45) rfl rfl ?_
          refine Z.aload_n B dX12_item_176 (v := .ref 45) rfl rfl ?_
          refine Z.getI (σ := (mS σ (ps T (a + 5) k) (tK t T (a + 5) k) w (fi k (vs T (a + 5)) r))) B fX12_141_12 dX12_item_177 (hl.n (k := 45) (by decide)) (hl.k (k := 45) (by decide)) (by decide) (v := nI (ps T (a + 5) k)) mS_a ?_
          refine Z.callVI (σ := (mS σ (ps T (a + 5) k) (tK t T (a + 5) k) w (fi k (vs T (a + 5)) r))) B (M' := mX12_wrong) (as := [.int (nI (ps T (a + 5) k))]) (st := []) (v := .int (nI 0)) dX12_item_180 wX12_wrong iX12_wrong sX12_wrong kX12_154 (hl.n (k := 45) (by decide)) (hl.k (k := 45) (by decide)) (by decide) rfl rfl (t_X12_wrong (σ := σ) (t := (tK t T (a + 5) k)) (w := w) (r := (fi k (vs T (a + 5)) r)) hl ht (a := (ps T (a + 5) k)) (by omega) (p := nI (ps T (a + 5) k))) rfl rfl (by decide) (by decide) (Nat.le_of_ble_eq_true rfl) (by decide) (by decide) ?_
          refine Z.iret B Rt dX12_item_183 (ty := .boolean) rfl rfl (by decide) (by decide) ?_
          have hx : nbd T (ps T (a + 5) k0) = _ := (by first | exact if_pos (by rw [hke]; exact h172) | exact if_neg (by rw [hke]; exact h172))
          rw [hx, hke]
          exact ⟨rfl, _, _, _, rfl⟩
        · skip
          refine Z.aload_n B dX12_item_155 (v := .ref 45) rfl rfl ?_
          refine Z.getR (σ := (mS σ (ps T (a + 5) k) (tK t T (a + 5) k) w (fi k (vs T (a + 5)) r))) B fX12_53_12 dX12_item_156 (hl.n (k := 45) (by decide)) (hl.k (k := 45) (by decide)) (by decide) (j := 58) (hl.r (k := 45) (f := 17) (by decide) (by decide)) ?_
          refine Z.aload_n B dX12_item_159 (v := .ref 45) rfl rfl ?_
          refine Z.getI (σ := (mS σ (ps T (a + 5) k) (tK t T (a + 5) k) w (fi k (vs T (a + 5)) r))) B fX12_147_12 dX12_item_160 (hl.n (k := 45) (by decide)) (hl.k (k := 45) (by decide)) (by decide) (v := nI (s * 160)) ((mS_f (by decide) (by decide) (by decide)).trans hbs) ?_
          refine Z.aload_n B dX12_item_163 (v := .ref 45) rfl rfl ?_
          refine Z.getI (σ := (mS σ (ps T (a + 5) k) (tK t T (a + 5) k) w (fi k (vs T (a + 5)) r))) B fX12_141_12 dX12_item_164 (hl.n (k := 45) (by decide)) (hl.k (k := 45) (by decide)) (by decide) (v := nI (ps T (a + 5) k)) mS_a ?_
          refine Z.iaddN B dX12_item_167 (a := s * 160) (b := ps T (a + 5) k) ?_
          refine Z.lald (σ := (mS σ (ps T (a + 5) k) (tK t T (a + 5) k) w (fi k (vs T (a + 5)) r))) B dX12_item_168 (n := 1280) (hl.n (k := 58) (by decide)) (hl.k (k := 58) (by decide)) (hl.l (k := 58) (by decide)) (by decide) (j := (s * 160) + (ps T (a + 5) k)) rfl (by omega) (v := (zY (mS σ (ps T (a + 5) k) (tK t T (a + 5) k) w (fi k (vs T (a + 5)) r)) 58 ((s * 160) + (ps T (a + 5) k)))) rfl ?_
          refine Z.l2i B dX12_item_169 ?_
          refine Z.eqS (st' := [.int (T (ps T (a + 5) k))]) (congrArg (fun z => Value.int z :: _) (ht.t (i := ps T (a + 5) k) (by omega))) ?_
          refine Z.bipush B dX12_item_170 (v := nI 32) rfl ?_
          refine Z.icmp_eq B dX12_item_172 (tgt := 184) rfl (fun h172 => ?_) (fun h172 => ?_)
          · skip
            refine Z.aload_n B dX12_item_184 (v := .ref 45) rfl rfl ?_
            refine Z.dup B dX12_item_185 rfl ?_
            refine Z.getI (σ := (mS σ (ps T (a + 5) k) (tK t T (a + 5) k) w (fi k (vs T (a + 5)) r))) B fX12_141_12 dX12_item_186 (hl.n (k := 45) (by decide)) (hl.k (k := 45) (by decide)) (by decide) (v := nI (ps T (a + 5) k)) mS_a ?_
            refine Z.iconst B dX12_item_189 (v := nI 1) rfl ?_
            refine Z.iaddN B dX12_item_190 (a := ps T (a + 5) k) (b := 1) ?_
            refine Z.putI (σ := (mS σ (ps T (a + 5) k) (tK t T (a + 5) k) w (fi k (vs T (a + 5)) r))) B fX12_141_12 (ty := .int) ⟨_, _, _, rfl, rfl, by decide +kernel⟩ dX12_item_191 (hl.n (k := 45) (by decide)) (hl.k (k := 45) (by decide)) (by decide) rfl rfl (τ := (zuX (mS σ (ps T (a + 5) k) (tK t T (a + 5) k) w (fi k (vs T (a + 5)) r)) 45 (upd (zX (mS σ (ps T (a + 5) k) (tK t T (a + 5) k) w (fi k (vs T (a + 5)) r)) 45) 22 (nI ((ps T (a + 5) k) + 1))))) rfl ?_
            refine Z.eqσ (τ := (mS σ (ps T (a + 5) k + 1) (tK t T (a + 5) k) w (fi k (vs T (a + 5)) r))) mS_ua ?_
            refine Z.aload_n B dX12_item_194 (v := .ref 45) rfl rfl ?_
            refine Z.aload_n B dX12_item_195 (v := .ref 45) rfl rfl ?_
            refine Z.iload_n B dX12_item_196 (x := nI 1) rfl ?_
            refine Z.iload B dX12_item_197 (x := nI k) rfl ?_
            refine Z.callVI (σ := (mS σ (ps T (a + 5) k + 1) (tK t T (a + 5) k) w (fi k (vs T (a + 5)) r))) B (M' := mX12_high) (as := [.int (nI 1), .int (nI k)]) (st := [.ref 45]) (v := .int (mx ac 1 k)) dX12_item_199 wX12_high iX12_high sX12_high kX12_170 (hl.n (k := 45) (by decide)) (hl.k (k := 45) (by decide)) (by decide) rfl rfl (t_X12_high (w := 1) (i := k) hl ((mS_f (by decide) (by decide) (by decide)).trans hac) (by decide) (by show k < 3; omega)) rfl rfl (by decide) (by decide) (Nat.le_of_ble_eq_true rfl) (by decide) (by decide) ?_
            rcases Bool.eq_false_or_eq_true (dg (T (ps T (a + 5) k + 1))) with hd1 | hd0
            · skip
              have hbig : ¬ nv T (ps T (a + 5) k + 1) ≤ (mx ac 1 k) := fun h => hb2 ⟨h172, hd1, h⟩
              refine Z.callVI (σ := (mS σ (ps T (a + 5) k + 1) (tK t T (a + 5) k) w (fi k (vs T (a + 5)) r))) B (M' := mX12_number) (as := [.int (mx ac 1 k)]) (st := []) (v := .int (nI 0)) dX12_item_202 wX12_number iX12_number sX12_number kX12_173 (hl.n (k := 45) (by decide)) (hl.k (k := 45) (by decide)) (by decide) rfl rfl (t_X12_num_big (σ := σ) (t := (tK t T (a + 5) k)) (w := w) (r := (fi k (vs T (a + 5)) r)) hl ht (a := ps T (a + 5) k + 1) (by omega) hd1 hbig) rfl rfl (by decide) (by decide) (Nat.le_of_ble_eq_true rfl) (by decide) (by decide) ?_
              refine Z.if_neN B dX12_item_205 (tgt := 210) rfl (by omega) (fun h205 => (by omega)) (fun h205 => ?_)
              refine Z.iconst B dX12_item_208 (v := nI 0) rfl ?_
              refine Z.iret B Rt dX12_item_209 (ty := .boolean) rfl rfl (by decide) (by decide) ?_
              have hx : nbd T (ps T (a + 5) k0) = _ := (by first | exact if_pos (by rw [hke]; exact h172) | exact if_neg (by rw [hke]; exact h172))
              rw [hx, hke]
              exact ⟨rfl, _, _, _, rfl⟩
            · skip
              refine Z.callVI (σ := (mS σ (ps T (a + 5) k + 1) (tK t T (a + 5) k) w (fi k (vs T (a + 5)) r))) B (M' := mX12_number) (as := [.int (mx ac 1 k)]) (st := []) (v := .int (nI 0)) dX12_item_202 wX12_number iX12_number sX12_number kX12_173 (hl.n (k := 45) (by decide)) (hl.k (k := 45) (by decide)) (by decide) rfl rfl (t_X12_num_nd (σ := σ) (t := (tK t T (a + 5) k)) (w := w) (r := (fi k (vs T (a + 5)) r)) hl ht (a := ps T (a + 5) k + 1) (by omega) hd0) rfl rfl (by decide) (by decide) (Nat.le_of_ble_eq_true rfl) (by decide) (by decide) ?_
              refine Z.if_neN B dX12_item_205 (tgt := 210) rfl (by omega) (fun h205 => (by omega)) (fun h205 => ?_)
              refine Z.iconst B dX12_item_208 (v := nI 0) rfl ?_
              refine Z.iret B Rt dX12_item_209 (ty := .boolean) rfl rfl (by decide) (by decide) ?_
              have hx : nbd T (ps T (a + 5) k0) = _ := (by first | exact if_pos (by rw [hke]; exact h172) | exact if_neg (by rw [hke]; exact h172))
              rw [hx, hke]
              exact ⟨rfl, _, _, _, rfl⟩
          · skip
            refine Z.aload_n B dX12_item_175 (v := .ref 45) rfl rfl ?_
            refine Z.aload_n B dX12_item_176 (v := .ref 45) rfl rfl ?_
            refine Z.getI (σ := (mS σ (ps T (a + 5) k) (tK t T (a + 5) k) w (fi k (vs T (a + 5)) r))) B fX12_141_12 dX12_item_177 (hl.n (k := 45) (by decide)) (hl.k (k := 45) (by decide)) (by decide) (v := nI (ps T (a + 5) k)) mS_a ?_
            refine Z.callVI (σ := (mS σ (ps T (a + 5) k) (tK t T (a + 5) k) w (fi k (vs T (a + 5)) r))) B (M' := mX12_wrong) (as := [.int (nI (ps T (a + 5) k))]) (st := []) (v := .int (nI 0)) dX12_item_180 wX12_wrong iX12_wrong sX12_wrong kX12_154 (hl.n (k := 45) (by decide)) (hl.k (k := 45) (by decide)) (by decide) rfl rfl (t_X12_wrong (σ := σ) (t := (tK t T (a + 5) k)) (w := w) (r := (fi k (vs T (a + 5)) r)) hl ht (a := (ps T (a + 5) k)) (by omega) (p := nI (ps T (a + 5) k))) rfl rfl (by decide) (by decide) (Nat.le_of_ble_eq_true rfl) (by decide) (by decide) ?_
            refine Z.iret B Rt dX12_item_183 (ty := .boolean) rfl rfl (by decide) (by decide) ?_
            have hx : nbd T (ps T (a + 5) k0) = _ := (by first | exact if_pos (by rw [hke]; exact h172) | exact if_neg (by rw [hke]; exact h172))
            rw [hx, hke]
            exact ⟨rfl, _, _, _, rfl⟩
  have h0 := hloop133 0 (Nat.zero_le _)
  rw [fi_0] at h0
  exact h0

theorem it_M_d1 {σ : zSt} {t w : Int32} {r : Nat → Int32} (hl : Lay σ) {s m : Nat} {T : Nat → Int32} (ht : zTm σ s m T) {a : Nat} (ha : a < 2 ^ 29) {n ac y : Nat} (H : zMd σ n ac y) (hw : wd T a = 1) (hs : T (a + 5) = nI 32) (hr : ac < 4) (hall : ∀ k, k < 3 → nok T (ps T (a + 5) k) (mx ac 1 k))  : Dt mX12_item [.ref 45] (mS σ a t w r) (some (.int (nI 1))) (zuX (zuX (zuX (zuX (zuX (mS σ (ps T (a + 5) 3) (vs T (a + 5) 2) w (fi 3 (vs T (a + 5)) r)) 48 (upd (zX (mS σ (ps T (a + 5) 3) (vs T (a + 5) 2) w (fi 3 (vs T (a + 5)) r)) 48) ac (zX (mS σ (ps T (a + 5) 3) (vs T (a + 5) 2) w (fi 3 (vs T (a + 5)) r)) 61 0))) 49 (upd (zX (mS σ (ps T (a + 5) 3) (vs T (a + 5) 2) w (fi 3 (vs T (a + 5)) r)) 49) ac (zX (mS σ (ps T (a + 5) 3) (vs T (a + 5) 2) w (fi 3 (vs T (a + 5)) r)) 61 1))) 50 (upd (zX (mS σ (ps T (a + 5) 3) (vs T (a + 5) 2) w (fi 3 (vs T (a + 5)) r)) 50) ac (zX (mS σ (ps T (a + 5) 3) (vs T (a + 5) 2) w (fi 3 (vs T (a + 5)) r)) 61 2))) 51 (upd (zX (mS σ (ps T (a + 5) 3) (vs T (a + 5) 2) w (fi 3 (vs T (a + 5)) r)) 51) ac (nI ac))) 45 (upd (zX (mS σ (ps T (a + 5) 3) (vs T (a + 5) 2) w (fi 3 (vs T (a + 5)) r)) 45) 1 (nI (ac + 1)))) := by
  obtain ⟨⟨hs8, hm160⟩, ⟨hbs, hen⟩, hT, hwd⟩ := id ht
  obtain ⟨-, hn, hn8, hac, hac4, hy, hy8⟩ := id H
  obtain ⟨hv, ho⟩ := wd_al (by decide) hw
  have hwl : wl 1 = 5 := rfl
  rw [hwl] at hv
  refine Dt.of (by decide) (Nat.le_of_ble_eq_true rfl) fun κ B Rt => ?_
  show Z κ 0 0 (mS σ a t w r) 0 [(0, .ref 45)] []
  refine Z.iconst B dX12_item_0 (v := nI 0) rfl ?_
  refine Z.istore_n B dX12_item_1 (by decide) (L' := [(0, .ref 45), (1, .int (nI 0))]) rfl ?_
  refine Z.iload_n B dX12_item_2 (x := nI 0) rfl ?_
  refine Z.iconst B dX12_item_3 (v := nI 4) rfl ?_
  refine Z.icmp_geN B dX12_item_4 (tgt := 38) rfl (by omega) (by omega) (fun h4 => by exfalso; first | omega | contradiction | simp_all) (fun h4 => ?_)
  refine Z.aload_n B dX12_item_7 (v := .ref 45) rfl rfl ?_
  refine Z.iload_n B dX12_item_8 (x := nI 0) rfl ?_
  refine Z.callVI (σ := (mS σ a t w r)) B (M' := mX12_isWordAt) (as := [.int (nI 0)]) (st := []) (v := .int (nI 0)) dX12_item_9 wX12_isWordAt iX12_isWordAt sX12_isWordAt kX12_160 (hl.n (k := 45) (by decide)) (hl.k (k := 45) (by decide)) (by decide) rfl rfl (t_X12_isW_0_0 (σ := σ) (t := t) (w := w) (r := r) hl ht (by omega) (by have := ho 0 (by decide) (by decide); omega)) rfl rfl (by decide) (by decide) (Nat.le_of_ble_eq_true rfl) (by decide) (by decide) ?_
  refine Z.if_eqN B dX12_item_12 (tgt := 32) rfl (by omega) (fun h12 => ?_) (fun h12 => by exfalso; first | omega | contradiction | simp_all)
  refine Z.iinc B dX12_item_32 (by decide) (x := nI 0) rfl (v := nI 1) (nI_inc 0) (L' := [(0, .ref 45), (1, .int (nI 1))]) rfl ?_
  refine Z.goto B dX12_item_35 (tgt := 2) rfl ?_
  refine Z.iload_n B dX12_item_2 (x := nI 1) rfl ?_
  refine Z.iconst B dX12_item_3 (v := nI 4) rfl ?_
  refine Z.icmp_geN B dX12_item_4 (tgt := 38) rfl (by omega) (by omega) (fun h4 => by exfalso; first | omega | contradiction | simp_all) (fun h4 => ?_)
  refine Z.aload_n B dX12_item_7 (v := .ref 45) rfl rfl ?_
  refine Z.iload_n B dX12_item_8 (x := nI 1) rfl ?_
  refine Z.callVI (σ := (mS σ a t w r)) B (M' := mX12_isWordAt) (as := [.int (nI 1)]) (st := []) (v := .int (nI 1)) dX12_item_9 wX12_isWordAt iX12_isWordAt sX12_isWordAt kX12_160 (hl.n (k := 45) (by decide)) (hl.k (k := 45) (by decide)) (by decide) rfl rfl (t_X12_isW_1_1 (σ := σ) (t := t) (w := w) (r := r) hl ht (by omega) hv) rfl rfl (by decide) (by decide) (Nat.le_of_ble_eq_true rfl) (by decide) (by decide) ?_
  refine Z.if_eqN B dX12_item_12 (tgt := 32) rfl (by omega) (fun h12 => by exfalso; first | omega | contradiction | simp_all) (fun h12 => ?_)
  refine Z.aload_n B dX12_item_15 (v := .ref 45) rfl rfl ?_
  refine Z.iload_n B dX12_item_16 (x := nI 1) rfl ?_
  refine Z.callVI (σ := (mS σ a t w r)) B (M' := mX12_isFull) (as := [.int (nI 1)]) (st := []) (v := .int (nI 0)) dX12_item_17 wX12_isFull iX12_isFull sX12_isFull kX12_163 (hl.n (k := 45) (by decide)) (hl.k (k := 45) (by decide)) (by decide) rfl rfl (t_X12_isFull_1_0 (σ := mS σ a t w r) hl ((mS_f (by decide) (by decide) (by decide)).trans hn) hn8 ((mS_f (by decide) (by decide) (by decide)).trans hac) hac4 ((mS_f (by decide) (by decide) (by decide)).trans hy) hy8 hr) rfl rfl (by decide) (by decide) (Nat.le_of_ble_eq_true rfl) (by decide) (by decide) ?_
  refine Z.if_eqN B dX12_item_20 (tgt := 32) rfl (by omega) (fun h20 => ?_) (fun h20 => by exfalso; first | omega | contradiction | simp_all)
  refine Z.iinc B dX12_item_32 (by decide) (x := nI 1) rfl (v := nI 2) (nI_inc 1) (L' := [(0, .ref 45), (1, .int (nI 2))]) rfl ?_
  refine Z.goto B dX12_item_35 (tgt := 2) rfl ?_
  refine Z.iload_n B dX12_item_2 (x := nI 2) rfl ?_
  refine Z.iconst B dX12_item_3 (v := nI 4) rfl ?_
  refine Z.icmp_geN B dX12_item_4 (tgt := 38) rfl (by omega) (by omega) (fun h4 => by exfalso; first | omega | contradiction | simp_all) (fun h4 => ?_)
  refine Z.aload_n B dX12_item_7 (v := .ref 45) rfl rfl ?_
  refine Z.iload_n B dX12_item_8 (x := nI 2) rfl ?_
  refine Z.callVI (σ := (mS σ a t w r)) B (M' := mX12_isWordAt) (as := [.int (nI 2)]) (st := []) (v := .int (nI 0)) dX12_item_9 wX12_isWordAt iX12_isWordAt sX12_isWordAt kX12_160 (hl.n (k := 45) (by decide)) (hl.k (k := 45) (by decide)) (by decide) rfl rfl (t_X12_isW_2_0 (σ := σ) (t := t) (w := w) (r := r) hl ht (by omega) (by have := ho 2 (by decide) (by decide); omega)) rfl rfl (by decide) (by decide) (Nat.le_of_ble_eq_true rfl) (by decide) (by decide) ?_
  refine Z.if_eqN B dX12_item_12 (tgt := 32) rfl (by omega) (fun h12 => ?_) (fun h12 => by exfalso; first | omega | contradiction | simp_all)
  refine Z.iinc B dX12_item_32 (by decide) (x := nI 2) rfl (v := nI 3) (nI_inc 2) (L' := [(0, .ref 45), (1, .int (nI 3))]) rfl ?_
  refine Z.goto B dX12_item_35 (tgt := 2) rfl ?_
  refine Z.iload_n B dX12_item_2 (x := nI 3) rfl ?_
  refine Z.iconst B dX12_item_3 (v := nI 4) rfl ?_
  refine Z.icmp_geN B dX12_item_4 (tgt := 38) rfl (by omega) (by omega) (fun h4 => by exfalso; first | omega | contradiction | simp_all) (fun h4 => ?_)
  refine Z.aload_n B dX12_item_7 (v := .ref 45) rfl rfl ?_
  refine Z.iload_n B dX12_item_8 (x := nI 3) rfl ?_
  refine Z.callVI (σ := (mS σ a t w r)) B (M' := mX12_isWordAt) (as := [.int (nI 3)]) (st := []) (v := .int (nI 0)) dX12_item_9 wX12_isWordAt iX12_isWordAt sX12_isWordAt kX12_160 (hl.n (k := 45) (by decide)) (hl.k (k := 45) (by decide)) (by decide) rfl rfl (t_X12_isW_3_0 (σ := σ) (t := t) (w := w) (r := r) hl ht (by omega) (by have := ho 3 (by decide) (by decide); omega)) rfl rfl (by decide) (by decide) (Nat.le_of_ble_eq_true rfl) (by decide) (by decide) ?_
  refine Z.if_eqN B dX12_item_12 (tgt := 32) rfl (by omega) (fun h12 => ?_) (fun h12 => by exfalso; first | omega | contradiction | simp_all)
  refine Z.iinc B dX12_item_32 (by decide) (x := nI 3) rfl (v := nI 4) (nI_inc 3) (L' := [(0, .ref 45), (1, .int (nI 4))]) rfl ?_
  refine Z.goto B dX12_item_35 (tgt := 2) rfl ?_
  refine Z.iload_n B dX12_item_2 (x := nI 4) rfl ?_
  refine Z.iconst B dX12_item_3 (v := nI 4) rfl ?_
  refine Z.icmp_geN B dX12_item_4 (tgt := 38) rfl (by omega) (by omega) (fun h4 => ?_) (fun h4 => by exfalso; first | omega | contradiction | simp_all)
  refine Z.aload_n B dX12_item_38 (v := .ref 45) rfl rfl ?_
  refine Z.getI (σ := (mS σ a t w r)) B fX12_141_12 dX12_item_39 (hl.n (k := 45) (by decide)) (hl.k (k := 45) (by decide)) (by decide) (v := nI a) mS_a ?_
  refine Z.istore_n B dX12_item_42 (by decide) (L' := [(0, .ref 45), (1, .int (nI a))]) rfl ?_
  refine Z.aload_n B dX12_item_43 (v := .ref 45) rfl rfl ?_
  refine Z.callVI (σ := (mS σ a t w r)) B (M' := mX12_word) (as := []) (st := []) (v := .int (nI 1)) dX12_item_44 wX12_word iX12_word sX12_word kX12_166 (hl.n (k := 45) (by decide)) (hl.k (k := 45) (by decide)) (by decide) rfl rfl (wdM_1 (σ := σ) (t := t) (w := w) (r := r) hl ht (by omega) hw hs) rfl rfl (by decide) (by decide) (Nat.le_of_ble_eq_true rfl) (by decide) (by decide) ?_
  refine Z.istore_n B dX12_item_47 (by decide) (L' := [(0, .ref 45), (1, .int (nI a)), (2, .int (nI 1))]) rfl ?_
  refine Z.iload_n B dX12_item_48 (x := nI 1) rfl ?_
  refine Z.iconst B dX12_item_49 (v := (-1)) rfl ?_
  refine Z.icmp_ne B dX12_item_50 (tgt := 55) rfl (fun h50 => ?_) (fun h50 => (by exfalso; revert h50; decide))
  refine Z.iload_n B dX12_item_55 (x := nI 1) rfl ?_
  refine Z.if_neN B dX12_item_56 (tgt := 68) rfl (by omega) (fun h56 => ?_) (fun h56 => by exfalso; first | omega | contradiction | simp_all)
  refine Z.iload_n B dX12_item_68 (x := nI 1) rfl ?_
  refine Z.iconst B dX12_item_69 (v := nI 1) rfl ?_
  refine Z.icmp_neN B dX12_item_70 (tgt := 81) rfl (by omega) (by omega) (fun h70 => by exfalso; first | omega | contradiction | simp_all) (fun h70 => ?_)
  refine Z.aload_n B dX12_item_73 (v := .ref 45) rfl rfl ?_
  refine Z.getI (σ := (mS σ (a + 5 + 1) t w r)) B fX12_84_12 dX12_item_74 (hl.n (k := 45) (by decide)) (hl.k (k := 45) (by decide)) (by decide) (v := nI ac) ((mS_f (by decide) (by decide) (by decide)).trans hac) ?_
  refine Z.iconst B dX12_item_77 (v := nI 4) rfl ?_
  refine Z.icmp_eqN B dX12_item_78 (tgt := 95) rfl (by omega) (by omega) (fun h78 => (by omega)) (fun h78 => ?_)
  refine Z.iload_n B dX12_item_81 (x := nI 1) rfl ?_
  refine Z.iconst B dX12_item_82 (v := nI 2) rfl ?_
  refine Z.icmp_neN B dX12_item_83 (tgt := 101) rfl (by omega) (by omega) (fun h83 => ?_) (fun h83 => by exfalso; first | omega | contradiction | simp_all)
  refine Z.iload_n B dX12_item_101 (x := nI 1) rfl ?_
  refine Z.if_neN B dX12_item_102 (tgt := 110) rfl (by omega) (fun h102 => ?_) (fun h102 => by exfalso; first | omega | contradiction | simp_all)
  refine Z.iload_n B dX12_item_110 (x := nI 1) rfl ?_
  refine Z.iconst B dX12_item_111 (v := nI 1) rfl ?_
  refine Z.icmp_neN B dX12_item_112 (tgt := 119) rfl (by omega) (by omega) (fun h112 => by exfalso; first | omega | contradiction | simp_all) (fun h112 => ?_)
  refine Z.iconst B dX12_item_115 (v := nI 3) rfl ?_
  refine Z.goto B dX12_item_116 (tgt := 129) rfl ?_
  refine Z.istore_n B dX12_item_129 (by decide) (L' := [(0, .ref 45), (1, .int (nI a)), (2, .int (nI 1)), (3, .int (nI 3))]) rfl ?_
  refine Z.iconst B dX12_item_130 (v := nI 0) rfl ?_
  refine Z.istore B dX12_item_131 (by decide) (L' := [(0, .ref 45), (1, .int (nI a)), (2, .int (nI 1)), (3, .int (nI 3)), (4, .int (nI 0))]) rfl ?_
  have hloop133 : ∀ k : Nat, k ≤ 3 → Z κ 0 0 (mS σ (atK T (a + 5) k) (tK t T (a + 5) k) w (fi k (vs T (a + 5)) r)) 133 [(0, .ref 45), (1, .int (nI a)), (2, .int (nI 1)), (3, .int (nI 3)), (4, .int (nI k))] [] := by
    refine z_loop (fun k => 3 - k) (fun k ih hkc => ?_)
    have hps := ps_le (T := T) (p := a + 5) k
    refine Z.iload B dX12_item_133 (x := nI k) rfl ?_
    refine Z.iload_n B dX12_item_135 (x := nI 3) rfl ?_
    refine Z.icmp_geN B dX12_item_136 (tgt := 227) rfl (by omega) (by omega) (fun h136 => ?_) (fun h136 => ?_)
    · skip
      obtain rfl : k = 3 := by omega
      refine Z.eqσ (τ := (mS σ (ps T (a + 5) 3) (vs T (a + 5) 2) w (fi 3 (vs T (a + 5)) r))) rfl ?_
      refine Z.iload_n B dX12_item_227 (x := nI 1) rfl ?_
      refine Z.tabIn B dX12_item_228 (by decide) (by decide) (off := 79) (by decide) (tgt := 307) rfl ?_
      refine Z.aload_n B dX12_item_307 (v := .ref 45) rfl rfl ?_
      refine Z.aload_n B dX12_item_308 (v := .ref 45) rfl rfl ?_
      refine Z.getR (σ := (mS σ (ps T (a + 5) 3) (vs T (a + 5) 2) w (fi 3 (vs T (a + 5)) r))) B fX12_63_12 dX12_item_309 (hl.n (k := 45) (by decide)) (hl.k (k := 45) (by decide)) (by decide) (j := 61) (hl.r (k := 45) (f := 20) (by decide) (by decide)) ?_
      refine Z.iconst B dX12_item_312 (v := nI 0) rfl ?_
      refine Z.iald (σ := (mS σ (ps T (a + 5) 3) (vs T (a + 5) 2) w (fi 3 (vs T (a + 5)) r))) B dX12_item_313 (n := 6) (hl.n (k := 61) (by decide)) (hl.k (k := 61) (by decide)) (hl.l (k := 61) (by decide)) (by decide) (j := 0) rfl (by omega) (v := (zX (mS σ (ps T (a + 5) 3) (vs T (a + 5) 2) w (fi 3 (vs T (a + 5)) r)) 61 0)) rfl ?_
      refine Z.aload_n B dX12_item_314 (v := .ref 45) rfl rfl ?_
      refine Z.getR (σ := (mS σ (ps T (a + 5) 3) (vs T (a + 5) 2) w (fi 3 (vs T (a + 5)) r))) B fX12_63_12 dX12_item_315 (hl.n (k := 45) (by decide)) (hl.k (k := 45) (by decide)) (by decide) (j := 61) (hl.r (k := 45) (f := 20) (by decide) (by decide)) ?_
      refine Z.iconst B dX12_item_318 (v := nI 1) rfl ?_
      refine Z.iald (σ := (mS σ (ps T (a + 5) 3) (vs T (a + 5) 2) w (fi 3 (vs T (a + 5)) r))) B dX12_item_319 (n := 6) (hl.n (k := 61) (by decide)) (hl.k (k := 61) (by decide)) (hl.l (k := 61) (by decide)) (by decide) (j := 1) rfl (by omega) (v := (zX (mS σ (ps T (a + 5) 3) (vs T (a + 5) 2) w (fi 3 (vs T (a + 5)) r)) 61 1)) rfl ?_
      refine Z.aload_n B dX12_item_320 (v := .ref 45) rfl rfl ?_
      refine Z.getR (σ := (mS σ (ps T (a + 5) 3) (vs T (a + 5) 2) w (fi 3 (vs T (a + 5)) r))) B fX12_63_12 dX12_item_321 (hl.n (k := 45) (by decide)) (hl.k (k := 45) (by decide)) (by decide) (j := 61) (hl.r (k := 45) (f := 20) (by decide) (by decide)) ?_
      refine Z.iconst B dX12_item_324 (v := nI 2) rfl ?_
      refine Z.iald (σ := (mS σ (ps T (a + 5) 3) (vs T (a + 5) 2) w (fi 3 (vs T (a + 5)) r))) B dX12_item_325 (n := 6) (hl.n (k := 61) (by decide)) (hl.k (k := 61) (by decide)) (hl.l (k := 61) (by decide)) (by decide) (j := 2) rfl (by omega) (v := (zX (mS σ (ps T (a + 5) 3) (vs T (a + 5) 2) w (fi 3 (vs T (a + 5)) r)) 61 2)) rfl ?_
      refine Z.callVI (σ := (mS σ (ps T (a + 5) 3) (vs T (a + 5) 2) w (fi 3 (vs T (a + 5)) r))) B (M' := mX12_askers) (as := [.int (zX (mS σ (ps T (a + 5) 3) (vs T (a + 5) 2) w (fi 3 (vs T (a + 5)) r)) 61 0), .int (zX (mS σ (ps T (a + 5) 3) (vs T (a + 5) 2) w (fi 3 (vs T (a + 5)) r)) 61 1), .int (zX (mS σ (ps T (a + 5) 3) (vs T (a + 5) 2) w (fi 3 (vs T (a + 5)) r)) 61 2)]) (st := []) (v := .int (nI ac)) dX12_item_326 wX12_askers iX12_askers sX12_askers kX12_121 (hl.n (k := 45) (by decide)) (hl.k (k := 45) (by decide)) (by decide) rfl rfl (t_M_askers_ (σ := (mS σ (ps T (a + 5) 3) (vs T (a + 5) 2) w (fi 3 (vs T (a + 5)) r))) hl H.mS hr) rfl rfl (by decide) (by decide) (Nat.le_of_ble_eq_true rfl) (by decide) (by decide) ?_
      refine Z.eqσ (τ := (zuX (zuX (zuX (zuX (zuX (mS σ (ps T (a + 5) 3) (vs T (a + 5) 2) w (fi 3 (vs T (a + 5)) r)) 48 (upd (zX (mS σ (ps T (a + 5) 3) (vs T (a + 5) 2) w (fi 3 (vs T (a + 5)) r)) 48) ac (zX (mS σ (ps T (a + 5) 3) (vs T (a + 5) 2) w (fi 3 (vs T (a + 5)) r)) 61 0))) 49 (upd (zX (mS σ (ps T (a + 5) 3) (vs T (a + 5) 2) w (fi 3 (vs T (a + 5)) r)) 49) ac (zX (mS σ (ps T (a + 5) 3) (vs T (a + 5) 2) w (fi 3 (vs T (a + 5)) r)) 61 1))) 50 (upd (zX (mS σ (ps T (a + 5) 3) (vs T (a + 5) 2) w (fi 3 (vs T (a + 5)) r)) 50) ac (zX (mS σ (ps T (a + 5) 3) (vs T (a + 5) 2) w (fi 3 (vs T (a + 5)) r)) 61 2))) 51 (upd (zX (mS σ (ps T (a + 5) 3) (vs T (a + 5) 2) w (fi 3 (vs T (a + 5)) r)) 51) ac (nI ac))) 45 (upd (zX (mS σ (ps T (a + 5) 3) (vs T (a + 5) 2) w (fi 3 (vs T (a + 5)) r)) 45) 1 (nI (ac + 1))))) rfl ?_
      refine Z.pop B dX12_item_329 rfl ?_
      refine Z.goto B dX12_item_330 (tgt := 364) rfl ?_
      refine Z.iconst B dX12_item_364 (v := nI 1) rfl ?_
      refine Z.iret B Rt dX12_item_365 (ty := .boolean) rfl rfl (by decide) (by decide) ?_
      exact ⟨rfl, rfl⟩
    · skip
      have hk := hall k (by omega)
      refine Z.iload B dX12_item_139 (x := nI k) rfl ?_
      refine Z.if_leN B dX12_item_141 (tgt := 194) rfl (by omega) (fun h141 => ?_) (fun h141 => ?_)
      · skip
        refine Z.eqσ (τ := (mS σ (ps T (a + 5) k + 1) (tK t T (a + 5) k) w (fi k (vs T (a + 5)) r))) (by rw [atK_0 h141]) ?_
        refine Z.aload_n B dX12_item_194 (v := .ref 45) rfl rfl ?_
        refine Z.aload_n B dX12_item_195 (v := .ref 45) rfl rfl ?_
        refine Z.iload_n B dX12_item_196 (x := nI 1) rfl ?_
        refine Z.iload B dX12_item_197 (x := nI k) rfl ?_
        refine Z.callVI (σ := (mS σ (ps T (a + 5) k + 1) (tK t T (a + 5) k) w (fi k (vs T (a + 5)) r))) B (M' := mX12_high) (as := [.int (nI 1), .int (nI k)]) (st := [.ref 45]) (v := .int (mx ac 1 k)) dX12_item_199 wX12_high iX12_high sX12_high kX12_170 (hl.n (k := 45) (by decide)) (hl.k (k := 45) (by decide)) (by decide) rfl rfl (t_X12_high (w := 1) (i := k) hl ((mS_f (by decide) (by decide) (by decide)).trans hac) (by decide) (by show k < 3; omega)) rfl rfl (by decide) (by decide) (Nat.le_of_ble_eq_true rfl) (by decide) (by decide) ?_
        refine Z.callVI (σ := (mS σ (ps T (a + 5) k + 1) (tK t T (a + 5) k) w (fi k (vs T (a + 5)) r))) B (M' := mX12_number) (as := [.int (mx ac 1 k)]) (st := []) (v := .int (nI 1)) dX12_item_202 wX12_number iX12_number sX12_number kX12_173 (hl.n (k := 45) (by decide)) (hl.k (k := 45) (by decide)) (by decide) rfl rfl (t_X12_num_ok (σ := σ) (t := (tK t T (a + 5) k)) (w := w) (r := (fi k (vs T (a + 5)) r)) hl ht (a := ps T (a + 5) k + 1) (by omega) hk.2.1 hk.2.2) rfl rfl (by decide) (by decide) (Nat.le_of_ble_eq_true rfl) (by decide) (by decide) ?_
        refine Z.eqσ (τ := (mS σ (ps T (a + 5) (k + 1)) (vs T (a + 5) k) w (fi k (vs T (a + 5)) r))) (congrArg (fun q => mS σ q (vs T (a + 5) k) w (fi k (vs T (a + 5)) r)) (ps_ok hk).symm) ?_
        refine Z.if_neN B dX12_item_205 (tgt := 210) rfl (by omega) (fun h205 => ?_) (fun h205 => (by omega))
        refine Z.aload_n B dX12_item_210 (v := .ref 45) rfl rfl ?_
        refine Z.getR (σ := (mS σ (ps T (a + 5) (k + 1)) (vs T (a + 5) k) w (fi k (vs T (a + 5)) r))) B fX12_63_12 dX12_item_211 (hl.n (k := 45) (by decide)) (hl.k (k := 45) (by decide)) (by decide) (j := 61) (hl.r (k := 45) (f := 20) (by decide) (by decide)) ?_
        refine Z.iload B dX12_item_214 (x := nI k) rfl ?_
        refine Z.aload_n B dX12_item_216 (v := .ref 45) rfl rfl ?_
        refine Z.getI (σ := (mS σ (ps T (a + 5) (k + 1)) (vs T (a + 5) k) w (fi k (vs T (a + 5)) r))) B fX12_157_12 dX12_item_217 (hl.n (k := 45) (by decide)) (hl.k (k := 45) (by decide)) (by decide) (v := (vs T (a + 5) k)) mS_t ?_
        refine Z.iast (σ := (mS σ (ps T (a + 5) (k + 1)) (vs T (a + 5) k) w (fi k (vs T (a + 5)) r))) B dX12_item_220 (n := 6) (hl.n (k := 61) (by decide)) (hl.k (k := 61) (by decide)) (hl.l (k := 61) (by decide)) (by decide) (j := k) rfl (by omega) (τ := (zuX (mS σ (ps T (a + 5) (k + 1)) (vs T (a + 5) k) w (fi k (vs T (a + 5)) r)) 61 (upd (zX (mS σ (ps T (a + 5) (k + 1)) (vs T (a + 5) k) w (fi k (vs T (a + 5)) r)) 61) k (vs T (a + 5) k)))) rfl ?_
        refine Z.eqσ (τ := (mS σ (ps T (a + 5) (k + 1)) (vs T (a + 5) k) w (fi (k + 1) (vs T (a + 5)) r))) (by rw [mS_r, fi_s (f := vs T (a + 5)) rfl]; exact mS_ur) ?_
        refine Z.iincN B dX12_item_221 (by decide) (a := k) rfl (L' := [(0, .ref 45), (1, .int (nI a)), (2, .int (nI 1)), (3, .int (nI 3)), (4, .int (nI (k + 1)))]) rfl ?_
        refine Z.goto B dX12_item_224 (tgt := 133) rfl ?_
        exact ih (k + 1) (by omega) (by omega)
      · skip
        have h141 := h141
        refine Z.eqσ (τ := (mS σ (ps T (a + 5) k) (tK t T (a + 5) k) w (fi k (vs T (a + 5)) r))) (by rw [atK_s h141]) ?_
        refine Z.aload_n B dX12_item_144 (v := .ref 45) rfl rfl ?_
        refine Z.getI (σ := (mS σ (ps T (a + 5) k) (tK t T (a + 5) k) w (fi k (vs T (a + 5)) r))) B fX12_141_12 dX12_item_145 (hl.n (k := 45) (by decide)) (hl.k (k := 45) (by decide)) (by decide) (v := nI (ps T (a + 5) k)) mS_a ?_
        refine Z.aload_n B dX12_item_148 (v := .ref 45) rfl rfl ?_
        refine Z.getI (σ := (mS σ (ps T (a + 5) k) (tK t T (a + 5) k) w (fi k (vs T (a + 5)) r))) B fX12_144_12 dX12_item_149 (hl.n (k := 45) (by decide)) (hl.k (k := 45) (by decide)) (by decide) (v := nI m) ((mS_f (by decide) (by decide) (by decide)).trans hen) ?_
        refine Z.icmp_geN B dX12_item_152 (tgt := 175) rfl (by omega) (by omega) (fun h152 => (by have := in_m ht (c := 31) hk.1 (by decide); omega)) (fun h152 => ?_)
        refine Z.aload_n B dX12_item_155 (v := .ref 45) rfl rfl ?_
        refine Z.getR (σ := (mS σ (ps T (a + 5) k) (tK t T (a + 5) k) w (fi k (vs T (a + 5)) r))) B fX12_53_12 dX12_item_156 (hl.n (k := 45) (by decide)) (hl.k (k := 45) (by decide)) (by decide) (j := 58) (hl.r (k := 45) (f := 17) (by decide) (by decide)) ?_
        refine Z.aload_n B dX12_item_159 (v := .ref 45) rfl rfl ?_
        refine Z.getI (σ := (mS σ (ps T (a + 5) k) (tK t T (a + 5) k) w (fi k (vs T (a + 5)) r))) B fX12_147_12 dX12_item_160 (hl.n (k := 45) (by decide)) (hl.k (k := 45) (by decide)) (by decide) (v := nI (s * 160)) ((mS_f (by decide) (by decide) (by decide)).trans hbs) ?_
        refine Z.aload_n B dX12_item_163 (v := .ref 45) rfl rfl ?_
        refine Z.getI (σ := (mS σ (ps T (a + 5) k) (tK t T (a + 5) k) w (fi k (vs T (a + 5)) r))) B fX12_141_12 dX12_item_164 (hl.n (k := 45) (by decide)) (hl.k (k := 45) (by decide)) (by decide) (v := nI (ps T (a + 5) k)) mS_a ?_
        refine Z.iaddN B dX12_item_167 (a := s * 160) (b := ps T (a + 5) k) ?_
        refine Z.lald (σ := (mS σ (ps T (a + 5) k) (tK t T (a + 5) k) w (fi k (vs T (a + 5)) r))) B dX12_item_168 (n := 1280) (hl.n (k := 58) (by decide)) (hl.k (k := 58) (by decide)) (hl.l (k := 58) (by decide)) (by decide) (j := (s * 160) + (ps T (a + 5) k)) rfl (by have := in_m ht (c := 31) hk.1 (by decide); omega) (v := (zY (mS σ (ps T (a + 5) k) (tK t T (a + 5) k) w (fi k (vs T (a + 5)) r)) 58 ((s * 160) + (ps T (a + 5) k)))) rfl ?_
        refine Z.l2i B dX12_item_169 ?_
        refine Z.eqS (st' := [.int (T (ps T (a + 5) k))]) (congrArg (fun z => Value.int z :: _) (ht.t (i := ps T (a + 5) k) (in_m ht (c := 31) hk.1 (by decide)))) ?_
        refine Z.bipush B dX12_item_170 (v := nI 32) rfl ?_
        refine Z.icmp_eq B dX12_item_172 (tgt := 184) rfl (fun h172 => ?_) (fun h172 => (absurd hk.1 h172))
        refine Z.aload_n B dX12_item_184 (v := .ref 45) rfl rfl ?_
        refine Z.dup B dX12_item_185 rfl ?_
        refine Z.getI (σ := (mS σ (ps T (a + 5) k) (tK t T (a + 5) k) w (fi k (vs T (a + 5)) r))) B fX12_141_12 dX12_item_186 (hl.n (k := 45) (by decide)) (hl.k (k := 45) (by decide)) (by decide) (v := nI (ps T (a + 5) k)) mS_a ?_
        refine Z.iconst B dX12_item_189 (v := nI 1) rfl ?_
        refine Z.iaddN B dX12_item_190 (a := ps T (a + 5) k) (b := 1) ?_
        refine Z.putI (σ := (mS σ (ps T (a + 5) k) (tK t T (a + 5) k) w (fi k (vs T (a + 5)) r))) B fX12_141_12 (ty := .int) ⟨_, _, _, rfl, rfl, by decide +kernel⟩ dX12_item_191 (hl.n (k := 45) (by decide)) (hl.k (k := 45) (by decide)) (by decide) rfl rfl (τ := (zuX (mS σ (ps T (a + 5) k) (tK t T (a + 5) k) w (fi k (vs T (a + 5)) r)) 45 (upd (zX (mS σ (ps T (a + 5) k) (tK t T (a + 5) k) w (fi k (vs T (a + 5)) r)) 45) 22 (nI ((ps T (a + 5) k) + 1))))) rfl ?_
        refine Z.eqσ (τ := (mS σ (ps T (a + 5) k + 1) (tK t T (a + 5) k) w (fi k (vs T (a + 5)) r))) mS_ua ?_
        refine Z.aload_n B dX12_item_194 (v := .ref 45) rfl rfl ?_
        refine Z.aload_n B dX12_item_195 (v := .ref 45) rfl rfl ?_
        refine Z.iload_n B dX12_item_196 (x := nI 1) rfl ?_
        refine Z.iload B dX12_item_197 (x := nI k) rfl ?_
        refine Z.callVI (σ := (mS σ (ps T (a + 5) k + 1) (tK t T (a + 5) k) w (fi k (vs T (a + 5)) r))) B (M' := mX12_high) (as := [.int (nI 1), .int (nI k)]) (st := [.ref 45]) (v := .int (mx ac 1 k)) dX12_item_199 wX12_high iX12_high sX12_high kX12_170 (hl.n (k := 45) (by decide)) (hl.k (k := 45) (by decide)) (by decide) rfl rfl (t_X12_high (w := 1) (i := k) hl ((mS_f (by decide) (by decide) (by decide)).trans hac) (by decide) (by show k < 3; omega)) rfl rfl (by decide) (by decide) (Nat.le_of_ble_eq_true rfl) (by decide) (by decide) ?_
        refine Z.callVI (σ := (mS σ (ps T (a + 5) k + 1) (tK t T (a + 5) k) w (fi k (vs T (a + 5)) r))) B (M' := mX12_number) (as := [.int (mx ac 1 k)]) (st := []) (v := .int (nI 1)) dX12_item_202 wX12_number iX12_number sX12_number kX12_173 (hl.n (k := 45) (by decide)) (hl.k (k := 45) (by decide)) (by decide) rfl rfl (t_X12_num_ok (σ := σ) (t := (tK t T (a + 5) k)) (w := w) (r := (fi k (vs T (a + 5)) r)) hl ht (a := ps T (a + 5) k + 1) (by omega) hk.2.1 hk.2.2) rfl rfl (by decide) (by decide) (Nat.le_of_ble_eq_true rfl) (by decide) (by decide) ?_
        refine Z.eqσ (τ := (mS σ (ps T (a + 5) (k + 1)) (vs T (a + 5) k) w (fi k (vs T (a + 5)) r))) (congrArg (fun q => mS σ q (vs T (a + 5) k) w (fi k (vs T (a + 5)) r)) (ps_ok hk).symm) ?_
        refine Z.if_neN B dX12_item_205 (tgt := 210) rfl (by omega) (fun h205 => ?_) (fun h205 => (by omega))
        refine Z.aload_n B dX12_item_210 (v := .ref 45) rfl rfl ?_
        refine Z.getR (σ := (mS σ (ps T (a + 5) (k + 1)) (vs T (a + 5) k) w (fi k (vs T (a + 5)) r))) B fX12_63_12 dX12_item_211 (hl.n (k := 45) (by decide)) (hl.k (k := 45) (by decide)) (by decide) (j := 61) (hl.r (k := 45) (f := 20) (by decide) (by decide)) ?_
        refine Z.iload B dX12_item_214 (x := nI k) rfl ?_
        refine Z.aload_n B dX12_item_216 (v := .ref 45) rfl rfl ?_
        refine Z.getI (σ := (mS σ (ps T (a + 5) (k + 1)) (vs T (a + 5) k) w (fi k (vs T (a + 5)) r))) B fX12_157_12 dX12_item_217 (hl.n (k := 45) (by decide)) (hl.k (k := 45) (by decide)) (by decide) (v := (vs T (a + 5) k)) mS_t ?_
        refine Z.iast (σ := (mS σ (ps T (a + 5) (k + 1)) (vs T (a + 5) k) w (fi k (vs T (a + 5)) r))) B dX12_item_220 (n := 6) (hl.n (k := 61) (by decide)) (hl.k (k := 61) (by decide)) (hl.l (k := 61) (by decide)) (by decide) (j := k) rfl (by omega) (τ := (zuX (mS σ (ps T (a + 5) (k + 1)) (vs T (a + 5) k) w (fi k (vs T (a + 5)) r)) 61 (upd (zX (mS σ (ps T (a + 5) (k + 1)) (vs T (a + 5) k) w (fi k (vs T (a + 5)) r)) 61) k (vs T (a + 5) k)))) rfl ?_
        refine Z.eqσ (τ := (mS σ (ps T (a + 5) (k + 1)) (vs T (a + 5) k) w (fi (k + 1) (vs T (a + 5)) r))) (by rw [mS_r, fi_s (f := vs T (a + 5)) rfl]; exact mS_ur) ?_
        refine Z.iincN B dX12_item_221 (by decide) (a := k) rfl (L' := [(0, .ref 45), (1, .int (nI a)), (2, .int (nI 1)), (3, .int (nI 3)), (4, .int (nI (k + 1)))]) rfl ?_
        refine Z.goto B dX12_item_224 (tgt := 133) rfl ?_
        exact ih (k + 1) (by omega) (by omega)
  have h0 := hloop133 0 (Nat.zero_le _)
  rw [fi_0] at h0
  exact h0

theorem it_M_b2 {σ : zSt} {t w : Int32} {r : Nat → Int32} (hl : Lay σ) {s m : Nat} {T : Nat → Int32} (ht : zTm σ s m T) {a : Nat} (ha : a < 2 ^ 29) {n ac y : Nat} (H : zMd σ n ac y) (hw : wd T a = 2) (hr : y = 8) : Dt mX12_item [.ref 45] (mS σ a t w r) (some (.int (nI 0))) (mS σ a t (nI a) r) := by
  obtain ⟨⟨hs8, hm160⟩, ⟨hbs, hen⟩, hT, hwd⟩ := id ht
  obtain ⟨-, hn, hn8, hac, hac4, hy, hy8⟩ := id H
  obtain ⟨hv, ho⟩ := wd_al (by decide) hw
  have hwl : wl 2 = 3 := rfl
  rw [hwl] at hv
  refine Dt.of (by decide) (Nat.le_of_ble_eq_true rfl) fun κ B Rt => ?_
  show Z κ 0 0 (mS σ a t w r) 0 [(0, .ref 45)] []
  refine Z.iconst B dX12_item_0 (v := nI 0) rfl ?_
  refine Z.istore_n B dX12_item_1 (by decide) (L' := [(0, .ref 45), (1, .int (nI 0))]) rfl ?_
  refine Z.iload_n B dX12_item_2 (x := nI 0) rfl ?_
  refine Z.iconst B dX12_item_3 (v := nI 4) rfl ?_
  refine Z.icmp_geN B dX12_item_4 (tgt := 38) rfl (by omega) (by omega) (fun h4 => by exfalso; first | omega | contradiction | simp_all) (fun h4 => ?_)
  refine Z.aload_n B dX12_item_7 (v := .ref 45) rfl rfl ?_
  refine Z.iload_n B dX12_item_8 (x := nI 0) rfl ?_
  refine Z.callVI (σ := (mS σ a t w r)) B (M' := mX12_isWordAt) (as := [.int (nI 0)]) (st := []) (v := .int (nI 0)) dX12_item_9 wX12_isWordAt iX12_isWordAt sX12_isWordAt kX12_160 (hl.n (k := 45) (by decide)) (hl.k (k := 45) (by decide)) (by decide) rfl rfl (t_X12_isW_0_0 (σ := σ) (t := t) (w := w) (r := r) hl ht (by omega) (by have := ho 0 (by decide) (by decide); omega)) rfl rfl (by decide) (by decide) (Nat.le_of_ble_eq_true rfl) (by decide) (by decide) ?_
  refine Z.if_eqN B dX12_item_12 (tgt := 32) rfl (by omega) (fun h12 => ?_) (fun h12 => by exfalso; first | omega | contradiction | simp_all)
  refine Z.iinc B dX12_item_32 (by decide) (x := nI 0) rfl (v := nI 1) (nI_inc 0) (L' := [(0, .ref 45), (1, .int (nI 1))]) rfl ?_
  refine Z.goto B dX12_item_35 (tgt := 2) rfl ?_
  refine Z.iload_n B dX12_item_2 (x := nI 1) rfl ?_
  refine Z.iconst B dX12_item_3 (v := nI 4) rfl ?_
  refine Z.icmp_geN B dX12_item_4 (tgt := 38) rfl (by omega) (by omega) (fun h4 => by exfalso; first | omega | contradiction | simp_all) (fun h4 => ?_)
  refine Z.aload_n B dX12_item_7 (v := .ref 45) rfl rfl ?_
  refine Z.iload_n B dX12_item_8 (x := nI 1) rfl ?_
  refine Z.callVI (σ := (mS σ a t w r)) B (M' := mX12_isWordAt) (as := [.int (nI 1)]) (st := []) (v := .int (nI 0)) dX12_item_9 wX12_isWordAt iX12_isWordAt sX12_isWordAt kX12_160 (hl.n (k := 45) (by decide)) (hl.k (k := 45) (by decide)) (by decide) rfl rfl (t_X12_isW_1_0 (σ := σ) (t := t) (w := w) (r := r) hl ht (by omega) (by have := ho 1 (by decide) (by decide); omega)) rfl rfl (by decide) (by decide) (Nat.le_of_ble_eq_true rfl) (by decide) (by decide) ?_
  refine Z.if_eqN B dX12_item_12 (tgt := 32) rfl (by omega) (fun h12 => ?_) (fun h12 => by exfalso; first | omega | contradiction | simp_all)
  refine Z.iinc B dX12_item_32 (by decide) (x := nI 1) rfl (v := nI 2) (nI_inc 1) (L' := [(0, .ref 45), (1, .int (nI 2))]) rfl ?_
  refine Z.goto B dX12_item_35 (tgt := 2) rfl ?_
  refine Z.iload_n B dX12_item_2 (x := nI 2) rfl ?_
  refine Z.iconst B dX12_item_3 (v := nI 4) rfl ?_
  refine Z.icmp_geN B dX12_item_4 (tgt := 38) rfl (by omega) (by omega) (fun h4 => by exfalso; first | omega | contradiction | simp_all) (fun h4 => ?_)
  refine Z.aload_n B dX12_item_7 (v := .ref 45) rfl rfl ?_
  refine Z.iload_n B dX12_item_8 (x := nI 2) rfl ?_
  refine Z.callVI (σ := (mS σ a t w r)) B (M' := mX12_isWordAt) (as := [.int (nI 2)]) (st := []) (v := .int (nI 1)) dX12_item_9 wX12_isWordAt iX12_isWordAt sX12_isWordAt kX12_160 (hl.n (k := 45) (by decide)) (hl.k (k := 45) (by decide)) (by decide) rfl rfl (t_X12_isW_2_1 (σ := σ) (t := t) (w := w) (r := r) hl ht (by omega) hv) rfl rfl (by decide) (by decide) (Nat.le_of_ble_eq_true rfl) (by decide) (by decide) ?_
  refine Z.if_eqN B dX12_item_12 (tgt := 32) rfl (by omega) (fun h12 => by exfalso; first | omega | contradiction | simp_all) (fun h12 => ?_)
  refine Z.aload_n B dX12_item_15 (v := .ref 45) rfl rfl ?_
  refine Z.iload_n B dX12_item_16 (x := nI 2) rfl ?_
  refine Z.callVI (σ := (mS σ a t w r)) B (M' := mX12_isFull) (as := [.int (nI 2)]) (st := []) (v := .int (nI 1)) dX12_item_17 wX12_isFull iX12_isFull sX12_isFull kX12_163 (hl.n (k := 45) (by decide)) (hl.k (k := 45) (by decide)) (by decide) rfl rfl (t_X12_isFull_2_1 (σ := mS σ a t w r) hl ((mS_f (by decide) (by decide) (by decide)).trans hn) hn8 ((mS_f (by decide) (by decide) (by decide)).trans hac) hac4 ((mS_f (by decide) (by decide) (by decide)).trans hy) hy8 hr) rfl rfl (by decide) (by decide) (Nat.le_of_ble_eq_true rfl) (by decide) (by decide) ?_
  refine Z.if_eqN B dX12_item_20 (tgt := 32) rfl (by omega) (fun h20 => by exfalso; first | omega | contradiction | simp_all) (fun h20 => ?_)
  refine Z.aload_n B dX12_item_23 (v := .ref 45) rfl rfl ?_
  refine Z.aload_n B dX12_item_24 (v := .ref 45) rfl rfl ?_
  refine Z.getI (σ := (mS σ a t w r)) B fX12_141_12 dX12_item_25 (hl.n (k := 45) (by decide)) (hl.k (k := 45) (by decide)) (by decide) (v := nI a) mS_a ?_
  refine Z.callVI (σ := (mS σ a t w r)) B (M' := mX12_wrong) (as := [.int (nI a)]) (st := []) (v := .int (nI 0)) dX12_item_28 wX12_wrong iX12_wrong sX12_wrong kX12_154 (hl.n (k := 45) (by decide)) (hl.k (k := 45) (by decide)) (by decide) rfl rfl (t_X12_wrong (σ := σ) (t := t) (w := w) (r := r) hl ht (a := a) (by omega) (p := nI a)) rfl rfl (by decide) (by decide) (Nat.le_of_ble_eq_true rfl) (by decide) (by decide) ?_
  refine Z.iret B Rt dX12_item_31 (ty := .boolean) rfl rfl (by decide) (by decide) ?_
  exact ⟨rfl, rfl⟩

theorem it_M_s2 {σ : zSt} {t w : Int32} {r : Nat → Int32} (hl : Lay σ) {s m : Nat} {T : Nat → Int32} (ht : zTm σ s m T) {a : Nat} (ha : a < 2 ^ 29) {n ac y : Nat} (H : zMd σ n ac y) (hw : wd T a = 2) (hr : y < 8) (hs : ¬ T (a + 3) = nI 32) : Dt mX12_item [.ref 45] (mS σ a t w r) (some (.int (nI 0))) (mS σ a t (nI (a + 3)) r) := by
  obtain ⟨⟨hs8, hm160⟩, ⟨hbs, hen⟩, hT, hwd⟩ := id ht
  obtain ⟨-, hn, hn8, hac, hac4, hy, hy8⟩ := id H
  obtain ⟨hv, ho⟩ := wd_al (by decide) hw
  have hwl : wl 2 = 3 := rfl
  rw [hwl] at hv
  refine Dt.of (by decide) (Nat.le_of_ble_eq_true rfl) fun κ B Rt => ?_
  show Z κ 0 0 (mS σ a t w r) 0 [(0, .ref 45)] []
  refine Z.iconst B dX12_item_0 (v := nI 0) rfl ?_
  refine Z.istore_n B dX12_item_1 (by decide) (L' := [(0, .ref 45), (1, .int (nI 0))]) rfl ?_
  refine Z.iload_n B dX12_item_2 (x := nI 0) rfl ?_
  refine Z.iconst B dX12_item_3 (v := nI 4) rfl ?_
  refine Z.icmp_geN B dX12_item_4 (tgt := 38) rfl (by omega) (by omega) (fun h4 => by exfalso; first | omega | contradiction | simp_all) (fun h4 => ?_)
  refine Z.aload_n B dX12_item_7 (v := .ref 45) rfl rfl ?_
  refine Z.iload_n B dX12_item_8 (x := nI 0) rfl ?_
  refine Z.callVI (σ := (mS σ a t w r)) B (M' := mX12_isWordAt) (as := [.int (nI 0)]) (st := []) (v := .int (nI 0)) dX12_item_9 wX12_isWordAt iX12_isWordAt sX12_isWordAt kX12_160 (hl.n (k := 45) (by decide)) (hl.k (k := 45) (by decide)) (by decide) rfl rfl (t_X12_isW_0_0 (σ := σ) (t := t) (w := w) (r := r) hl ht (by omega) (by have := ho 0 (by decide) (by decide); omega)) rfl rfl (by decide) (by decide) (Nat.le_of_ble_eq_true rfl) (by decide) (by decide) ?_
  refine Z.if_eqN B dX12_item_12 (tgt := 32) rfl (by omega) (fun h12 => ?_) (fun h12 => by exfalso; first | omega | contradiction | simp_all)
  refine Z.iinc B dX12_item_32 (by decide) (x := nI 0) rfl (v := nI 1) (nI_inc 0) (L' := [(0, .ref 45), (1, .int (nI 1))]) rfl ?_
  refine Z.goto B dX12_item_35 (tgt := 2) rfl ?_
  refine Z.iload_n B dX12_item_2 (x := nI 1) rfl ?_
  refine Z.iconst B dX12_item_3 (v := nI 4) rfl ?_
  refine Z.icmp_geN B dX12_item_4 (tgt := 38) rfl (by omega) (by omega) (fun h4 => by exfalso; first | omega | contradiction | simp_all) (fun h4 => ?_)
  refine Z.aload_n B dX12_item_7 (v := .ref 45) rfl rfl ?_
  refine Z.iload_n B dX12_item_8 (x := nI 1) rfl ?_
  refine Z.callVI (σ := (mS σ a t w r)) B (M' := mX12_isWordAt) (as := [.int (nI 1)]) (st := []) (v := .int (nI 0)) dX12_item_9 wX12_isWordAt iX12_isWordAt sX12_isWordAt kX12_160 (hl.n (k := 45) (by decide)) (hl.k (k := 45) (by decide)) (by decide) rfl rfl (t_X12_isW_1_0 (σ := σ) (t := t) (w := w) (r := r) hl ht (by omega) (by have := ho 1 (by decide) (by decide); omega)) rfl rfl (by decide) (by decide) (Nat.le_of_ble_eq_true rfl) (by decide) (by decide) ?_
  refine Z.if_eqN B dX12_item_12 (tgt := 32) rfl (by omega) (fun h12 => ?_) (fun h12 => by exfalso; first | omega | contradiction | simp_all)
  refine Z.iinc B dX12_item_32 (by decide) (x := nI 1) rfl (v := nI 2) (nI_inc 1) (L' := [(0, .ref 45), (1, .int (nI 2))]) rfl ?_
  refine Z.goto B dX12_item_35 (tgt := 2) rfl ?_
  refine Z.iload_n B dX12_item_2 (x := nI 2) rfl ?_
  refine Z.iconst B dX12_item_3 (v := nI 4) rfl ?_
  refine Z.icmp_geN B dX12_item_4 (tgt := 38) rfl (by omega) (by omega) (fun h4 => by exfalso; first | omega | contradiction | simp_all) (fun h4 => ?_)
  refine Z.aload_n B dX12_item_7 (v := .ref 45) rfl rfl ?_
  refine Z.iload_n B dX12_item_8 (x := nI 2) rfl ?_
  refine Z.callVI (σ := (mS σ a t w r)) B (M' := mX12_isWordAt) (as := [.int (nI 2)]) (st := []) (v := .int (nI 1)) dX12_item_9 wX12_isWordAt iX12_isWordAt sX12_isWordAt kX12_160 (hl.n (k := 45) (by decide)) (hl.k (k := 45) (by decide)) (by decide) rfl rfl (t_X12_isW_2_1 (σ := σ) (t := t) (w := w) (r := r) hl ht (by omega) hv) rfl rfl (by decide) (by decide) (Nat.le_of_ble_eq_true rfl) (by decide) (by decide) ?_
  refine Z.if_eqN B dX12_item_12 (tgt := 32) rfl (by omega) (fun h12 => by exfalso; first | omega | contradiction | simp_all) (fun h12 => ?_)
  refine Z.aload_n B dX12_item_15 (v := .ref 45) rfl rfl ?_
  refine Z.iload_n B dX12_item_16 (x := nI 2) rfl ?_
  refine Z.callVI (σ := (mS σ a t w r)) B (M' := mX12_isFull) (as := [.int (nI 2)]) (st := []) (v := .int (nI 0)) dX12_item_17 wX12_isFull iX12_isFull sX12_isFull kX12_163 (hl.n (k := 45) (by decide)) (hl.k (k := 45) (by decide)) (by decide) rfl rfl (t_X12_isFull_2_0 (σ := mS σ a t w r) hl ((mS_f (by decide) (by decide) (by decide)).trans hn) hn8 ((mS_f (by decide) (by decide) (by decide)).trans hac) hac4 ((mS_f (by decide) (by decide) (by decide)).trans hy) hy8 hr) rfl rfl (by decide) (by decide) (Nat.le_of_ble_eq_true rfl) (by decide) (by decide) ?_
  refine Z.if_eqN B dX12_item_20 (tgt := 32) rfl (by omega) (fun h20 => ?_) (fun h20 => by exfalso; first | omega | contradiction | simp_all)
  refine Z.iinc B dX12_item_32 (by decide) (x := nI 2) rfl (v := nI 3) (nI_inc 2) (L' := [(0, .ref 45), (1, .int (nI 3))]) rfl ?_
  refine Z.goto B dX12_item_35 (tgt := 2) rfl ?_
  refine Z.iload_n B dX12_item_2 (x := nI 3) rfl ?_
  refine Z.iconst B dX12_item_3 (v := nI 4) rfl ?_
  refine Z.icmp_geN B dX12_item_4 (tgt := 38) rfl (by omega) (by omega) (fun h4 => by exfalso; first | omega | contradiction | simp_all) (fun h4 => ?_)
  refine Z.aload_n B dX12_item_7 (v := .ref 45) rfl rfl ?_
  refine Z.iload_n B dX12_item_8 (x := nI 3) rfl ?_
  refine Z.callVI (σ := (mS σ a t w r)) B (M' := mX12_isWordAt) (as := [.int (nI 3)]) (st := []) (v := .int (nI 0)) dX12_item_9 wX12_isWordAt iX12_isWordAt sX12_isWordAt kX12_160 (hl.n (k := 45) (by decide)) (hl.k (k := 45) (by decide)) (by decide) rfl rfl (t_X12_isW_3_0 (σ := σ) (t := t) (w := w) (r := r) hl ht (by omega) (by have := ho 3 (by decide) (by decide); omega)) rfl rfl (by decide) (by decide) (Nat.le_of_ble_eq_true rfl) (by decide) (by decide) ?_
  refine Z.if_eqN B dX12_item_12 (tgt := 32) rfl (by omega) (fun h12 => ?_) (fun h12 => by exfalso; first | omega | contradiction | simp_all)
  refine Z.iinc B dX12_item_32 (by decide) (x := nI 3) rfl (v := nI 4) (nI_inc 3) (L' := [(0, .ref 45), (1, .int (nI 4))]) rfl ?_
  refine Z.goto B dX12_item_35 (tgt := 2) rfl ?_
  refine Z.iload_n B dX12_item_2 (x := nI 4) rfl ?_
  refine Z.iconst B dX12_item_3 (v := nI 4) rfl ?_
  refine Z.icmp_geN B dX12_item_4 (tgt := 38) rfl (by omega) (by omega) (fun h4 => ?_) (fun h4 => by exfalso; first | omega | contradiction | simp_all)
  refine Z.aload_n B dX12_item_38 (v := .ref 45) rfl rfl ?_
  refine Z.getI (σ := (mS σ a t w r)) B fX12_141_12 dX12_item_39 (hl.n (k := 45) (by decide)) (hl.k (k := 45) (by decide)) (by decide) (v := nI a) mS_a ?_
  refine Z.istore_n B dX12_item_42 (by decide) (L' := [(0, .ref 45), (1, .int (nI a))]) rfl ?_
  refine Z.aload_n B dX12_item_43 (v := .ref 45) rfl rfl ?_
  refine Z.callVI (σ := (mS σ a t w r)) B (M' := mX12_word) (as := []) (st := []) (v := .int (-1)) dX12_item_44 wX12_word iX12_word sX12_word kX12_166 (hl.n (k := 45) (by decide)) (hl.k (k := 45) (by decide)) (by decide) rfl rfl (wdM_s (v := 2) (σ := σ) (t := t) (w := w) (r := r) hl ht (by omega) (by decide) hw hs) rfl rfl (by decide) (by decide) (Nat.le_of_ble_eq_true rfl) (by decide) (by decide) ?_
  refine Z.istore_n B dX12_item_47 (by decide) (L' := [(0, .ref 45), (1, .int (nI a)), (2, .int (-1))]) rfl ?_
  refine Z.iload_n B dX12_item_48 (x := (-1)) rfl ?_
  refine Z.iconst B dX12_item_49 (v := (-1)) rfl ?_
  refine Z.icmp_ne B dX12_item_50 (tgt := 55) rfl (fun h50 => absurd rfl h50) (fun h50 => ?_)
  refine Z.iconst B dX12_item_53 (v := nI 0) rfl ?_
  refine Z.iret B Rt dX12_item_54 (ty := .boolean) rfl rfl (by decide) (by decide) ?_
  exact ⟨rfl, rfl⟩

theorem it_M_c2 {σ : zSt} {t w : Int32} {r : Nat → Int32} (hl : Lay σ) {s m : Nat} {T : Nat → Int32} (ht : zTm σ s m T) {a : Nat} (ha : a < 2 ^ 29) {n ac y : Nat} (H : zMd σ n ac y) (hw : wd T a = 2) (hs : T (a + 3) = nI 32) (hr : y < 8) {k0 : Nat} (hk0 : k0 < 2) (hall : ∀ k, k < k0 → nok T (ps T (a + 3) k) (mx ac 2 k)) (hb : ¬ nok T (ps T (a + 3) k0) (mx ac 2 k0))  : Ct mX12_item [.ref 45] (mS σ a t w r) (fun r1 τ => r1 = some (.int (nI 0)) ∧ ∃ a1 t1 r2, τ = mS σ a1 t1 (nI (nbd T (ps T (a + 3) k0))) r2) := by
  obtain ⟨⟨hs8, hm160⟩, ⟨hbs, hen⟩, hT, hwd⟩ := id ht
  obtain ⟨-, hn, hn8, hac, hac4, hy, hy8⟩ := id H
  obtain ⟨hv, ho⟩ := wd_al (by decide) hw
  have hwl : wl 2 = 3 := rfl
  rw [hwl] at hv
  have hs0 := hs
  refine Ct.of (by decide) (Nat.le_of_ble_eq_true rfl) fun κ B Rt => ?_
  show Z κ 0 0 (mS σ a t w r) 0 [(0, .ref 45)] []
  refine Z.iconst B dX12_item_0 (v := nI 0) rfl ?_
  refine Z.istore_n B dX12_item_1 (by decide) (L' := [(0, .ref 45), (1, .int (nI 0))]) rfl ?_
  refine Z.iload_n B dX12_item_2 (x := nI 0) rfl ?_
  refine Z.iconst B dX12_item_3 (v := nI 4) rfl ?_
  refine Z.icmp_geN B dX12_item_4 (tgt := 38) rfl (by omega) (by omega) (fun h4 => by exfalso; first | omega | contradiction | simp_all) (fun h4 => ?_)
  refine Z.aload_n B dX12_item_7 (v := .ref 45) rfl rfl ?_
  refine Z.iload_n B dX12_item_8 (x := nI 0) rfl ?_
  refine Z.callVI (σ := (mS σ a t w r)) B (M' := mX12_isWordAt) (as := [.int (nI 0)]) (st := []) (v := .int (nI 0)) dX12_item_9 wX12_isWordAt iX12_isWordAt sX12_isWordAt kX12_160 (hl.n (k := 45) (by decide)) (hl.k (k := 45) (by decide)) (by decide) rfl rfl (t_X12_isW_0_0 (σ := σ) (t := t) (w := w) (r := r) hl ht (by omega) (by have := ho 0 (by decide) (by decide); omega)) rfl rfl (by decide) (by decide) (Nat.le_of_ble_eq_true rfl) (by decide) (by decide) ?_
  refine Z.if_eqN B dX12_item_12 (tgt := 32) rfl (by omega) (fun h12 => ?_) (fun h12 => by exfalso; first | omega | contradiction | simp_all)
  refine Z.iinc B dX12_item_32 (by decide) (x := nI 0) rfl (v := nI 1) (nI_inc 0) (L' := [(0, .ref 45), (1, .int (nI 1))]) rfl ?_
  refine Z.goto B dX12_item_35 (tgt := 2) rfl ?_
  refine Z.iload_n B dX12_item_2 (x := nI 1) rfl ?_
  refine Z.iconst B dX12_item_3 (v := nI 4) rfl ?_
  refine Z.icmp_geN B dX12_item_4 (tgt := 38) rfl (by omega) (by omega) (fun h4 => by exfalso; first | omega | contradiction | simp_all) (fun h4 => ?_)
  refine Z.aload_n B dX12_item_7 (v := .ref 45) rfl rfl ?_
  refine Z.iload_n B dX12_item_8 (x := nI 1) rfl ?_
  refine Z.callVI (σ := (mS σ a t w r)) B (M' := mX12_isWordAt) (as := [.int (nI 1)]) (st := []) (v := .int (nI 0)) dX12_item_9 wX12_isWordAt iX12_isWordAt sX12_isWordAt kX12_160 (hl.n (k := 45) (by decide)) (hl.k (k := 45) (by decide)) (by decide) rfl rfl (t_X12_isW_1_0 (σ := σ) (t := t) (w := w) (r := r) hl ht (by omega) (by have := ho 1 (by decide) (by decide); omega)) rfl rfl (by decide) (by decide) (Nat.le_of_ble_eq_true rfl) (by decide) (by decide) ?_
  refine Z.if_eqN B dX12_item_12 (tgt := 32) rfl (by omega) (fun h12 => ?_) (fun h12 => by exfalso; first | omega | contradiction | simp_all)
  refine Z.iinc B dX12_item_32 (by decide) (x := nI 1) rfl (v := nI 2) (nI_inc 1) (L' := [(0, .ref 45), (1, .int (nI 2))]) rfl ?_
  refine Z.goto B dX12_item_35 (tgt := 2) rfl ?_
  refine Z.iload_n B dX12_item_2 (x := nI 2) rfl ?_
  refine Z.iconst B dX12_item_3 (v := nI 4) rfl ?_
  refine Z.icmp_geN B dX12_item_4 (tgt := 38) rfl (by omega) (by omega) (fun h4 => by exfalso; first | omega | contradiction | simp_all) (fun h4 => ?_)
  refine Z.aload_n B dX12_item_7 (v := .ref 45) rfl rfl ?_
  refine Z.iload_n B dX12_item_8 (x := nI 2) rfl ?_
  refine Z.callVI (σ := (mS σ a t w r)) B (M' := mX12_isWordAt) (as := [.int (nI 2)]) (st := []) (v := .int (nI 1)) dX12_item_9 wX12_isWordAt iX12_isWordAt sX12_isWordAt kX12_160 (hl.n (k := 45) (by decide)) (hl.k (k := 45) (by decide)) (by decide) rfl rfl (t_X12_isW_2_1 (σ := σ) (t := t) (w := w) (r := r) hl ht (by omega) hv) rfl rfl (by decide) (by decide) (Nat.le_of_ble_eq_true rfl) (by decide) (by decide) ?_
  refine Z.if_eqN B dX12_item_12 (tgt := 32) rfl (by omega) (fun h12 => by exfalso; first | omega | contradiction | simp_all) (fun h12 => ?_)
  refine Z.aload_n B dX12_item_15 (v := .ref 45) rfl rfl ?_
  refine Z.iload_n B dX12_item_16 (x := nI 2) rfl ?_
  refine Z.callVI (σ := (mS σ a t w r)) B (M' := mX12_isFull) (as := [.int (nI 2)]) (st := []) (v := .int (nI 0)) dX12_item_17 wX12_isFull iX12_isFull sX12_isFull kX12_163 (hl.n (k := 45) (by decide)) (hl.k (k := 45) (by decide)) (by decide) rfl rfl (t_X12_isFull_2_0 (σ := mS σ a t w r) hl ((mS_f (by decide) (by decide) (by decide)).trans hn) hn8 ((mS_f (by decide) (by decide) (by decide)).trans hac) hac4 ((mS_f (by decide) (by decide) (by decide)).trans hy) hy8 hr) rfl rfl (by decide) (by decide) (Nat.le_of_ble_eq_true rfl) (by decide) (by decide) ?_
  refine Z.if_eqN B dX12_item_20 (tgt := 32) rfl (by omega) (fun h20 => ?_) (fun h20 => by exfalso; first | omega | contradiction | simp_all)
  refine Z.iinc B dX12_item_32 (by decide) (x := nI 2) rfl (v := nI 3) (nI_inc 2) (L' := [(0, .ref 45), (1, .int (nI 3))]) rfl ?_
  refine Z.goto B dX12_item_35 (tgt := 2) rfl ?_
  refine Z.iload_n B dX12_item_2 (x := nI 3) rfl ?_
  refine Z.iconst B dX12_item_3 (v := nI 4) rfl ?_
  refine Z.icmp_geN B dX12_item_4 (tgt := 38) rfl (by omega) (by omega) (fun h4 => by exfalso; first | omega | contradiction | simp_all) (fun h4 => ?_)
  refine Z.aload_n B dX12_item_7 (v := .ref 45) rfl rfl ?_
  refine Z.iload_n B dX12_item_8 (x := nI 3) rfl ?_
  refine Z.callVI (σ := (mS σ a t w r)) B (M' := mX12_isWordAt) (as := [.int (nI 3)]) (st := []) (v := .int (nI 0)) dX12_item_9 wX12_isWordAt iX12_isWordAt sX12_isWordAt kX12_160 (hl.n (k := 45) (by decide)) (hl.k (k := 45) (by decide)) (by decide) rfl rfl (t_X12_isW_3_0 (σ := σ) (t := t) (w := w) (r := r) hl ht (by omega) (by have := ho 3 (by decide) (by decide); omega)) rfl rfl (by decide) (by decide) (Nat.le_of_ble_eq_true rfl) (by decide) (by decide) ?_
  refine Z.if_eqN B dX12_item_12 (tgt := 32) rfl (by omega) (fun h12 => ?_) (fun h12 => by exfalso; first | omega | contradiction | simp_all)
  refine Z.iinc B dX12_item_32 (by decide) (x := nI 3) rfl (v := nI 4) (nI_inc 3) (L' := [(0, .ref 45), (1, .int (nI 4))]) rfl ?_
  refine Z.goto B dX12_item_35 (tgt := 2) rfl ?_
  refine Z.iload_n B dX12_item_2 (x := nI 4) rfl ?_
  refine Z.iconst B dX12_item_3 (v := nI 4) rfl ?_
  refine Z.icmp_geN B dX12_item_4 (tgt := 38) rfl (by omega) (by omega) (fun h4 => ?_) (fun h4 => by exfalso; first | omega | contradiction | simp_all)
  refine Z.aload_n B dX12_item_38 (v := .ref 45) rfl rfl ?_
  refine Z.getI (σ := (mS σ a t w r)) B fX12_141_12 dX12_item_39 (hl.n (k := 45) (by decide)) (hl.k (k := 45) (by decide)) (by decide) (v := nI a) mS_a ?_
  refine Z.istore_n B dX12_item_42 (by decide) (L' := [(0, .ref 45), (1, .int (nI a))]) rfl ?_
  refine Z.aload_n B dX12_item_43 (v := .ref 45) rfl rfl ?_
  refine Z.callVI (σ := (mS σ a t w r)) B (M' := mX12_word) (as := []) (st := []) (v := .int (nI 2)) dX12_item_44 wX12_word iX12_word sX12_word kX12_166 (hl.n (k := 45) (by decide)) (hl.k (k := 45) (by decide)) (by decide) rfl rfl (wdM_2 (σ := σ) (t := t) (w := w) (r := r) hl ht (by omega) hw hs) rfl rfl (by decide) (by decide) (Nat.le_of_ble_eq_true rfl) (by decide) (by decide) ?_
  refine Z.istore_n B dX12_item_47 (by decide) (L' := [(0, .ref 45), (1, .int (nI a)), (2, .int (nI 2))]) rfl ?_
  refine Z.iload_n B dX12_item_48 (x := nI 2) rfl ?_
  refine Z.iconst B dX12_item_49 (v := (-1)) rfl ?_
  refine Z.icmp_ne B dX12_item_50 (tgt := 55) rfl (fun h50 => ?_) (fun h50 => (by exfalso; revert h50; decide))
  refine Z.iload_n B dX12_item_55 (x := nI 2) rfl ?_
  refine Z.if_neN B dX12_item_56 (tgt := 68) rfl (by omega) (fun h56 => ?_) (fun h56 => by exfalso; first | omega | contradiction | simp_all)
  refine Z.iload_n B dX12_item_68 (x := nI 2) rfl ?_
  refine Z.iconst B dX12_item_69 (v := nI 1) rfl ?_
  refine Z.icmp_neN B dX12_item_70 (tgt := 81) rfl (by omega) (by omega) (fun h70 => ?_) (fun h70 => by exfalso; first | omega | contradiction | simp_all)
  refine Z.iload_n B dX12_item_81 (x := nI 2) rfl ?_
  refine Z.iconst B dX12_item_82 (v := nI 2) rfl ?_
  refine Z.icmp_neN B dX12_item_83 (tgt := 101) rfl (by omega) (by omega) (fun h83 => by exfalso; first | omega | contradiction | simp_all) (fun h83 => ?_)
  refine Z.aload_n B dX12_item_86 (v := .ref 45) rfl rfl ?_
  refine Z.getI (σ := (mS σ (a + 3 + 1) t w r)) B fX12_87_12 dX12_item_87 (hl.n (k := 45) (by decide)) (hl.k (k := 45) (by decide)) (by decide) (v := nI y) ((mS_f (by decide) (by decide) (by decide)).trans hy) ?_
  refine Z.bipush B dX12_item_90 (v := nI 8) rfl ?_
  refine Z.icmp_neN B dX12_item_92 (tgt := 101) rfl (by omega) (by omega) (fun h92 => ?_) (fun h92 => (by omega))
  refine Z.iload_n B dX12_item_101 (x := nI 2) rfl ?_
  refine Z.if_neN B dX12_item_102 (tgt := 110) rfl (by omega) (fun h102 => ?_) (fun h102 => by exfalso; first | omega | contradiction | simp_all)
  refine Z.iload_n B dX12_item_110 (x := nI 2) rfl ?_
  refine Z.iconst B dX12_item_111 (v := nI 1) rfl ?_
  refine Z.icmp_neN B dX12_item_112 (tgt := 119) rfl (by omega) (by omega) (fun h112 => ?_) (fun h112 => by exfalso; first | omega | contradiction | simp_all)
  refine Z.iload_n B dX12_item_119 (x := nI 2) rfl ?_
  refine Z.iconst B dX12_item_120 (v := nI 2) rfl ?_
  refine Z.icmp_neN B dX12_item_121 (tgt := 128) rfl (by omega) (by omega) (fun h121 => by exfalso; first | omega | contradiction | simp_all) (fun h121 => ?_)
  refine Z.iconst B dX12_item_124 (v := nI 2) rfl ?_
  refine Z.goto B dX12_item_125 (tgt := 129) rfl ?_
  refine Z.istore_n B dX12_item_129 (by decide) (L' := [(0, .ref 45), (1, .int (nI a)), (2, .int (nI 2)), (3, .int (nI 2))]) rfl ?_
  refine Z.iconst B dX12_item_130 (v := nI 0) rfl ?_
  refine Z.istore B dX12_item_131 (by decide) (L' := [(0, .ref 45), (1, .int (nI a)), (2, .int (nI 2)), (3, .int (nI 2)), (4, .int (nI 0))]) rfl ?_
  have hloop133 : ∀ k : Nat, k ≤ k0 → Z κ 0 0 (mS σ (atK T (a + 3) k) (tK t T (a + 3) k) w (fi k (vs T (a + 3)) r)) 133 [(0, .ref 45), (1, .int (nI a)), (2, .int (nI 2)), (3, .int (nI 2)), (4, .int (nI k))] [] := by
    refine z_loop (fun k => 2 - k) (fun k ih hk0k => ?_)
    have hps := ps_le (T := T) (p := a + 3) k
    rcases (by omega : k < k0 ∨ k0 = k) with hlt | hke
    · skip
      have hk := hall k hlt
      refine Z.iload B dX12_item_133 (x := nI k) rfl ?_
      refine Z.iload_n B dX12_item_135 (x := nI 2) rfl ?_
      refine Z.icmp_geN B dX12_item_136 (tgt := 227) rfl (by omega) (by omega) (fun h136 => (by omega)) (fun h136 => ?_)
      refine Z.iload B dX12_item_139 (x := nI k) rfl ?_
      refine Z.if_leN B dX12_item_141 (tgt := 194) rfl (by omega) (fun h141 => ?_) (fun h141 => ?_)
      · skip
        refine Z.eqσ (τ := (mS σ (ps T (a + 3) k + 1) (tK t T (a + 3) k) w (fi k (vs T (a + 3)) r))) (by rw [atK_0 h141]) ?_
        refine Z.aload_n B dX12_item_194 (v := .ref 45) rfl rfl ?_
        refine Z.aload_n B dX12_item_195 (v := .ref 45) rfl rfl ?_
        refine Z.iload_n B dX12_item_196 (x := nI 2) rfl ?_
        refine Z.iload B dX12_item_197 (x := nI k) rfl ?_
        refine Z.callVI (σ := (mS σ (ps T (a + 3) k + 1) (tK t T (a + 3) k) w (fi k (vs T (a + 3)) r))) B (M' := mX12_high) (as := [.int (nI 2), .int (nI k)]) (st := [.ref 45]) (v := .int (mx ac 2 k)) dX12_item_199 wX12_high iX12_high sX12_high kX12_170 (hl.n (k := 45) (by decide)) (hl.k (k := 45) (by decide)) (by decide) rfl rfl (t_X12_high (w := 2) (i := k) hl ((mS_f (by decide) (by decide) (by decide)).trans hac) (by decide) (by show k < 2; omega)) rfl rfl (by decide) (by decide) (Nat.le_of_ble_eq_true rfl) (by decide) (by decide) ?_
        refine Z.callVI (σ := (mS σ (ps T (a + 3) k + 1) (tK t T (a + 3) k) w (fi k (vs T (a + 3)) r))) B (M' := mX12_number) (as := [.int (mx ac 2 k)]) (st := []) (v := .int (nI 1)) dX12_item_202 wX12_number iX12_number sX12_number kX12_173 (hl.n (k := 45) (by decide)) (hl.k (k := 45) (by decide)) (by decide) rfl rfl (t_X12_num_ok (σ := σ) (t := (tK t T (a + 3) k)) (w := w) (r := (fi k (vs T (a + 3)) r)) hl ht (a := ps T (a + 3) k + 1) (by omega) hk.2.1 hk.2.2) rfl rfl (by decide) (by decide) (Nat.le_of_ble_eq_true rfl) (by decide) (by decide) ?_
        refine Z.eqσ (τ := (mS σ (ps T (a + 3) (k + 1)) (vs T (a + 3) k) w (fi k (vs T (a + 3)) r))) (congrArg (fun q => mS σ q (vs T (a + 3) k) w (fi k (vs T (a + 3)) r)) (ps_ok hk).symm) ?_
        refine Z.if_neN B dX12_item_205 (tgt := 210) rfl (by omega) (fun h205 => ?_) (fun h205 => (by omega))
        refine Z.aload_n B dX12_item_210 (v := .ref 45) rfl rfl ?_
        refine Z.getR (σ := (mS σ (ps T (a + 3) (k + 1)) (vs T (a + 3) k) w (fi k (vs T (a + 3)) r))) B fX12_63_12 dX12_item_211 (hl.n (k := 45) (by decide)) (hl.k (k := 45) (by decide)) (by decide) (j := 61) (hl.r (k := 45) (f := 20) (by decide) (by decide)) ?_
        refine Z.iload B dX12_item_214 (x := nI k) rfl ?_
        refine Z.aload_n B dX12_item_216 (v := .ref 45) rfl rfl ?_
        refine Z.getI (σ := (mS σ (ps T (a + 3) (k + 1)) (vs T (a + 3) k) w (fi k (vs T (a + 3)) r))) B fX12_157_12 dX12_item_217 (hl.n (k := 45) (by decide)) (hl.k (k := 45) (by decide)) (by decide) (v := (vs T (a + 3) k)) mS_t ?_
        refine Z.iast (σ := (mS σ (ps T (a + 3) (k + 1)) (vs T (a + 3) k) w (fi k (vs T (a + 3)) r))) B dX12_item_220 (n := 6) (hl.n (k := 61) (by decide)) (hl.k (k := 61) (by decide)) (hl.l (k := 61) (by decide)) (by decide) (j := k) rfl (by omega) (τ := (zuX (mS σ (ps T (a + 3) (k + 1)) (vs T (a + 3) k) w (fi k (vs T (a + 3)) r)) 61 (upd (zX (mS σ (ps T (a + 3) (k + 1)) (vs T (a + 3) k) w (fi k (vs T (a + 3)) r)) 61) k (vs T (a + 3) k)))) rfl ?_
        refine Z.eqσ (τ := (mS σ (ps T (a + 3) (k + 1)) (vs T (a + 3) k) w (fi (k + 1) (vs T (a + 3)) r))) (by rw [mS_r, fi_s (f := vs T (a + 3)) rfl]; exact mS_ur) ?_
        refine Z.iincN B dX12_item_221 (by decide) (a := k) rfl (L' := [(0, .ref 45), (1, .int (nI a)), (2, .int (nI 2)), (3, .int (nI 2)), (4, .int (nI (k + 1)))]) rfl ?_
        refine Z.goto B dX12_item_224 (tgt := 133) rfl ?_
        exact ih (k + 1) (by omega) (by omega)
      · skip
        have h141 := h141
        refine Z.eqσ (τ := (mS σ (ps T (a + 3) k) (tK t T (a + 3) k) w (fi k (vs T (a + 3)) r))) (by rw [atK_s h141]) ?_
        refine Z.aload_n B dX12_item_144 (v := .ref 45) rfl rfl ?_
        refine Z.getI (σ := (mS σ (ps T (a + 3) k) (tK t T (a + 3) k) w (fi k (vs T (a + 3)) r))) B fX12_141_12 dX12_item_145 (hl.n (k := 45) (by decide)) (hl.k (k := 45) (by decide)) (by decide) (v := nI (ps T (a + 3) k)) mS_a ?_
        refine Z.aload_n B dX12_item_148 (v := .ref 45) rfl rfl ?_
        refine Z.getI (σ := (mS σ (ps T (a + 3) k) (tK t T (a + 3) k) w (fi k (vs T (a + 3)) r))) B fX12_144_12 dX12_item_149 (hl.n (k := 45) (by decide)) (hl.k (k := 45) (by decide)) (by decide) (v := nI m) ((mS_f (by decide) (by decide) (by decide)).trans hen) ?_
        refine Z.icmp_geN B dX12_item_152 (tgt := 175) rfl (by omega) (by omega) (fun h152 => (by have := in_m ht (c := 31) hk.1 (by decide); omega)) (fun h152 => ?_)
        refine Z.aload_n B dX12_item_155 (v := .ref 45) rfl rfl ?_
        refine Z.getR (σ := (mS σ (ps T (a + 3) k) (tK t T (a + 3) k) w (fi k (vs T (a + 3)) r))) B fX12_53_12 dX12_item_156 (hl.n (k := 45) (by decide)) (hl.k (k := 45) (by decide)) (by decide) (j := 58) (hl.r (k := 45) (f := 17) (by decide) (by decide)) ?_
        refine Z.aload_n B dX12_item_159 (v := .ref 45) rfl rfl ?_
        refine Z.getI (σ := (mS σ (ps T (a + 3) k) (tK t T (a + 3) k) w (fi k (vs T (a + 3)) r))) B fX12_147_12 dX12_item_160 (hl.n (k := 45) (by decide)) (hl.k (k := 45) (by decide)) (by decide) (v := nI (s * 160)) ((mS_f (by decide) (by decide) (by decide)).trans hbs) ?_
        refine Z.aload_n B dX12_item_163 (v := .ref 45) rfl rfl ?_
        refine Z.getI (σ := (mS σ (ps T (a + 3) k) (tK t T (a + 3) k) w (fi k (vs T (a + 3)) r))) B fX12_141_12 dX12_item_164 (hl.n (k := 45) (by decide)) (hl.k (k := 45) (by decide)) (by decide) (v := nI (ps T (a + 3) k)) mS_a ?_
        refine Z.iaddN B dX12_item_167 (a := s * 160) (b := ps T (a + 3) k) ?_
        refine Z.lald (σ := (mS σ (ps T (a + 3) k) (tK t T (a + 3) k) w (fi k (vs T (a + 3)) r))) B dX12_item_168 (n := 1280) (hl.n (k := 58) (by decide)) (hl.k (k := 58) (by decide)) (hl.l (k := 58) (by decide)) (by decide) (j := (s * 160) + (ps T (a + 3) k)) rfl (by have := in_m ht (c := 31) hk.1 (by decide); omega) (v := (zY (mS σ (ps T (a + 3) k) (tK t T (a + 3) k) w (fi k (vs T (a + 3)) r)) 58 ((s * 160) + (ps T (a + 3) k)))) rfl ?_
        refine Z.l2i B dX12_item_169 ?_
        refine Z.eqS (st' := [.int (T (ps T (a + 3) k))]) (congrArg (fun z => Value.int z :: _) (ht.t (i := ps T (a + 3) k) (in_m ht (c := 31) hk.1 (by decide)))) ?_
        refine Z.bipush B dX12_item_170 (v := nI 32) rfl ?_
        refine Z.icmp_eq B dX12_item_172 (tgt := 184) rfl (fun h172 => ?_) (fun h172 => (absurd hk.1 h172))
        refine Z.aload_n B dX12_item_184 (v := .ref 45) rfl rfl ?_
        refine Z.dup B dX12_item_185 rfl ?_
        refine Z.getI (σ := (mS σ (ps T (a + 3) k) (tK t T (a + 3) k) w (fi k (vs T (a + 3)) r))) B fX12_141_12 dX12_item_186 (hl.n (k := 45) (by decide)) (hl.k (k := 45) (by decide)) (by decide) (v := nI (ps T (a + 3) k)) mS_a ?_
        refine Z.iconst B dX12_item_189 (v := nI 1) rfl ?_
        refine Z.iaddN B dX12_item_190 (a := ps T (a + 3) k) (b := 1) ?_
        refine Z.putI (σ := (mS σ (ps T (a + 3) k) (tK t T (a + 3) k) w (fi k (vs T (a + 3)) r))) B fX12_141_12 (ty := .int) ⟨_, _, _, rfl, rfl, by decide +kernel⟩ dX12_item_191 (hl.n (k := 45) (by decide)) (hl.k (k := 45) (by decide)) (by decide) rfl rfl (τ := (zuX (mS σ (ps T (a + 3) k) (tK t T (a + 3) k) w (fi k (vs T (a + 3)) r)) 45 (upd (zX (mS σ (ps T (a + 3) k) (tK t T (a + 3) k) w (fi k (vs T (a + 3)) r)) 45) 22 (nI ((ps T (a + 3) k) + 1))))) rfl ?_
        refine Z.eqσ (τ := (mS σ (ps T (a + 3) k + 1) (tK t T (a + 3) k) w (fi k (vs T (a + 3)) r))) mS_ua ?_
        refine Z.aload_n B dX12_item_194 (v := .ref 45) rfl rfl ?_
        refine Z.aload_n B dX12_item_195 (v := .ref 45) rfl rfl ?_
        refine Z.iload_n B dX12_item_196 (x := nI 2) rfl ?_
        refine Z.iload B dX12_item_197 (x := nI k) rfl ?_
        refine Z.callVI (σ := (mS σ (ps T (a + 3) k + 1) (tK t T (a + 3) k) w (fi k (vs T (a + 3)) r))) B (M' := mX12_high) (as := [.int (nI 2), .int (nI k)]) (st := [.ref 45]) (v := .int (mx ac 2 k)) dX12_item_199 wX12_high iX12_high sX12_high kX12_170 (hl.n (k := 45) (by decide)) (hl.k (k := 45) (by decide)) (by decide) rfl rfl (t_X12_high (w := 2) (i := k) hl ((mS_f (by decide) (by decide) (by decide)).trans hac) (by decide) (by show k < 2; omega)) rfl rfl (by decide) (by decide) (Nat.le_of_ble_eq_true rfl) (by decide) (by decide) ?_
        refine Z.callVI (σ := (mS σ (ps T (a + 3) k + 1) (tK t T (a + 3) k) w (fi k (vs T (a + 3)) r))) B (M' := mX12_number) (as := [.int (mx ac 2 k)]) (st := []) (v := .int (nI 1)) dX12_item_202 wX12_number iX12_number sX12_number kX12_173 (hl.n (k := 45) (by decide)) (hl.k (k := 45) (by decide)) (by decide) rfl rfl (t_X12_num_ok (σ := σ) (t := (tK t T (a + 3) k)) (w := w) (r := (fi k (vs T (a + 3)) r)) hl ht (a := ps T (a + 3) k + 1) (by omega) hk.2.1 hk.2.2) rfl rfl (by decide) (by decide) (Nat.le_of_ble_eq_true rfl) (by decide) (by decide) ?_
        refine Z.eqσ (τ := (mS σ (ps T (a + 3) (k + 1)) (vs T (a + 3) k) w (fi k (vs T (a + 3)) r))) (congrArg (fun q => mS σ q (vs T (a + 3) k) w (fi k (vs T (a + 3)) r)) (ps_ok hk).symm) ?_
        refine Z.if_neN B dX12_item_205 (tgt := 210) rfl (by omega) (fun h205 => ?_) (fun h205 => (by omega))
        refine Z.aload_n B dX12_item_210 (v := .ref 45) rfl rfl ?_
        refine Z.getR (σ := (mS σ (ps T (a + 3) (k + 1)) (vs T (a + 3) k) w (fi k (vs T (a + 3)) r))) B fX12_63_12 dX12_item_211 (hl.n (k := 45) (by decide)) (hl.k (k := 45) (by decide)) (by decide) (j := 61) (hl.r (k := 45) (f := 20) (by decide) (by decide)) ?_
        refine Z.iload B dX12_item_214 (x := nI k) rfl ?_
        refine Z.aload_n B dX12_item_216 (v := .ref 45) rfl rfl ?_
        refine Z.getI (σ := (mS σ (ps T (a + 3) (k + 1)) (vs T (a + 3) k) w (fi k (vs T (a + 3)) r))) B fX12_157_12 dX12_item_217 (hl.n (k := 45) (by decide)) (hl.k (k := 45) (by decide)) (by decide) (v := (vs T (a + 3) k)) mS_t ?_
        refine Z.iast (σ := (mS σ (ps T (a + 3) (k + 1)) (vs T (a + 3) k) w (fi k (vs T (a + 3)) r))) B dX12_item_220 (n := 6) (hl.n (k := 61) (by decide)) (hl.k (k := 61) (by decide)) (hl.l (k := 61) (by decide)) (by decide) (j := k) rfl (by omega) (τ := (zuX (mS σ (ps T (a + 3) (k + 1)) (vs T (a + 3) k) w (fi k (vs T (a + 3)) r)) 61 (upd (zX (mS σ (ps T (a + 3) (k + 1)) (vs T (a + 3) k) w (fi k (vs T (a + 3)) r)) 61) k (vs T (a + 3) k)))) rfl ?_
        refine Z.eqσ (τ := (mS σ (ps T (a + 3) (k + 1)) (vs T (a + 3) k) w (fi (k + 1) (vs T (a + 3)) r))) (by rw [mS_r, fi_s (f := vs T (a + 3)) rfl]; exact mS_ur) ?_
        refine Z.iincN B dX12_item_221 (by decide) (a := k) rfl (L' := [(0, .ref 45), (1, .int (nI a)), (2, .int (nI 2)), (3, .int (nI 2)), (4, .int (nI (k + 1)))]) rfl ?_
        refine Z.goto B dX12_item_224 (tgt := 133) rfl ?_
        exact ih (k + 1) (by omega) (by omega)
    · skip
      have hb2 : ¬ nok T (ps T (a + 3) k) (mx ac 2 k) := by rw [← hke]; exact hb
      refine Z.iload B dX12_item_133 (x := nI k) rfl ?_
      refine Z.iload_n B dX12_item_135 (x := nI 2) rfl ?_
      refine Z.icmp_geN B dX12_item_136 (tgt := 227) rfl (by omega) (by omega) (fun h136 => (by omega)) (fun h136 => ?_)
      refine Z.iload B dX12_item_139 (x := nI k) rfl ?_
      refine Z.if_leN B dX12_item_141 (tgt := 194) rfl (by omega) (fun h141 => ?_) (fun h141 => ?_)
      · skip
        have h172 : T (ps T (a + 3) k) = nI 32 := (by subst h141; exact hs)
        refine Z.eqσ (τ := (mS σ (ps T (a + 3) k + 1) (tK t T (a + 3) k) w (fi k (vs T (a + 3)) r))) (by rw [atK_0 h141]) ?_
        refine Z.aload_n B dX12_item_194 (v := .ref 45) rfl rfl ?_
        refine Z.aload_n B dX12_item_195 (v := .ref 45) rfl rfl ?_
        refine Z.iload_n B dX12_item_196 (x := nI 2) rfl ?_
        refine Z.iload B dX12_item_197 (x := nI k) rfl ?_
        refine Z.callVI (σ := (mS σ (ps T (a + 3) k + 1) (tK t T (a + 3) k) w (fi k (vs T (a + 3)) r))) B (M' := mX12_high) (as := [.int (nI 2), .int (nI k)]) (st := [.ref 45]) (v := .int (mx ac 2 k)) dX12_item_199 wX12_high iX12_high sX12_high kX12_170 (hl.n (k := 45) (by decide)) (hl.k (k := 45) (by decide)) (by decide) rfl rfl (t_X12_high (w := 2) (i := k) hl ((mS_f (by decide) (by decide) (by decide)).trans hac) (by decide) (by show k < 2; omega)) rfl rfl (by decide) (by decide) (Nat.le_of_ble_eq_true rfl) (by decide) (by decide) ?_
        rcases Bool.eq_false_or_eq_true (dg (T (ps T (a + 3) k + 1))) with hd1 | hd0
        · skip
          have hbig : ¬ nv T (ps T (a + 3) k + 1) ≤ (mx ac 2 k) := fun h => hb2 ⟨h172, hd1, h⟩
          refine Z.callVI (σ := (mS σ (ps T (a + 3) k + 1) (tK t T (a + 3) k) w (fi k (vs T (a + 3)) r))) B (M' := mX12_number) (as := [.int (mx ac 2 k)]) (st := []) (v := .int (nI 0)) dX12_item_202 wX12_number iX12_number sX12_number kX12_173 (hl.n (k := 45) (by decide)) (hl.k (k := 45) (by decide)) (by decide) rfl rfl (t_X12_num_big (σ := σ) (t := (tK t T (a + 3) k)) (w := w) (r := (fi k (vs T (a + 3)) r)) hl ht (a := ps T (a + 3) k + 1) (by omega) hd1 hbig) rfl rfl (by decide) (by decide) (Nat.le_of_ble_eq_true rfl) (by decide) (by decide) ?_
          refine Z.if_neN B dX12_item_205 (tgt := 210) rfl (by omega) (fun h205 => (by omega)) (fun h205 => ?_)
          refine Z.iconst B dX12_item_208 (v := nI 0) rfl ?_
          refine Z.iret B Rt dX12_item_209 (ty := .boolean) rfl rfl (by decide) (by decide) ?_
          have hx : nbd T (ps T (a + 3) k0) = _ := (by first | exact if_pos (by rw [hke]; exact h172) | exact if_neg (by rw [hke]; exact h172))
          rw [hx, hke]
          exact ⟨rfl, _, _, _, rfl⟩
        · skip
          refine Z.callVI (σ := (mS σ (ps T (a + 3) k + 1) (tK t T (a + 3) k) w (fi k (vs T (a + 3)) r))) B (M' := mX12_number) (as := [.int (mx ac 2 k)]) (st := []) (v := .int (nI 0)) dX12_item_202 wX12_number iX12_number sX12_number kX12_173 (hl.n (k := 45) (by decide)) (hl.k (k := 45) (by decide)) (by decide) rfl rfl (t_X12_num_nd (σ := σ) (t := (tK t T (a + 3) k)) (w := w) (r := (fi k (vs T (a + 3)) r)) hl ht (a := ps T (a + 3) k + 1) (by omega) hd0) rfl rfl (by decide) (by decide) (Nat.le_of_ble_eq_true rfl) (by decide) (by decide) ?_
          refine Z.if_neN B dX12_item_205 (tgt := 210) rfl (by omega) (fun h205 => (by omega)) (fun h205 => ?_)
          refine Z.iconst B dX12_item_208 (v := nI 0) rfl ?_
          refine Z.iret B Rt dX12_item_209 (ty := .boolean) rfl rfl (by decide) (by decide) ?_
          have hx : nbd T (ps T (a + 3) k0) = _ := (by first | exact if_pos (by rw [hke]; exact h172) | exact if_neg (by rw [hke]; exact h172))
          rw [hx, hke]
          exact ⟨rfl, _, _, _, rfl⟩
      · skip
        have h141 := h141
        refine Z.eqσ (τ := (mS σ (ps T (a + 3) k) (tK t T (a + 3) k) w (fi k (vs T (a + 3)) r))) (by rw [atK_s h141]) ?_
        refine Z.aload_n B dX12_item_144 (v := .ref 45) rfl rfl ?_
        refine Z.getI (σ := (mS σ (ps T (a + 3) k) (tK t T (a + 3) k) w (fi k (vs T (a + 3)) r))) B fX12_141_12 dX12_item_145 (hl.n (k := 45) (by decide)) (hl.k (k := 45) (by decide)) (by decide) (v := nI (ps T (a + 3) k)) mS_a ?_
        refine Z.aload_n B dX12_item_148 (v := .ref 45) rfl rfl ?_
        refine Z.getI (σ := (mS σ (ps T (a + 3) k) (tK t T (a + 3) k) w (fi k (vs T (a + 3)) r))) B fX12_144_12 dX12_item_149 (hl.n (k := 45) (by decide)) (hl.k (k := 45) (by decide)) (by decide) (v := nI m) ((mS_f (by decide) (by decide) (by decide)).trans hen) ?_
        refine Z.icmp_geN B dX12_item_152 (tgt := 175) rfl (by omega) (by omega) (fun h152 => ?_) (fun h152 => ?_)
        · skip
          have h172 : ¬ T (ps T (a + 3) k) = nI 32 := (fun e => by have := in_m ht (c := 31) e (by decide); omega)
          refine Z.aload_n B dX12_item_175 (v := .ref 45) rfl rfl ?_
          refine Z.aload_n B dX12_item_176 (v := .ref 45) rfl rfl ?_
          refine Z.getI (σ := (mS σ (ps T (a + 3) k) (tK t T (a + 3) k) w (fi k (vs T (a + 3)) r))) B fX12_141_12 dX12_item_177 (hl.n (k := 45) (by decide)) (hl.k (k := 45) (by decide)) (by decide) (v := nI (ps T (a + 3) k)) mS_a ?_
          refine Z.callVI (σ := (mS σ (ps T (a + 3) k) (tK t T (a + 3) k) w (fi k (vs T (a + 3)) r))) B (M' := mX12_wrong) (as := [.int (nI (ps T (a + 3) k))]) (st := []) (v := .int (nI 0)) dX12_item_180 wX12_wrong iX12_wrong sX12_wrong kX12_154 (hl.n (k := 45) (by decide)) (hl.k (k := 45) (by decide)) (by decide) rfl rfl (t_X12_wrong (σ := σ) (t := (tK t T (a + 3) k)) (w := w) (r := (fi k (vs T (a + 3)) r)) hl ht (a := (ps T (a + 3) k)) (by omega) (p := nI (ps T (a + 3) k))) rfl rfl (by decide) (by decide) (Nat.le_of_ble_eq_true rfl) (by decide) (by decide) ?_
          refine Z.iret B Rt dX12_item_183 (ty := .boolean) rfl rfl (by decide) (by decide) ?_
          have hx : nbd T (ps T (a + 3) k0) = _ := (by first | exact if_pos (by rw [hke]; exact h172) | exact if_neg (by rw [hke]; exact h172))
          rw [hx, hke]
          exact ⟨rfl, _, _, _, rfl⟩
        · skip
          refine Z.aload_n B dX12_item_155 (v := .ref 45) rfl rfl ?_
          refine Z.getR (σ := (mS σ (ps T (a + 3) k) (tK t T (a + 3) k) w (fi k (vs T (a + 3)) r))) B fX12_53_12 dX12_item_156 (hl.n (k := 45) (by decide)) (hl.k (k := 45) (by decide)) (by decide) (j := 58) (hl.r (k := 45) (f := 17) (by decide) (by decide)) ?_
          refine Z.aload_n B dX12_item_159 (v := .ref 45) rfl rfl ?_
          refine Z.getI (σ := (mS σ (ps T (a + 3) k) (tK t T (a + 3) k) w (fi k (vs T (a + 3)) r))) B fX12_147_12 dX12_item_160 (hl.n (k := 45) (by decide)) (hl.k (k := 45) (by decide)) (by decide) (v := nI (s * 160)) ((mS_f (by decide) (by decide) (by decide)).trans hbs) ?_
          refine Z.aload_n B dX12_item_163 (v := .ref 45) rfl rfl ?_
          refine Z.getI (σ := (mS σ (ps T (a + 3) k) (tK t T (a + 3) k) w (fi k (vs T (a + 3)) r))) B fX12_141_12 dX12_item_164 (hl.n (k := 45) (by decide)) (hl.k (k := 45) (by decide)) (by decide) (v := nI (ps T (a + 3) k)) mS_a ?_
          refine Z.iaddN B dX12_item_167 (a := s * 160) (b := ps T (a + 3) k) ?_
          refine Z.lald (σ := (mS σ (ps T (a + 3) k) (tK t T (a + 3) k) w (fi k (vs T (a + 3)) r))) B dX12_item_168 (n := 1280) (hl.n (k := 58) (by decide)) (hl.k (k := 58) (by decide)) (hl.l (k := 58) (by decide)) (by decide) (j := (s * 160) + (ps T (a + 3) k)) rfl (by omega) (v := (zY (mS σ (ps T (a + 3) k) (tK t T (a + 3) k) w (fi k (vs T (a + 3)) r)) 58 ((s * 160) + (ps T (a + 3) k)))) rfl ?_
          refine Z.l2i B dX12_item_169 ?_
          refine Z.eqS (st' := [.int (T (ps T (a + 3) k))]) (congrArg (fun z => Value.int z :: _) (ht.t (i := ps T (a + 3) k) (by omega))) ?_
          refine Z.bipush B dX12_item_170 (v := nI 32) rfl ?_
          refine Z.icmp_eq B dX12_item_172 (tgt := 184) rfl (fun h172 => ?_) (fun h172 => ?_)
          · skip
            refine Z.aload_n B dX12_item_184 (v := .ref 45) rfl rfl ?_
            refine Z.dup B dX12_item_185 rfl ?_
            refine Z.getI (σ := (mS σ (ps T (a + 3) k) (tK t T (a + 3) k) w (fi k (vs T (a + 3)) r))) B fX12_141_12 dX12_item_186 (hl.n (k := 45) (by decide)) (hl.k (k := 45) (by decide)) (by decide) (v := nI (ps T (a + 3) k)) mS_a ?_
            refine Z.iconst B dX12_item_189 (v := nI 1) rfl ?_
            refine Z.iaddN B dX12_item_190 (a := ps T (a + 3) k) (b := 1) ?_
            refine Z.putI (σ := (mS σ (ps T (a + 3) k) (tK t T (a + 3) k) w (fi k (vs T (a + 3)) r))) B fX12_141_12 (ty := .int) ⟨_, _, _, rfl, rfl, by decide +kernel⟩ dX12_item_191 (hl.n (k := 45) (by decide)) (hl.k (k := 45) (by decide)) (by decide) rfl rfl (τ := (zuX (mS σ (ps T (a + 3) k) (tK t T (a + 3) k) w (fi k (vs T (a + 3)) r)) 45 (upd (zX (mS σ (ps T (a + 3) k) (tK t T (a + 3) k) w (fi k (vs T (a + 3)) r)) 45) 22 (nI ((ps T (a + 3) k) + 1))))) rfl ?_
            refine Z.eqσ (τ := (mS σ (ps T (a + 3) k + 1) (tK t T (a + 3) k) w (fi k (vs T (a + 3)) r))) mS_ua ?_
            refine Z.aload_n B dX12_item_194 (v := .ref 45) rfl rfl ?_
            refine Z.aload_n B dX12_item_195 (v := .ref 45) rfl rfl ?_
            refine Z.iload_n B dX12_item_196 (x := nI 2) rfl ?_
            refine Z.iload B dX12_item_197 (x := nI k) rfl ?_
            refine Z.callVI (σ := (mS σ (ps T (a + 3) k + 1) (tK t T (a + 3) k) w (fi k (vs T (a + 3)) r))) B (M' := mX12_high) (as := [.int (nI 2), .int (nI k)]) (st := [.ref 45]) (v := .int (mx ac 2 k)) dX12_item_199 wX12_high iX12_high sX12_high kX12_170 (hl.n (k := 45) (by decide)) (hl.k (k := 45) (by decide)) (by decide) rfl rfl (t_X12_high (w := 2) (i := k) hl ((mS_f (by decide) (by decide) (by decide)).trans hac) (by decide) (by show k < 2; omega)) rfl rfl (by decide) (by decide) (Nat.le_of_ble_eq_true rfl) (by decide) (by decide) ?_
            rcases Bool.eq_false_or_eq_true (dg (T (ps T (a + 3) k + 1))) with hd1 | hd0
            · skip
              have hbig : ¬ nv T (ps T (a + 3) k + 1) ≤ (mx ac 2 k) := fun h => hb2 ⟨h172, hd1, h⟩
              refine Z.callVI (σ := (mS σ (ps T (a + 3) k + 1) (tK t T (a + 3) k) w (fi k (vs T (a + 3)) r))) B (M' := mX12_number) (as := [.int (mx ac 2 k)]) (st := []) (v := .int (nI 0)) dX12_item_202 wX12_number iX12_number sX12_number kX12_173 (hl.n (k := 45) (by decide)) (hl.k (k := 45) (by decide)) (by decide) rfl rfl (t_X12_num_big (σ := σ) (t := (tK t T (a + 3) k)) (w := w) (r := (fi k (vs T (a + 3)) r)) hl ht (a := ps T (a + 3) k + 1) (by omega) hd1 hbig) rfl rfl (by decide) (by decide) (Nat.le_of_ble_eq_true rfl) (by decide) (by decide) ?_
              refine Z.if_neN B dX12_item_205 (tgt := 210) rfl (by omega) (fun h205 => (by omega)) (fun h205 => ?_)
              refine Z.iconst B dX12_item_208 (v := nI 0) rfl ?_
              refine Z.iret B Rt dX12_item_209 (ty := .boolean) rfl rfl (by decide) (by decide) ?_
              have hx : nbd T (ps T (a + 3) k0) = _ := (by first | exact if_pos (by rw [hke]; exact h172) | exact if_neg (by rw [hke]; exact h172))
              rw [hx, hke]
              exact ⟨rfl, _, _, _, rfl⟩
            · skip
              refine Z.callVI (σ := (mS σ (ps T (a + 3) k + 1) (tK t T (a + 3) k) w (fi k (vs T (a + 3)) r))) B (M' := mX12_number) (as := [.int (mx ac 2 k)]) (st := []) (v := .int (nI 0)) dX12_item_202 wX12_number iX12_number sX12_number kX12_173 (hl.n (k := 45) (by decide)) (hl.k (k := 45) (by decide)) (by decide) rfl rfl (t_X12_num_nd (σ := σ) (t := (tK t T (a + 3) k)) (w := w) (r := (fi k (vs T (a + 3)) r)) hl ht (a := ps T (a + 3) k + 1) (by omega) hd0) rfl rfl (by decide) (by decide) (Nat.le_of_ble_eq_true rfl) (by decide) (by decide) ?_
              refine Z.if_neN B dX12_item_205 (tgt := 210) rfl (by omega) (fun h205 => (by omega)) (fun h205 => ?_)
              refine Z.iconst B dX12_item_208 (v := nI 0) rfl ?_
              refine Z.iret B Rt dX12_item_209 (ty := .boolean) rfl rfl (by decide) (by decide) ?_
              have hx : nbd T (ps T (a + 3) k0) = _ := (by first | exact if_pos (by rw [hke]; exact h172) | exact if_neg (by rw [hke]; exact h172))
              rw [hx, hke]
              exact ⟨rfl, _, _, _, rfl⟩
          · skip
            refine Z.aload_n B dX12_item_175 (v := .ref 45) rfl rfl ?_
            refine Z.aload_n B dX12_item_176 (v := .ref 45) rfl rfl ?_
            refine Z.getI (σ := (mS σ (ps T (a + 3) k) (tK t T (a + 3) k) w (fi k (vs T (a + 3)) r))) B fX12_141_12 dX12_item_177 (hl.n (k := 45) (by decide)) (hl.k (k := 45) (by decide)) (by decide) (v := nI (ps T (a + 3) k)) mS_a ?_
            refine Z.callVI (σ := (mS σ (ps T (a + 3) k) (tK t T (a + 3) k) w (fi k (vs T (a + 3)) r))) B (M' := mX12_wrong) (as := [.int (nI (ps T (a + 3) k))]) (st := []) (v := .int (nI 0)) dX12_item_180 wX12_wrong iX12_wrong sX12_wrong kX12_154 (hl.n (k := 45) (by decide)) (hl.k (k := 45) (by decide)) (by decide) rfl rfl (t_X12_wrong (σ := σ) (t := (tK t T (a + 3) k)) (w := w) (r := (fi k (vs T (a + 3)) r)) hl ht (a := (ps T (a + 3) k)) (by omega) (p := nI (ps T (a + 3) k))) rfl rfl (by decide) (by decide) (Nat.le_of_ble_eq_true rfl) (by decide) (by decide) ?_
            refine Z.iret B Rt dX12_item_183 (ty := .boolean) rfl rfl (by decide) (by decide) ?_
            have hx : nbd T (ps T (a + 3) k0) = _ := (by first | exact if_pos (by rw [hke]; exact h172) | exact if_neg (by rw [hke]; exact h172))
            rw [hx, hke]
            exact ⟨rfl, _, _, _, rfl⟩
  have h0 := hloop133 0 (Nat.zero_le _)
  rw [fi_0] at h0
  exact h0

theorem it_M_d2 {σ : zSt} {t w : Int32} {r : Nat → Int32} (hl : Lay σ) {s m : Nat} {T : Nat → Int32} (ht : zTm σ s m T) {a : Nat} (ha : a < 2 ^ 29) {n ac y : Nat} (H : zMd σ n ac y) (hw : wd T a = 2) (hs : T (a + 3) = nI 32) (hr : y < 8) (hall : ∀ k, k < 2 → nok T (ps T (a + 3) k) (mx ac 2 k))  : Dt mX12_item [.ref 45] (mS σ a t w r) (some (.int (nI 1))) (zuX (zuX (zuX (mS σ (ps T (a + 3) 2) (vs T (a + 3) 1) w (fi 2 (vs T (a + 3)) r)) 52 (upd (zX (mS σ (ps T (a + 3) 2) (vs T (a + 3) 1) w (fi 2 (vs T (a + 3)) r)) 52) y (zX (mS σ (ps T (a + 3) 2) (vs T (a + 3) 1) w (fi 2 (vs T (a + 3)) r)) 61 0))) 53 (upd (zX (mS σ (ps T (a + 3) 2) (vs T (a + 3) 1) w (fi 2 (vs T (a + 3)) r)) 53) y (zX (mS σ (ps T (a + 3) 2) (vs T (a + 3) 1) w (fi 2 (vs T (a + 3)) r)) 61 1))) 45 (upd (zX (mS σ (ps T (a + 3) 2) (vs T (a + 3) 1) w (fi 2 (vs T (a + 3)) r)) 45) 2 (nI (y + 1)))) := by
  obtain ⟨⟨hs8, hm160⟩, ⟨hbs, hen⟩, hT, hwd⟩ := id ht
  obtain ⟨-, hn, hn8, hac, hac4, hy, hy8⟩ := id H
  obtain ⟨hv, ho⟩ := wd_al (by decide) hw
  have hwl : wl 2 = 3 := rfl
  rw [hwl] at hv
  refine Dt.of (by decide) (Nat.le_of_ble_eq_true rfl) fun κ B Rt => ?_
  show Z κ 0 0 (mS σ a t w r) 0 [(0, .ref 45)] []
  refine Z.iconst B dX12_item_0 (v := nI 0) rfl ?_
  refine Z.istore_n B dX12_item_1 (by decide) (L' := [(0, .ref 45), (1, .int (nI 0))]) rfl ?_
  refine Z.iload_n B dX12_item_2 (x := nI 0) rfl ?_
  refine Z.iconst B dX12_item_3 (v := nI 4) rfl ?_
  refine Z.icmp_geN B dX12_item_4 (tgt := 38) rfl (by omega) (by omega) (fun h4 => by exfalso; first | omega | contradiction | simp_all) (fun h4 => ?_)
  refine Z.aload_n B dX12_item_7 (v := .ref 45) rfl rfl ?_
  refine Z.iload_n B dX12_item_8 (x := nI 0) rfl ?_
  refine Z.callVI (σ := (mS σ a t w r)) B (M' := mX12_isWordAt) (as := [.int (nI 0)]) (st := []) (v := .int (nI 0)) dX12_item_9 wX12_isWordAt iX12_isWordAt sX12_isWordAt kX12_160 (hl.n (k := 45) (by decide)) (hl.k (k := 45) (by decide)) (by decide) rfl rfl (t_X12_isW_0_0 (σ := σ) (t := t) (w := w) (r := r) hl ht (by omega) (by have := ho 0 (by decide) (by decide); omega)) rfl rfl (by decide) (by decide) (Nat.le_of_ble_eq_true rfl) (by decide) (by decide) ?_
  refine Z.if_eqN B dX12_item_12 (tgt := 32) rfl (by omega) (fun h12 => ?_) (fun h12 => by exfalso; first | omega | contradiction | simp_all)
  refine Z.iinc B dX12_item_32 (by decide) (x := nI 0) rfl (v := nI 1) (nI_inc 0) (L' := [(0, .ref 45), (1, .int (nI 1))]) rfl ?_
  refine Z.goto B dX12_item_35 (tgt := 2) rfl ?_
  refine Z.iload_n B dX12_item_2 (x := nI 1) rfl ?_
  refine Z.iconst B dX12_item_3 (v := nI 4) rfl ?_
  refine Z.icmp_geN B dX12_item_4 (tgt := 38) rfl (by omega) (by omega) (fun h4 => by exfalso; first | omega | contradiction | simp_all) (fun h4 => ?_)
  refine Z.aload_n B dX12_item_7 (v := .ref 45) rfl rfl ?_
  refine Z.iload_n B dX12_item_8 (x := nI 1) rfl ?_
  refine Z.callVI (σ := (mS σ a t w r)) B (M' := mX12_isWordAt) (as := [.int (nI 1)]) (st := []) (v := .int (nI 0)) dX12_item_9 wX12_isWordAt iX12_isWordAt sX12_isWordAt kX12_160 (hl.n (k := 45) (by decide)) (hl.k (k := 45) (by decide)) (by decide) rfl rfl (t_X12_isW_1_0 (σ := σ) (t := t) (w := w) (r := r) hl ht (by omega) (by have := ho 1 (by decide) (by decide); omega)) rfl rfl (by decide) (by decide) (Nat.le_of_ble_eq_true rfl) (by decide) (by decide) ?_
  refine Z.if_eqN B dX12_item_12 (tgt := 32) rfl (by omega) (fun h12 => ?_) (fun h12 => by exfalso; first | omega | contradiction | simp_all)
  refine Z.iinc B dX12_item_32 (by decide) (x := nI 1) rfl (v := nI 2) (nI_inc 1) (L' := [(0, .ref 45), (1, .int (nI 2))]) rfl ?_
  refine Z.goto B dX12_item_35 (tgt := 2) rfl ?_
  refine Z.iload_n B dX12_item_2 (x := nI 2) rfl ?_
  refine Z.iconst B dX12_item_3 (v := nI 4) rfl ?_
  refine Z.icmp_geN B dX12_item_4 (tgt := 38) rfl (by omega) (by omega) (fun h4 => by exfalso; first | omega | contradiction | simp_all) (fun h4 => ?_)
  refine Z.aload_n B dX12_item_7 (v := .ref 45) rfl rfl ?_
  refine Z.iload_n B dX12_item_8 (x := nI 2) rfl ?_
  refine Z.callVI (σ := (mS σ a t w r)) B (M' := mX12_isWordAt) (as := [.int (nI 2)]) (st := []) (v := .int (nI 1)) dX12_item_9 wX12_isWordAt iX12_isWordAt sX12_isWordAt kX12_160 (hl.n (k := 45) (by decide)) (hl.k (k := 45) (by decide)) (by decide) rfl rfl (t_X12_isW_2_1 (σ := σ) (t := t) (w := w) (r := r) hl ht (by omega) hv) rfl rfl (by decide) (by decide) (Nat.le_of_ble_eq_true rfl) (by decide) (by decide) ?_
  refine Z.if_eqN B dX12_item_12 (tgt := 32) rfl (by omega) (fun h12 => by exfalso; first | omega | contradiction | simp_all) (fun h12 => ?_)
  refine Z.aload_n B dX12_item_15 (v := .ref 45) rfl rfl ?_
  refine Z.iload_n B dX12_item_16 (x := nI 2) rfl ?_
  refine Z.callVI (σ := (mS σ a t w r)) B (M' := mX12_isFull) (as := [.int (nI 2)]) (st := []) (v := .int (nI 0)) dX12_item_17 wX12_isFull iX12_isFull sX12_isFull kX12_163 (hl.n (k := 45) (by decide)) (hl.k (k := 45) (by decide)) (by decide) rfl rfl (t_X12_isFull_2_0 (σ := mS σ a t w r) hl ((mS_f (by decide) (by decide) (by decide)).trans hn) hn8 ((mS_f (by decide) (by decide) (by decide)).trans hac) hac4 ((mS_f (by decide) (by decide) (by decide)).trans hy) hy8 hr) rfl rfl (by decide) (by decide) (Nat.le_of_ble_eq_true rfl) (by decide) (by decide) ?_
  refine Z.if_eqN B dX12_item_20 (tgt := 32) rfl (by omega) (fun h20 => ?_) (fun h20 => by exfalso; first | omega | contradiction | simp_all)
  refine Z.iinc B dX12_item_32 (by decide) (x := nI 2) rfl (v := nI 3) (nI_inc 2) (L' := [(0, .ref 45), (1, .int (nI 3))]) rfl ?_
  refine Z.goto B dX12_item_35 (tgt := 2) rfl ?_
  refine Z.iload_n B dX12_item_2 (x := nI 3) rfl ?_
  refine Z.iconst B dX12_item_3 (v := nI 4) rfl ?_
  refine Z.icmp_geN B dX12_item_4 (tgt := 38) rfl (by omega) (by omega) (fun h4 => by exfalso; first | omega | contradiction | simp_all) (fun h4 => ?_)
  refine Z.aload_n B dX12_item_7 (v := .ref 45) rfl rfl ?_
  refine Z.iload_n B dX12_item_8 (x := nI 3) rfl ?_
  refine Z.callVI (σ := (mS σ a t w r)) B (M' := mX12_isWordAt) (as := [.int (nI 3)]) (st := []) (v := .int (nI 0)) dX12_item_9 wX12_isWordAt iX12_isWordAt sX12_isWordAt kX12_160 (hl.n (k := 45) (by decide)) (hl.k (k := 45) (by decide)) (by decide) rfl rfl (t_X12_isW_3_0 (σ := σ) (t := t) (w := w) (r := r) hl ht (by omega) (by have := ho 3 (by decide) (by decide); omega)) rfl rfl (by decide) (by decide) (Nat.le_of_ble_eq_true rfl) (by decide) (by decide) ?_
  refine Z.if_eqN B dX12_item_12 (tgt := 32) rfl (by omega) (fun h12 => ?_) (fun h12 => by exfalso; first | omega | contradiction | simp_all)
  refine Z.iinc B dX12_item_32 (by decide) (x := nI 3) rfl (v := nI 4) (nI_inc 3) (L' := [(0, .ref 45), (1, .int (nI 4))]) rfl ?_
  refine Z.goto B dX12_item_35 (tgt := 2) rfl ?_
  refine Z.iload_n B dX12_item_2 (x := nI 4) rfl ?_
  refine Z.iconst B dX12_item_3 (v := nI 4) rfl ?_
  refine Z.icmp_geN B dX12_item_4 (tgt := 38) rfl (by omega) (by omega) (fun h4 => ?_) (fun h4 => by exfalso; first | omega | contradiction | simp_all)
  refine Z.aload_n B dX12_item_38 (v := .ref 45) rfl rfl ?_
  refine Z.getI (σ := (mS σ a t w r)) B fX12_141_12 dX12_item_39 (hl.n (k := 45) (by decide)) (hl.k (k := 45) (by decide)) (by decide) (v := nI a) mS_a ?_
  refine Z.istore_n B dX12_item_42 (by decide) (L' := [(0, .ref 45), (1, .int (nI a))]) rfl ?_
  refine Z.aload_n B dX12_item_43 (v := .ref 45) rfl rfl ?_
  refine Z.callVI (σ := (mS σ a t w r)) B (M' := mX12_word) (as := []) (st := []) (v := .int (nI 2)) dX12_item_44 wX12_word iX12_word sX12_word kX12_166 (hl.n (k := 45) (by decide)) (hl.k (k := 45) (by decide)) (by decide) rfl rfl (wdM_2 (σ := σ) (t := t) (w := w) (r := r) hl ht (by omega) hw hs) rfl rfl (by decide) (by decide) (Nat.le_of_ble_eq_true rfl) (by decide) (by decide) ?_
  refine Z.istore_n B dX12_item_47 (by decide) (L' := [(0, .ref 45), (1, .int (nI a)), (2, .int (nI 2))]) rfl ?_
  refine Z.iload_n B dX12_item_48 (x := nI 2) rfl ?_
  refine Z.iconst B dX12_item_49 (v := (-1)) rfl ?_
  refine Z.icmp_ne B dX12_item_50 (tgt := 55) rfl (fun h50 => ?_) (fun h50 => (by exfalso; revert h50; decide))
  refine Z.iload_n B dX12_item_55 (x := nI 2) rfl ?_
  refine Z.if_neN B dX12_item_56 (tgt := 68) rfl (by omega) (fun h56 => ?_) (fun h56 => by exfalso; first | omega | contradiction | simp_all)
  refine Z.iload_n B dX12_item_68 (x := nI 2) rfl ?_
  refine Z.iconst B dX12_item_69 (v := nI 1) rfl ?_
  refine Z.icmp_neN B dX12_item_70 (tgt := 81) rfl (by omega) (by omega) (fun h70 => ?_) (fun h70 => by exfalso; first | omega | contradiction | simp_all)
  refine Z.iload_n B dX12_item_81 (x := nI 2) rfl ?_
  refine Z.iconst B dX12_item_82 (v := nI 2) rfl ?_
  refine Z.icmp_neN B dX12_item_83 (tgt := 101) rfl (by omega) (by omega) (fun h83 => by exfalso; first | omega | contradiction | simp_all) (fun h83 => ?_)
  refine Z.aload_n B dX12_item_86 (v := .ref 45) rfl rfl ?_
  refine Z.getI (σ := (mS σ (a + 3 + 1) t w r)) B fX12_87_12 dX12_item_87 (hl.n (k := 45) (by decide)) (hl.k (k := 45) (by decide)) (by decide) (v := nI y) ((mS_f (by decide) (by decide) (by decide)).trans hy) ?_
  refine Z.bipush B dX12_item_90 (v := nI 8) rfl ?_
  refine Z.icmp_neN B dX12_item_92 (tgt := 101) rfl (by omega) (by omega) (fun h92 => ?_) (fun h92 => (by omega))
  refine Z.iload_n B dX12_item_101 (x := nI 2) rfl ?_
  refine Z.if_neN B dX12_item_102 (tgt := 110) rfl (by omega) (fun h102 => ?_) (fun h102 => by exfalso; first | omega | contradiction | simp_all)
  refine Z.iload_n B dX12_item_110 (x := nI 2) rfl ?_
  refine Z.iconst B dX12_item_111 (v := nI 1) rfl ?_
  refine Z.icmp_neN B dX12_item_112 (tgt := 119) rfl (by omega) (by omega) (fun h112 => ?_) (fun h112 => by exfalso; first | omega | contradiction | simp_all)
  refine Z.iload_n B dX12_item_119 (x := nI 2) rfl ?_
  refine Z.iconst B dX12_item_120 (v := nI 2) rfl ?_
  refine Z.icmp_neN B dX12_item_121 (tgt := 128) rfl (by omega) (by omega) (fun h121 => by exfalso; first | omega | contradiction | simp_all) (fun h121 => ?_)
  refine Z.iconst B dX12_item_124 (v := nI 2) rfl ?_
  refine Z.goto B dX12_item_125 (tgt := 129) rfl ?_
  refine Z.istore_n B dX12_item_129 (by decide) (L' := [(0, .ref 45), (1, .int (nI a)), (2, .int (nI 2)), (3, .int (nI 2))]) rfl ?_
  refine Z.iconst B dX12_item_130 (v := nI 0) rfl ?_
  refine Z.istore B dX12_item_131 (by decide) (L' := [(0, .ref 45), (1, .int (nI a)), (2, .int (nI 2)), (3, .int (nI 2)), (4, .int (nI 0))]) rfl ?_
  have hloop133 : ∀ k : Nat, k ≤ 2 → Z κ 0 0 (mS σ (atK T (a + 3) k) (tK t T (a + 3) k) w (fi k (vs T (a + 3)) r)) 133 [(0, .ref 45), (1, .int (nI a)), (2, .int (nI 2)), (3, .int (nI 2)), (4, .int (nI k))] [] := by
    refine z_loop (fun k => 2 - k) (fun k ih hkc => ?_)
    have hps := ps_le (T := T) (p := a + 3) k
    refine Z.iload B dX12_item_133 (x := nI k) rfl ?_
    refine Z.iload_n B dX12_item_135 (x := nI 2) rfl ?_
    refine Z.icmp_geN B dX12_item_136 (tgt := 227) rfl (by omega) (by omega) (fun h136 => ?_) (fun h136 => ?_)
    · skip
      obtain rfl : k = 2 := by omega
      refine Z.eqσ (τ := (mS σ (ps T (a + 3) 2) (vs T (a + 3) 1) w (fi 2 (vs T (a + 3)) r))) rfl ?_
      refine Z.iload_n B dX12_item_227 (x := nI 2) rfl ?_
      refine Z.tabIn B dX12_item_228 (by decide) (by decide) (off := 105) (by decide) (tgt := 333) rfl ?_
      refine Z.aload_n B dX12_item_333 (v := .ref 45) rfl rfl ?_
      refine Z.aload_n B dX12_item_334 (v := .ref 45) rfl rfl ?_
      refine Z.getR (σ := (mS σ (ps T (a + 3) 2) (vs T (a + 3) 1) w (fi 2 (vs T (a + 3)) r))) B fX12_63_12 dX12_item_335 (hl.n (k := 45) (by decide)) (hl.k (k := 45) (by decide)) (by decide) (j := 61) (hl.r (k := 45) (f := 20) (by decide) (by decide)) ?_
      refine Z.iconst B dX12_item_338 (v := nI 0) rfl ?_
      refine Z.iald (σ := (mS σ (ps T (a + 3) 2) (vs T (a + 3) 1) w (fi 2 (vs T (a + 3)) r))) B dX12_item_339 (n := 6) (hl.n (k := 61) (by decide)) (hl.k (k := 61) (by decide)) (hl.l (k := 61) (by decide)) (by decide) (j := 0) rfl (by omega) (v := (zX (mS σ (ps T (a + 3) 2) (vs T (a + 3) 1) w (fi 2 (vs T (a + 3)) r)) 61 0)) rfl ?_
      refine Z.aload_n B dX12_item_340 (v := .ref 45) rfl rfl ?_
      refine Z.getR (σ := (mS σ (ps T (a + 3) 2) (vs T (a + 3) 1) w (fi 2 (vs T (a + 3)) r))) B fX12_63_12 dX12_item_341 (hl.n (k := 45) (by decide)) (hl.k (k := 45) (by decide)) (by decide) (j := 61) (hl.r (k := 45) (f := 20) (by decide) (by decide)) ?_
      refine Z.iconst B dX12_item_344 (v := nI 1) rfl ?_
      refine Z.iald (σ := (mS σ (ps T (a + 3) 2) (vs T (a + 3) 1) w (fi 2 (vs T (a + 3)) r))) B dX12_item_345 (n := 6) (hl.n (k := 61) (by decide)) (hl.k (k := 61) (by decide)) (hl.l (k := 61) (by decide)) (by decide) (j := 1) rfl (by omega) (v := (zX (mS σ (ps T (a + 3) 2) (vs T (a + 3) 1) w (fi 2 (vs T (a + 3)) r)) 61 1)) rfl ?_
      refine Z.callVI (σ := (mS σ (ps T (a + 3) 2) (vs T (a + 3) 1) w (fi 2 (vs T (a + 3)) r))) B (M' := mX12_ways) (as := [.int (zX (mS σ (ps T (a + 3) 2) (vs T (a + 3) 1) w (fi 2 (vs T (a + 3)) r)) 61 0), .int (zX (mS σ (ps T (a + 3) 2) (vs T (a + 3) 1) w (fi 2 (vs T (a + 3)) r)) 61 1)]) (st := []) (v := .int (nI y)) dX12_item_346 wX12_ways iX12_ways sX12_ways kX12_124 (hl.n (k := 45) (by decide)) (hl.k (k := 45) (by decide)) (by decide) rfl rfl (t_M_ways_ (σ := (mS σ (ps T (a + 3) 2) (vs T (a + 3) 1) w (fi 2 (vs T (a + 3)) r))) hl H.mS hr) rfl rfl (by decide) (by decide) (Nat.le_of_ble_eq_true rfl) (by decide) (by decide) ?_
      refine Z.eqσ (τ := (zuX (zuX (zuX (mS σ (ps T (a + 3) 2) (vs T (a + 3) 1) w (fi 2 (vs T (a + 3)) r)) 52 (upd (zX (mS σ (ps T (a + 3) 2) (vs T (a + 3) 1) w (fi 2 (vs T (a + 3)) r)) 52) y (zX (mS σ (ps T (a + 3) 2) (vs T (a + 3) 1) w (fi 2 (vs T (a + 3)) r)) 61 0))) 53 (upd (zX (mS σ (ps T (a + 3) 2) (vs T (a + 3) 1) w (fi 2 (vs T (a + 3)) r)) 53) y (zX (mS σ (ps T (a + 3) 2) (vs T (a + 3) 1) w (fi 2 (vs T (a + 3)) r)) 61 1))) 45 (upd (zX (mS σ (ps T (a + 3) 2) (vs T (a + 3) 1) w (fi 2 (vs T (a + 3)) r)) 45) 2 (nI (y + 1))))) rfl ?_
      refine Z.pop B dX12_item_349 rfl ?_
      refine Z.goto B dX12_item_350 (tgt := 364) rfl ?_
      refine Z.iconst B dX12_item_364 (v := nI 1) rfl ?_
      refine Z.iret B Rt dX12_item_365 (ty := .boolean) rfl rfl (by decide) (by decide) ?_
      exact ⟨rfl, rfl⟩
    · skip
      have hk := hall k (by omega)
      refine Z.iload B dX12_item_139 (x := nI k) rfl ?_
      refine Z.if_leN B dX12_item_141 (tgt := 194) rfl (by omega) (fun h141 => ?_) (fun h141 => ?_)
      · skip
        refine Z.eqσ (τ := (mS σ (ps T (a + 3) k + 1) (tK t T (a + 3) k) w (fi k (vs T (a + 3)) r))) (by rw [atK_0 h141]) ?_
        refine Z.aload_n B dX12_item_194 (v := .ref 45) rfl rfl ?_
        refine Z.aload_n B dX12_item_195 (v := .ref 45) rfl rfl ?_
        refine Z.iload_n B dX12_item_196 (x := nI 2) rfl ?_
        refine Z.iload B dX12_item_197 (x := nI k) rfl ?_
        refine Z.callVI (σ := (mS σ (ps T (a + 3) k + 1) (tK t T (a + 3) k) w (fi k (vs T (a + 3)) r))) B (M' := mX12_high) (as := [.int (nI 2), .int (nI k)]) (st := [.ref 45]) (v := .int (mx ac 2 k)) dX12_item_199 wX12_high iX12_high sX12_high kX12_170 (hl.n (k := 45) (by decide)) (hl.k (k := 45) (by decide)) (by decide) rfl rfl (t_X12_high (w := 2) (i := k) hl ((mS_f (by decide) (by decide) (by decide)).trans hac) (by decide) (by show k < 2; omega)) rfl rfl (by decide) (by decide) (Nat.le_of_ble_eq_true rfl) (by decide) (by decide) ?_
        refine Z.callVI (σ := (mS σ (ps T (a + 3) k + 1) (tK t T (a + 3) k) w (fi k (vs T (a + 3)) r))) B (M' := mX12_number) (as := [.int (mx ac 2 k)]) (st := []) (v := .int (nI 1)) dX12_item_202 wX12_number iX12_number sX12_number kX12_173 (hl.n (k := 45) (by decide)) (hl.k (k := 45) (by decide)) (by decide) rfl rfl (t_X12_num_ok (σ := σ) (t := (tK t T (a + 3) k)) (w := w) (r := (fi k (vs T (a + 3)) r)) hl ht (a := ps T (a + 3) k + 1) (by omega) hk.2.1 hk.2.2) rfl rfl (by decide) (by decide) (Nat.le_of_ble_eq_true rfl) (by decide) (by decide) ?_
        refine Z.eqσ (τ := (mS σ (ps T (a + 3) (k + 1)) (vs T (a + 3) k) w (fi k (vs T (a + 3)) r))) (congrArg (fun q => mS σ q (vs T (a + 3) k) w (fi k (vs T (a + 3)) r)) (ps_ok hk).symm) ?_
        refine Z.if_neN B dX12_item_205 (tgt := 210) rfl (by omega) (fun h205 => ?_) (fun h205 => (by omega))
        refine Z.aload_n B dX12_item_210 (v := .ref 45) rfl rfl ?_
        refine Z.getR (σ := (mS σ (ps T (a + 3) (k + 1)) (vs T (a + 3) k) w (fi k (vs T (a + 3)) r))) B fX12_63_12 dX12_item_211 (hl.n (k := 45) (by decide)) (hl.k (k := 45) (by decide)) (by decide) (j := 61) (hl.r (k := 45) (f := 20) (by decide) (by decide)) ?_
        refine Z.iload B dX12_item_214 (x := nI k) rfl ?_
        refine Z.aload_n B dX12_item_216 (v := .ref 45) rfl rfl ?_
        refine Z.getI (σ := (mS σ (ps T (a + 3) (k + 1)) (vs T (a + 3) k) w (fi k (vs T (a + 3)) r))) B fX12_157_12 dX12_item_217 (hl.n (k := 45) (by decide)) (hl.k (k := 45) (by decide)) (by decide) (v := (vs T (a + 3) k)) mS_t ?_
        refine Z.iast (σ := (mS σ (ps T (a + 3) (k + 1)) (vs T (a + 3) k) w (fi k (vs T (a + 3)) r))) B dX12_item_220 (n := 6) (hl.n (k := 61) (by decide)) (hl.k (k := 61) (by decide)) (hl.l (k := 61) (by decide)) (by decide) (j := k) rfl (by omega) (τ := (zuX (mS σ (ps T (a + 3) (k + 1)) (vs T (a + 3) k) w (fi k (vs T (a + 3)) r)) 61 (upd (zX (mS σ (ps T (a + 3) (k + 1)) (vs T (a + 3) k) w (fi k (vs T (a + 3)) r)) 61) k (vs T (a + 3) k)))) rfl ?_
        refine Z.eqσ (τ := (mS σ (ps T (a + 3) (k + 1)) (vs T (a + 3) k) w (fi (k + 1) (vs T (a + 3)) r))) (by rw [mS_r, fi_s (f := vs T (a + 3)) rfl]; exact mS_ur) ?_
        refine Z.iincN B dX12_item_221 (by decide) (a := k) rfl (L' := [(0, .ref 45), (1, .int (nI a)), (2, .int (nI 2)), (3, .int (nI 2)), (4, .int (nI (k + 1)))]) rfl ?_
        refine Z.goto B dX12_item_224 (tgt := 133) rfl ?_
        exact ih (k + 1) (by omega) (by omega)
      · skip
        have h141 := h141
        refine Z.eqσ (τ := (mS σ (ps T (a + 3) k) (tK t T (a + 3) k) w (fi k (vs T (a + 3)) r))) (by rw [atK_s h141]) ?_
        refine Z.aload_n B dX12_item_144 (v := .ref 45) rfl rfl ?_
        refine Z.getI (σ := (mS σ (ps T (a + 3) k) (tK t T (a + 3) k) w (fi k (vs T (a + 3)) r))) B fX12_141_12 dX12_item_145 (hl.n (k := 45) (by decide)) (hl.k (k := 45) (by decide)) (by decide) (v := nI (ps T (a + 3) k)) mS_a ?_
        refine Z.aload_n B dX12_item_148 (v := .ref 45) rfl rfl ?_
        refine Z.getI (σ := (mS σ (ps T (a + 3) k) (tK t T (a + 3) k) w (fi k (vs T (a + 3)) r))) B fX12_144_12 dX12_item_149 (hl.n (k := 45) (by decide)) (hl.k (k := 45) (by decide)) (by decide) (v := nI m) ((mS_f (by decide) (by decide) (by decide)).trans hen) ?_
        refine Z.icmp_geN B dX12_item_152 (tgt := 175) rfl (by omega) (by omega) (fun h152 => (by have := in_m ht (c := 31) hk.1 (by decide); omega)) (fun h152 => ?_)
        refine Z.aload_n B dX12_item_155 (v := .ref 45) rfl rfl ?_
        refine Z.getR (σ := (mS σ (ps T (a + 3) k) (tK t T (a + 3) k) w (fi k (vs T (a + 3)) r))) B fX12_53_12 dX12_item_156 (hl.n (k := 45) (by decide)) (hl.k (k := 45) (by decide)) (by decide) (j := 58) (hl.r (k := 45) (f := 17) (by decide) (by decide)) ?_
        refine Z.aload_n B dX12_item_159 (v := .ref 45) rfl rfl ?_
        refine Z.getI (σ := (mS σ (ps T (a + 3) k) (tK t T (a + 3) k) w (fi k (vs T (a + 3)) r))) B fX12_147_12 dX12_item_160 (hl.n (k := 45) (by decide)) (hl.k (k := 45) (by decide)) (by decide) (v := nI (s * 160)) ((mS_f (by decide) (by decide) (by decide)).trans hbs) ?_
        refine Z.aload_n B dX12_item_163 (v := .ref 45) rfl rfl ?_
        refine Z.getI (σ := (mS σ (ps T (a + 3) k) (tK t T (a + 3) k) w (fi k (vs T (a + 3)) r))) B fX12_141_12 dX12_item_164 (hl.n (k := 45) (by decide)) (hl.k (k := 45) (by decide)) (by decide) (v := nI (ps T (a + 3) k)) mS_a ?_
        refine Z.iaddN B dX12_item_167 (a := s * 160) (b := ps T (a + 3) k) ?_
        refine Z.lald (σ := (mS σ (ps T (a + 3) k) (tK t T (a + 3) k) w (fi k (vs T (a + 3)) r))) B dX12_item_168 (n := 1280) (hl.n (k := 58) (by decide)) (hl.k (k := 58) (by decide)) (hl.l (k := 58) (by decide)) (by decide) (j := (s * 160) + (ps T (a + 3) k)) rfl (by have := in_m ht (c := 31) hk.1 (by decide); omega) (v := (zY (mS σ (ps T (a + 3) k) (tK t T (a + 3) k) w (fi k (vs T (a + 3)) r)) 58 ((s * 160) + (ps T (a + 3) k)))) rfl ?_
        refine Z.l2i B dX12_item_169 ?_
        refine Z.eqS (st' := [.int (T (ps T (a + 3) k))]) (congrArg (fun z => Value.int z :: _) (ht.t (i := ps T (a + 3) k) (in_m ht (c := 31) hk.1 (by decide)))) ?_
        refine Z.bipush B dX12_item_170 (v := nI 32) rfl ?_
        refine Z.icmp_eq B dX12_item_172 (tgt := 184) rfl (fun h172 => ?_) (fun h172 => (absurd hk.1 h172))
        refine Z.aload_n B dX12_item_184 (v := .ref 45) rfl rfl ?_
        refine Z.dup B dX12_item_185 rfl ?_
        refine Z.getI (σ := (mS σ (ps T (a + 3) k) (tK t T (a + 3) k) w (fi k (vs T (a + 3)) r))) B fX12_141_12 dX12_item_186 (hl.n (k := 45) (by decide)) (hl.k (k := 45) (by decide)) (by decide) (v := nI (ps T (a + 3) k)) mS_a ?_
        refine Z.iconst B dX12_item_189 (v := nI 1) rfl ?_
        refine Z.iaddN B dX12_item_190 (a := ps T (a + 3) k) (b := 1) ?_
        refine Z.putI (σ := (mS σ (ps T (a + 3) k) (tK t T (a + 3) k) w (fi k (vs T (a + 3)) r))) B fX12_141_12 (ty := .int) ⟨_, _, _, rfl, rfl, by decide +kernel⟩ dX12_item_191 (hl.n (k := 45) (by decide)) (hl.k (k := 45) (by decide)) (by decide) rfl rfl (τ := (zuX (mS σ (ps T (a + 3) k) (tK t T (a + 3) k) w (fi k (vs T (a + 3)) r)) 45 (upd (zX (mS σ (ps T (a + 3) k) (tK t T (a + 3) k) w (fi k (vs T (a + 3)) r)) 45) 22 (nI ((ps T (a + 3) k) + 1))))) rfl ?_
        refine Z.eqσ (τ := (mS σ (ps T (a + 3) k + 1) (tK t T (a + 3) k) w (fi k (vs T (a + 3)) r))) mS_ua ?_
        refine Z.aload_n B dX12_item_194 (v := .ref 45) rfl rfl ?_
        refine Z.aload_n B dX12_item_195 (v := .ref 45) rfl rfl ?_
        refine Z.iload_n B dX12_item_196 (x := nI 2) rfl ?_
        refine Z.iload B dX12_item_197 (x := nI k) rfl ?_
        refine Z.callVI (σ := (mS σ (ps T (a + 3) k + 1) (tK t T (a + 3) k) w (fi k (vs T (a + 3)) r))) B (M' := mX12_high) (as := [.int (nI 2), .int (nI k)]) (st := [.ref 45]) (v := .int (mx ac 2 k)) dX12_item_199 wX12_high iX12_high sX12_high kX12_170 (hl.n (k := 45) (by decide)) (hl.k (k := 45) (by decide)) (by decide) rfl rfl (t_X12_high (w := 2) (i := k) hl ((mS_f (by decide) (by decide) (by decide)).trans hac) (by decide) (by show k < 2; omega)) rfl rfl (by decide) (by decide) (Nat.le_of_ble_eq_true rfl) (by decide) (by decide) ?_
        refine Z.callVI (σ := (mS σ (ps T (a + 3) k + 1) (tK t T (a + 3) k) w (fi k (vs T (a + 3)) r))) B (M' := mX12_number) (as := [.int (mx ac 2 k)]) (st := []) (v := .int (nI 1)) dX12_item_202 wX12_number iX12_number sX12_number kX12_173 (hl.n (k := 45) (by decide)) (hl.k (k := 45) (by decide)) (by decide) rfl rfl (t_X12_num_ok (σ := σ) (t := (tK t T (a + 3) k)) (w := w) (r := (fi k (vs T (a + 3)) r)) hl ht (a := ps T (a + 3) k + 1) (by omega) hk.2.1 hk.2.2) rfl rfl (by decide) (by decide) (Nat.le_of_ble_eq_true rfl) (by decide) (by decide) ?_
        refine Z.eqσ (τ := (mS σ (ps T (a + 3) (k + 1)) (vs T (a + 3) k) w (fi k (vs T (a + 3)) r))) (congrArg (fun q => mS σ q (vs T (a + 3) k) w (fi k (vs T (a + 3)) r)) (ps_ok hk).symm) ?_
        refine Z.if_neN B dX12_item_205 (tgt := 210) rfl (by omega) (fun h205 => ?_) (fun h205 => (by omega))
        refine Z.aload_n B dX12_item_210 (v := .ref 45) rfl rfl ?_
        refine Z.getR (σ := (mS σ (ps T (a + 3) (k + 1)) (vs T (a + 3) k) w (fi k (vs T (a + 3)) r))) B fX12_63_12 dX12_item_211 (hl.n (k := 45) (by decide)) (hl.k (k := 45) (by decide)) (by decide) (j := 61) (hl.r (k := 45) (f := 20) (by decide) (by decide)) ?_
        refine Z.iload B dX12_item_214 (x := nI k) rfl ?_
        refine Z.aload_n B dX12_item_216 (v := .ref 45) rfl rfl ?_
        refine Z.getI (σ := (mS σ (ps T (a + 3) (k + 1)) (vs T (a + 3) k) w (fi k (vs T (a + 3)) r))) B fX12_157_12 dX12_item_217 (hl.n (k := 45) (by decide)) (hl.k (k := 45) (by decide)) (by decide) (v := (vs T (a + 3) k)) mS_t ?_
        refine Z.iast (σ := (mS σ (ps T (a + 3) (k + 1)) (vs T (a + 3) k) w (fi k (vs T (a + 3)) r))) B dX12_item_220 (n := 6) (hl.n (k := 61) (by decide)) (hl.k (k := 61) (by decide)) (hl.l (k := 61) (by decide)) (by decide) (j := k) rfl (by omega) (τ := (zuX (mS σ (ps T (a + 3) (k + 1)) (vs T (a + 3) k) w (fi k (vs T (a + 3)) r)) 61 (upd (zX (mS σ (ps T (a + 3) (k + 1)) (vs T (a + 3) k) w (fi k (vs T (a + 3)) r)) 61) k (vs T (a + 3) k)))) rfl ?_
        refine Z.eqσ (τ := (mS σ (ps T (a + 3) (k + 1)) (vs T (a + 3) k) w (fi (k + 1) (vs T (a + 3)) r))) (by rw [mS_r, fi_s (f := vs T (a + 3)) rfl]; exact mS_ur) ?_
        refine Z.iincN B dX12_item_221 (by decide) (a := k) rfl (L' := [(0, .ref 45), (1, .int (nI a)), (2, .int (nI 2)), (3, .int (nI 2)), (4, .int (nI (k + 1)))]) rfl ?_
        refine Z.goto B dX12_item_224 (tgt := 133) rfl ?_
        exact ih (k + 1) (by omega) (by omega)
  have h0 := hloop133 0 (Nat.zero_le _)
  rw [fi_0] at h0
  exact h0

theorem it_M_s3 {σ : zSt} {t w : Int32} {r : Nat → Int32} (hl : Lay σ) {s m : Nat} {T : Nat → Int32} (ht : zTm σ s m T) {a : Nat} (ha : a < 2 ^ 29) {n ac y : Nat} (H : zMd σ n ac y) (hw : wd T a = 3) (hs : ¬ T (a + 5) = nI 32) : Dt mX12_item [.ref 45] (mS σ a t w r) (some (.int (nI 0))) (mS σ a t (nI (a + 5)) r) := by
  obtain ⟨⟨hs8, hm160⟩, ⟨hbs, hen⟩, hT, hwd⟩ := id ht
  obtain ⟨-, hn, hn8, hac, hac4, hy, hy8⟩ := id H
  obtain ⟨hv, ho⟩ := wd_al (by decide) hw
  have hwl : wl 3 = 5 := rfl
  rw [hwl] at hv
  refine Dt.of (by decide) (Nat.le_of_ble_eq_true rfl) fun κ B Rt => ?_
  show Z κ 0 0 (mS σ a t w r) 0 [(0, .ref 45)] []
  refine Z.iconst B dX12_item_0 (v := nI 0) rfl ?_
  refine Z.istore_n B dX12_item_1 (by decide) (L' := [(0, .ref 45), (1, .int (nI 0))]) rfl ?_
  refine Z.iload_n B dX12_item_2 (x := nI 0) rfl ?_
  refine Z.iconst B dX12_item_3 (v := nI 4) rfl ?_
  refine Z.icmp_geN B dX12_item_4 (tgt := 38) rfl (by omega) (by omega) (fun h4 => by exfalso; first | omega | contradiction | simp_all) (fun h4 => ?_)
  refine Z.aload_n B dX12_item_7 (v := .ref 45) rfl rfl ?_
  refine Z.iload_n B dX12_item_8 (x := nI 0) rfl ?_
  refine Z.callVI (σ := (mS σ a t w r)) B (M' := mX12_isWordAt) (as := [.int (nI 0)]) (st := []) (v := .int (nI 0)) dX12_item_9 wX12_isWordAt iX12_isWordAt sX12_isWordAt kX12_160 (hl.n (k := 45) (by decide)) (hl.k (k := 45) (by decide)) (by decide) rfl rfl (t_X12_isW_0_0 (σ := σ) (t := t) (w := w) (r := r) hl ht (by omega) (by have := ho 0 (by decide) (by decide); omega)) rfl rfl (by decide) (by decide) (Nat.le_of_ble_eq_true rfl) (by decide) (by decide) ?_
  refine Z.if_eqN B dX12_item_12 (tgt := 32) rfl (by omega) (fun h12 => ?_) (fun h12 => by exfalso; first | omega | contradiction | simp_all)
  refine Z.iinc B dX12_item_32 (by decide) (x := nI 0) rfl (v := nI 1) (nI_inc 0) (L' := [(0, .ref 45), (1, .int (nI 1))]) rfl ?_
  refine Z.goto B dX12_item_35 (tgt := 2) rfl ?_
  refine Z.iload_n B dX12_item_2 (x := nI 1) rfl ?_
  refine Z.iconst B dX12_item_3 (v := nI 4) rfl ?_
  refine Z.icmp_geN B dX12_item_4 (tgt := 38) rfl (by omega) (by omega) (fun h4 => by exfalso; first | omega | contradiction | simp_all) (fun h4 => ?_)
  refine Z.aload_n B dX12_item_7 (v := .ref 45) rfl rfl ?_
  refine Z.iload_n B dX12_item_8 (x := nI 1) rfl ?_
  refine Z.callVI (σ := (mS σ a t w r)) B (M' := mX12_isWordAt) (as := [.int (nI 1)]) (st := []) (v := .int (nI 0)) dX12_item_9 wX12_isWordAt iX12_isWordAt sX12_isWordAt kX12_160 (hl.n (k := 45) (by decide)) (hl.k (k := 45) (by decide)) (by decide) rfl rfl (t_X12_isW_1_0 (σ := σ) (t := t) (w := w) (r := r) hl ht (by omega) (by have := ho 1 (by decide) (by decide); omega)) rfl rfl (by decide) (by decide) (Nat.le_of_ble_eq_true rfl) (by decide) (by decide) ?_
  refine Z.if_eqN B dX12_item_12 (tgt := 32) rfl (by omega) (fun h12 => ?_) (fun h12 => by exfalso; first | omega | contradiction | simp_all)
  refine Z.iinc B dX12_item_32 (by decide) (x := nI 1) rfl (v := nI 2) (nI_inc 1) (L' := [(0, .ref 45), (1, .int (nI 2))]) rfl ?_
  refine Z.goto B dX12_item_35 (tgt := 2) rfl ?_
  refine Z.iload_n B dX12_item_2 (x := nI 2) rfl ?_
  refine Z.iconst B dX12_item_3 (v := nI 4) rfl ?_
  refine Z.icmp_geN B dX12_item_4 (tgt := 38) rfl (by omega) (by omega) (fun h4 => by exfalso; first | omega | contradiction | simp_all) (fun h4 => ?_)
  refine Z.aload_n B dX12_item_7 (v := .ref 45) rfl rfl ?_
  refine Z.iload_n B dX12_item_8 (x := nI 2) rfl ?_
  refine Z.callVI (σ := (mS σ a t w r)) B (M' := mX12_isWordAt) (as := [.int (nI 2)]) (st := []) (v := .int (nI 0)) dX12_item_9 wX12_isWordAt iX12_isWordAt sX12_isWordAt kX12_160 (hl.n (k := 45) (by decide)) (hl.k (k := 45) (by decide)) (by decide) rfl rfl (t_X12_isW_2_0 (σ := σ) (t := t) (w := w) (r := r) hl ht (by omega) (by have := ho 2 (by decide) (by decide); omega)) rfl rfl (by decide) (by decide) (Nat.le_of_ble_eq_true rfl) (by decide) (by decide) ?_
  refine Z.if_eqN B dX12_item_12 (tgt := 32) rfl (by omega) (fun h12 => ?_) (fun h12 => by exfalso; first | omega | contradiction | simp_all)
  refine Z.iinc B dX12_item_32 (by decide) (x := nI 2) rfl (v := nI 3) (nI_inc 2) (L' := [(0, .ref 45), (1, .int (nI 3))]) rfl ?_
  refine Z.goto B dX12_item_35 (tgt := 2) rfl ?_
  refine Z.iload_n B dX12_item_2 (x := nI 3) rfl ?_
  refine Z.iconst B dX12_item_3 (v := nI 4) rfl ?_
  refine Z.icmp_geN B dX12_item_4 (tgt := 38) rfl (by omega) (by omega) (fun h4 => by exfalso; first | omega | contradiction | simp_all) (fun h4 => ?_)
  refine Z.aload_n B dX12_item_7 (v := .ref 45) rfl rfl ?_
  refine Z.iload_n B dX12_item_8 (x := nI 3) rfl ?_
  refine Z.callVI (σ := (mS σ a t w r)) B (M' := mX12_isWordAt) (as := [.int (nI 3)]) (st := []) (v := .int (nI 1)) dX12_item_9 wX12_isWordAt iX12_isWordAt sX12_isWordAt kX12_160 (hl.n (k := 45) (by decide)) (hl.k (k := 45) (by decide)) (by decide) rfl rfl (t_X12_isW_3_1 (σ := σ) (t := t) (w := w) (r := r) hl ht (by omega) hv) rfl rfl (by decide) (by decide) (Nat.le_of_ble_eq_true rfl) (by decide) (by decide) ?_
  refine Z.if_eqN B dX12_item_12 (tgt := 32) rfl (by omega) (fun h12 => by exfalso; first | omega | contradiction | simp_all) (fun h12 => ?_)
  refine Z.aload_n B dX12_item_15 (v := .ref 45) rfl rfl ?_
  refine Z.iload_n B dX12_item_16 (x := nI 3) rfl ?_
  refine Z.callVI (σ := (mS σ a t w r)) B (M' := mX12_isFull) (as := [.int (nI 3)]) (st := []) (v := .int (nI 0)) dX12_item_17 wX12_isFull iX12_isFull sX12_isFull kX12_163 (hl.n (k := 45) (by decide)) (hl.k (k := 45) (by decide)) (by decide) rfl rfl (t_X12_isFull_3_0 (σ := mS σ a t w r) hl ((mS_f (by decide) (by decide) (by decide)).trans hn) hn8 ((mS_f (by decide) (by decide) (by decide)).trans hac) hac4 ((mS_f (by decide) (by decide) (by decide)).trans hy) hy8) rfl rfl (by decide) (by decide) (Nat.le_of_ble_eq_true rfl) (by decide) (by decide) ?_
  refine Z.if_eqN B dX12_item_20 (tgt := 32) rfl (by omega) (fun h20 => ?_) (fun h20 => by exfalso; first | omega | contradiction | simp_all)
  refine Z.iinc B dX12_item_32 (by decide) (x := nI 3) rfl (v := nI 4) (nI_inc 3) (L' := [(0, .ref 45), (1, .int (nI 4))]) rfl ?_
  refine Z.goto B dX12_item_35 (tgt := 2) rfl ?_
  refine Z.iload_n B dX12_item_2 (x := nI 4) rfl ?_
  refine Z.iconst B dX12_item_3 (v := nI 4) rfl ?_
  refine Z.icmp_geN B dX12_item_4 (tgt := 38) rfl (by omega) (by omega) (fun h4 => ?_) (fun h4 => by exfalso; first | omega | contradiction | simp_all)
  refine Z.aload_n B dX12_item_38 (v := .ref 45) rfl rfl ?_
  refine Z.getI (σ := (mS σ a t w r)) B fX12_141_12 dX12_item_39 (hl.n (k := 45) (by decide)) (hl.k (k := 45) (by decide)) (by decide) (v := nI a) mS_a ?_
  refine Z.istore_n B dX12_item_42 (by decide) (L' := [(0, .ref 45), (1, .int (nI a))]) rfl ?_
  refine Z.aload_n B dX12_item_43 (v := .ref 45) rfl rfl ?_
  refine Z.callVI (σ := (mS σ a t w r)) B (M' := mX12_word) (as := []) (st := []) (v := .int (-1)) dX12_item_44 wX12_word iX12_word sX12_word kX12_166 (hl.n (k := 45) (by decide)) (hl.k (k := 45) (by decide)) (by decide) rfl rfl (wdM_s (v := 3) (σ := σ) (t := t) (w := w) (r := r) hl ht (by omega) (by decide) hw hs) rfl rfl (by decide) (by decide) (Nat.le_of_ble_eq_true rfl) (by decide) (by decide) ?_
  refine Z.istore_n B dX12_item_47 (by decide) (L' := [(0, .ref 45), (1, .int (nI a)), (2, .int (-1))]) rfl ?_
  refine Z.iload_n B dX12_item_48 (x := (-1)) rfl ?_
  refine Z.iconst B dX12_item_49 (v := (-1)) rfl ?_
  refine Z.icmp_ne B dX12_item_50 (tgt := 55) rfl (fun h50 => absurd rfl h50) (fun h50 => ?_)
  refine Z.iconst B dX12_item_53 (v := nI 0) rfl ?_
  refine Z.iret B Rt dX12_item_54 (ty := .boolean) rfl rfl (by decide) (by decide) ?_
  exact ⟨rfl, rfl⟩

theorem it_M_c3 {σ : zSt} {t w : Int32} {r : Nat → Int32} (hl : Lay σ) {s m : Nat} {T : Nat → Int32} (ht : zTm σ s m T) {a : Nat} (ha : a < 2 ^ 29) {n ac y : Nat} (H : zMd σ n ac y) (hw : wd T a = 3) (hs : T (a + 5) = nI 32) {k0 : Nat} (hk0 : k0 < 1) (hall : ∀ k, k < k0 → nok T (ps T (a + 5) k) (mx ac 3 k)) (hb : ¬ nok T (ps T (a + 5) k0) (mx ac 3 k0))  : Ct mX12_item [.ref 45] (mS σ a t w r) (fun r1 τ => r1 = some (.int (nI 0)) ∧ ∃ a1 t1 r2, τ = mS σ a1 t1 (nI (nbd T (ps T (a + 5) k0))) r2) := by
  obtain ⟨⟨hs8, hm160⟩, ⟨hbs, hen⟩, hT, hwd⟩ := id ht
  obtain ⟨-, hn, hn8, hac, hac4, hy, hy8⟩ := id H
  obtain ⟨hv, ho⟩ := wd_al (by decide) hw
  have hwl : wl 3 = 5 := rfl
  rw [hwl] at hv
  have hs0 := hs
  refine Ct.of (by decide) (Nat.le_of_ble_eq_true rfl) fun κ B Rt => ?_
  show Z κ 0 0 (mS σ a t w r) 0 [(0, .ref 45)] []
  refine Z.iconst B dX12_item_0 (v := nI 0) rfl ?_
  refine Z.istore_n B dX12_item_1 (by decide) (L' := [(0, .ref 45), (1, .int (nI 0))]) rfl ?_
  refine Z.iload_n B dX12_item_2 (x := nI 0) rfl ?_
  refine Z.iconst B dX12_item_3 (v := nI 4) rfl ?_
  refine Z.icmp_geN B dX12_item_4 (tgt := 38) rfl (by omega) (by omega) (fun h4 => by exfalso; first | omega | contradiction | simp_all) (fun h4 => ?_)
  refine Z.aload_n B dX12_item_7 (v := .ref 45) rfl rfl ?_
  refine Z.iload_n B dX12_item_8 (x := nI 0) rfl ?_
  refine Z.callVI (σ := (mS σ a t w r)) B (M' := mX12_isWordAt) (as := [.int (nI 0)]) (st := []) (v := .int (nI 0)) dX12_item_9 wX12_isWordAt iX12_isWordAt sX12_isWordAt kX12_160 (hl.n (k := 45) (by decide)) (hl.k (k := 45) (by decide)) (by decide) rfl rfl (t_X12_isW_0_0 (σ := σ) (t := t) (w := w) (r := r) hl ht (by omega) (by have := ho 0 (by decide) (by decide); omega)) rfl rfl (by decide) (by decide) (Nat.le_of_ble_eq_true rfl) (by decide) (by decide) ?_
  refine Z.if_eqN B dX12_item_12 (tgt := 32) rfl (by omega) (fun h12 => ?_) (fun h12 => by exfalso; first | omega | contradiction | simp_all)
  refine Z.iinc B dX12_item_32 (by decide) (x := nI 0) rfl (v := nI 1) (nI_inc 0) (L' := [(0, .ref 45), (1, .int (nI 1))]) rfl ?_
  refine Z.goto B dX12_item_35 (tgt := 2) rfl ?_
  refine Z.iload_n B dX12_item_2 (x := nI 1) rfl ?_
  refine Z.iconst B dX12_item_3 (v := nI 4) rfl ?_
  refine Z.icmp_geN B dX12_item_4 (tgt := 38) rfl (by omega) (by omega) (fun h4 => by exfalso; first | omega | contradiction | simp_all) (fun h4 => ?_)
  refine Z.aload_n B dX12_item_7 (v := .ref 45) rfl rfl ?_
  refine Z.iload_n B dX12_item_8 (x := nI 1) rfl ?_
  refine Z.callVI (σ := (mS σ a t w r)) B (M' := mX12_isWordAt) (as := [.int (nI 1)]) (st := []) (v := .int (nI 0)) dX12_item_9 wX12_isWordAt iX12_isWordAt sX12_isWordAt kX12_160 (hl.n (k := 45) (by decide)) (hl.k (k := 45) (by decide)) (by decide) rfl rfl (t_X12_isW_1_0 (σ := σ) (t := t) (w := w) (r := r) hl ht (by omega) (by have := ho 1 (by decide) (by decide); omega)) rfl rfl (by decide) (by decide) (Nat.le_of_ble_eq_true rfl) (by decide) (by decide) ?_
  refine Z.if_eqN B dX12_item_12 (tgt := 32) rfl (by omega) (fun h12 => ?_) (fun h12 => by exfalso; first | omega | contradiction | simp_all)
  refine Z.iinc B dX12_item_32 (by decide) (x := nI 1) rfl (v := nI 2) (nI_inc 1) (L' := [(0, .ref 45), (1, .int (nI 2))]) rfl ?_
  refine Z.goto B dX12_item_35 (tgt := 2) rfl ?_
  refine Z.iload_n B dX12_item_2 (x := nI 2) rfl ?_
  refine Z.iconst B dX12_item_3 (v := nI 4) rfl ?_
  refine Z.icmp_geN B dX12_item_4 (tgt := 38) rfl (by omega) (by omega) (fun h4 => by exfalso; first | omega | contradiction | simp_all) (fun h4 => ?_)
  refine Z.aload_n B dX12_item_7 (v := .ref 45) rfl rfl ?_
  refine Z.iload_n B dX12_item_8 (x := nI 2) rfl ?_
  refine Z.callVI (σ := (mS σ a t w r)) B (M' := mX12_isWordAt) (as := [.int (nI 2)]) (st := []) (v := .int (nI 0)) dX12_item_9 wX12_isWordAt iX12_isWordAt sX12_isWordAt kX12_160 (hl.n (k := 45) (by decide)) (hl.k (k := 45) (by decide)) (by decide) rfl rfl (t_X12_isW_2_0 (σ := σ) (t := t) (w := w) (r := r) hl ht (by omega) (by have := ho 2 (by decide) (by decide); omega)) rfl rfl (by decide) (by decide) (Nat.le_of_ble_eq_true rfl) (by decide) (by decide) ?_
  refine Z.if_eqN B dX12_item_12 (tgt := 32) rfl (by omega) (fun h12 => ?_) (fun h12 => by exfalso; first | omega | contradiction | simp_all)
  refine Z.iinc B dX12_item_32 (by decide) (x := nI 2) rfl (v := nI 3) (nI_inc 2) (L' := [(0, .ref 45), (1, .int (nI 3))]) rfl ?_
  refine Z.goto B dX12_item_35 (tgt := 2) rfl ?_
  refine Z.iload_n B dX12_item_2 (x := nI 3) rfl ?_
  refine Z.iconst B dX12_item_3 (v := nI 4) rfl ?_
  refine Z.icmp_geN B dX12_item_4 (tgt := 38) rfl (by omega) (by omega) (fun h4 => by exfalso; first | omega | contradiction | simp_all) (fun h4 => ?_)
  refine Z.aload_n B dX12_item_7 (v := .ref 45) rfl rfl ?_
  refine Z.iload_n B dX12_item_8 (x := nI 3) rfl ?_
  refine Z.callVI (σ := (mS σ a t w r)) B (M' := mX12_isWordAt) (as := [.int (nI 3)]) (st := []) (v := .int (nI 1)) dX12_item_9 wX12_isWordAt iX12_isWordAt sX12_isWordAt kX12_160 (hl.n (k := 45) (by decide)) (hl.k (k := 45) (by decide)) (by decide) rfl rfl (t_X12_isW_3_1 (σ := σ) (t := t) (w := w) (r := r) hl ht (by omega) hv) rfl rfl (by decide) (by decide) (Nat.le_of_ble_eq_true rfl) (by decide) (by decide) ?_
  refine Z.if_eqN B dX12_item_12 (tgt := 32) rfl (by omega) (fun h12 => by exfalso; first | omega | contradiction | simp_all) (fun h12 => ?_)
  refine Z.aload_n B dX12_item_15 (v := .ref 45) rfl rfl ?_
  refine Z.iload_n B dX12_item_16 (x := nI 3) rfl ?_
  refine Z.callVI (σ := (mS σ a t w r)) B (M' := mX12_isFull) (as := [.int (nI 3)]) (st := []) (v := .int (nI 0)) dX12_item_17 wX12_isFull iX12_isFull sX12_isFull kX12_163 (hl.n (k := 45) (by decide)) (hl.k (k := 45) (by decide)) (by decide) rfl rfl (t_X12_isFull_3_0 (σ := mS σ a t w r) hl ((mS_f (by decide) (by decide) (by decide)).trans hn) hn8 ((mS_f (by decide) (by decide) (by decide)).trans hac) hac4 ((mS_f (by decide) (by decide) (by decide)).trans hy) hy8) rfl rfl (by decide) (by decide) (Nat.le_of_ble_eq_true rfl) (by decide) (by decide) ?_
  refine Z.if_eqN B dX12_item_20 (tgt := 32) rfl (by omega) (fun h20 => ?_) (fun h20 => by exfalso; first | omega | contradiction | simp_all)
  refine Z.iinc B dX12_item_32 (by decide) (x := nI 3) rfl (v := nI 4) (nI_inc 3) (L' := [(0, .ref 45), (1, .int (nI 4))]) rfl ?_
  refine Z.goto B dX12_item_35 (tgt := 2) rfl ?_
  refine Z.iload_n B dX12_item_2 (x := nI 4) rfl ?_
  refine Z.iconst B dX12_item_3 (v := nI 4) rfl ?_
  refine Z.icmp_geN B dX12_item_4 (tgt := 38) rfl (by omega) (by omega) (fun h4 => ?_) (fun h4 => by exfalso; first | omega | contradiction | simp_all)
  refine Z.aload_n B dX12_item_38 (v := .ref 45) rfl rfl ?_
  refine Z.getI (σ := (mS σ a t w r)) B fX12_141_12 dX12_item_39 (hl.n (k := 45) (by decide)) (hl.k (k := 45) (by decide)) (by decide) (v := nI a) mS_a ?_
  refine Z.istore_n B dX12_item_42 (by decide) (L' := [(0, .ref 45), (1, .int (nI a))]) rfl ?_
  refine Z.aload_n B dX12_item_43 (v := .ref 45) rfl rfl ?_
  refine Z.callVI (σ := (mS σ a t w r)) B (M' := mX12_word) (as := []) (st := []) (v := .int (nI 3)) dX12_item_44 wX12_word iX12_word sX12_word kX12_166 (hl.n (k := 45) (by decide)) (hl.k (k := 45) (by decide)) (by decide) rfl rfl (wdM_3 (σ := σ) (t := t) (w := w) (r := r) hl ht (by omega) hw hs) rfl rfl (by decide) (by decide) (Nat.le_of_ble_eq_true rfl) (by decide) (by decide) ?_
  refine Z.istore_n B dX12_item_47 (by decide) (L' := [(0, .ref 45), (1, .int (nI a)), (2, .int (nI 3))]) rfl ?_
  refine Z.iload_n B dX12_item_48 (x := nI 3) rfl ?_
  refine Z.iconst B dX12_item_49 (v := (-1)) rfl ?_
  refine Z.icmp_ne B dX12_item_50 (tgt := 55) rfl (fun h50 => ?_) (fun h50 => (by exfalso; revert h50; decide))
  refine Z.iload_n B dX12_item_55 (x := nI 3) rfl ?_
  refine Z.if_neN B dX12_item_56 (tgt := 68) rfl (by omega) (fun h56 => ?_) (fun h56 => by exfalso; first | omega | contradiction | simp_all)
  refine Z.iload_n B dX12_item_68 (x := nI 3) rfl ?_
  refine Z.iconst B dX12_item_69 (v := nI 1) rfl ?_
  refine Z.icmp_neN B dX12_item_70 (tgt := 81) rfl (by omega) (by omega) (fun h70 => ?_) (fun h70 => by exfalso; first | omega | contradiction | simp_all)
  refine Z.iload_n B dX12_item_81 (x := nI 3) rfl ?_
  refine Z.iconst B dX12_item_82 (v := nI 2) rfl ?_
  refine Z.icmp_neN B dX12_item_83 (tgt := 101) rfl (by omega) (by omega) (fun h83 => ?_) (fun h83 => by exfalso; first | omega | contradiction | simp_all)
  refine Z.iload_n B dX12_item_101 (x := nI 3) rfl ?_
  refine Z.if_neN B dX12_item_102 (tgt := 110) rfl (by omega) (fun h102 => ?_) (fun h102 => by exfalso; first | omega | contradiction | simp_all)
  refine Z.iload_n B dX12_item_110 (x := nI 3) rfl ?_
  refine Z.iconst B dX12_item_111 (v := nI 1) rfl ?_
  refine Z.icmp_neN B dX12_item_112 (tgt := 119) rfl (by omega) (by omega) (fun h112 => ?_) (fun h112 => by exfalso; first | omega | contradiction | simp_all)
  refine Z.iload_n B dX12_item_119 (x := nI 3) rfl ?_
  refine Z.iconst B dX12_item_120 (v := nI 2) rfl ?_
  refine Z.icmp_neN B dX12_item_121 (tgt := 128) rfl (by omega) (by omega) (fun h121 => ?_) (fun h121 => by exfalso; first | omega | contradiction | simp_all)
  refine Z.iconst B dX12_item_128 (v := nI 1) rfl ?_
  refine Z.istore_n B dX12_item_129 (by decide) (L' := [(0, .ref 45), (1, .int (nI a)), (2, .int (nI 3)), (3, .int (nI 1))]) rfl ?_
  refine Z.iconst B dX12_item_130 (v := nI 0) rfl ?_
  refine Z.istore B dX12_item_131 (by decide) (L' := [(0, .ref 45), (1, .int (nI a)), (2, .int (nI 3)), (3, .int (nI 1)), (4, .int (nI 0))]) rfl ?_
  have hloop133 : ∀ k : Nat, k ≤ k0 → Z κ 0 0 (mS σ (atK T (a + 5) k) (tK t T (a + 5) k) w (fi k (vs T (a + 5)) r)) 133 [(0, .ref 45), (1, .int (nI a)), (2, .int (nI 3)), (3, .int (nI 1)), (4, .int (nI k))] [] := by
    refine z_loop (fun k => 1 - k) (fun k ih hk0k => ?_)
    have hps := ps_le (T := T) (p := a + 5) k
    rcases (by omega : k < k0 ∨ k0 = k) with hlt | hke
    · skip
      have hk := hall k hlt
      refine Z.iload B dX12_item_133 (x := nI k) rfl ?_
      refine Z.iload_n B dX12_item_135 (x := nI 1) rfl ?_
      refine Z.icmp_geN B dX12_item_136 (tgt := 227) rfl (by omega) (by omega) (fun h136 => (by omega)) (fun h136 => ?_)
      refine Z.iload B dX12_item_139 (x := nI k) rfl ?_
      refine Z.if_leN B dX12_item_141 (tgt := 194) rfl (by omega) (fun h141 => ?_) (fun h141 => ?_)
      · skip
        refine Z.eqσ (τ := (mS σ (ps T (a + 5) k + 1) (tK t T (a + 5) k) w (fi k (vs T (a + 5)) r))) (by rw [atK_0 h141]) ?_
        refine Z.aload_n B dX12_item_194 (v := .ref 45) rfl rfl ?_
        refine Z.aload_n B dX12_item_195 (v := .ref 45) rfl rfl ?_
        refine Z.iload_n B dX12_item_196 (x := nI 3) rfl ?_
        refine Z.iload B dX12_item_197 (x := nI k) rfl ?_
        refine Z.callVI (σ := (mS σ (ps T (a + 5) k + 1) (tK t T (a + 5) k) w (fi k (vs T (a + 5)) r))) B (M' := mX12_high) (as := [.int (nI 3), .int (nI k)]) (st := [.ref 45]) (v := .int (mx ac 3 k)) dX12_item_199 wX12_high iX12_high sX12_high kX12_170 (hl.n (k := 45) (by decide)) (hl.k (k := 45) (by decide)) (by decide) rfl rfl (t_X12_high (w := 3) (i := k) hl ((mS_f (by decide) (by decide) (by decide)).trans hac) (by decide) (by show k < 1; omega)) rfl rfl (by decide) (by decide) (Nat.le_of_ble_eq_true rfl) (by decide) (by decide) ?_
        refine Z.callVI (σ := (mS σ (ps T (a + 5) k + 1) (tK t T (a + 5) k) w (fi k (vs T (a + 5)) r))) B (M' := mX12_number) (as := [.int (mx ac 3 k)]) (st := []) (v := .int (nI 1)) dX12_item_202 wX12_number iX12_number sX12_number kX12_173 (hl.n (k := 45) (by decide)) (hl.k (k := 45) (by decide)) (by decide) rfl rfl (t_X12_num_ok (σ := σ) (t := (tK t T (a + 5) k)) (w := w) (r := (fi k (vs T (a + 5)) r)) hl ht (a := ps T (a + 5) k + 1) (by omega) hk.2.1 hk.2.2) rfl rfl (by decide) (by decide) (Nat.le_of_ble_eq_true rfl) (by decide) (by decide) ?_
        refine Z.eqσ (τ := (mS σ (ps T (a + 5) (k + 1)) (vs T (a + 5) k) w (fi k (vs T (a + 5)) r))) (congrArg (fun q => mS σ q (vs T (a + 5) k) w (fi k (vs T (a + 5)) r)) (ps_ok hk).symm) ?_
        refine Z.if_neN B dX12_item_205 (tgt := 210) rfl (by omega) (fun h205 => ?_) (fun h205 => (by omega))
        refine Z.aload_n B dX12_item_210 (v := .ref 45) rfl rfl ?_
        refine Z.getR (σ := (mS σ (ps T (a + 5) (k + 1)) (vs T (a + 5) k) w (fi k (vs T (a + 5)) r))) B fX12_63_12 dX12_item_211 (hl.n (k := 45) (by decide)) (hl.k (k := 45) (by decide)) (by decide) (j := 61) (hl.r (k := 45) (f := 20) (by decide) (by decide)) ?_
        refine Z.iload B dX12_item_214 (x := nI k) rfl ?_
        refine Z.aload_n B dX12_item_216 (v := .ref 45) rfl rfl ?_
        refine Z.getI (σ := (mS σ (ps T (a + 5) (k + 1)) (vs T (a + 5) k) w (fi k (vs T (a + 5)) r))) B fX12_157_12 dX12_item_217 (hl.n (k := 45) (by decide)) (hl.k (k := 45) (by decide)) (by decide) (v := (vs T (a + 5) k)) mS_t ?_
        refine Z.iast (σ := (mS σ (ps T (a + 5) (k + 1)) (vs T (a + 5) k) w (fi k (vs T (a + 5)) r))) B dX12_item_220 (n := 6) (hl.n (k := 61) (by decide)) (hl.k (k := 61) (by decide)) (hl.l (k := 61) (by decide)) (by decide) (j := k) rfl (by omega) (τ := (zuX (mS σ (ps T (a + 5) (k + 1)) (vs T (a + 5) k) w (fi k (vs T (a + 5)) r)) 61 (upd (zX (mS σ (ps T (a + 5) (k + 1)) (vs T (a + 5) k) w (fi k (vs T (a + 5)) r)) 61) k (vs T (a + 5) k)))) rfl ?_
        refine Z.eqσ (τ := (mS σ (ps T (a + 5) (k + 1)) (vs T (a + 5) k) w (fi (k + 1) (vs T (a + 5)) r))) (by rw [mS_r, fi_s (f := vs T (a + 5)) rfl]; exact mS_ur) ?_
        refine Z.iincN B dX12_item_221 (by decide) (a := k) rfl (L' := [(0, .ref 45), (1, .int (nI a)), (2, .int (nI 3)), (3, .int (nI 1)), (4, .int (nI (k + 1)))]) rfl ?_
        refine Z.goto B dX12_item_224 (tgt := 133) rfl ?_
        exact ih (k + 1) (by omega) (by omega)
      · skip
        have h141 := h141
        refine Z.eqσ (τ := (mS σ (ps T (a + 5) k) (tK t T (a + 5) k) w (fi k (vs T (a + 5)) r))) (by rw [atK_s h141]) ?_
        refine Z.aload_n B dX12_item_144 (v := .ref 45) rfl rfl ?_
        refine Z.getI (σ := (mS σ (ps T (a + 5) k) (tK t T (a + 5) k) w (fi k (vs T (a + 5)) r))) B fX12_141_12 dX12_item_145 (hl.n (k := 45) (by decide)) (hl.k (k := 45) (by decide)) (by decide) (v := nI (ps T (a + 5) k)) mS_a ?_
        refine Z.aload_n B dX12_item_148 (v := .ref 45) rfl rfl ?_
        refine Z.getI (σ := (mS σ (ps T (a + 5) k) (tK t T (a + 5) k) w (fi k (vs T (a + 5)) r))) B fX12_144_12 dX12_item_149 (hl.n (k := 45) (by decide)) (hl.k (k := 45) (by decide)) (by decide) (v := nI m) ((mS_f (by decide) (by decide) (by decide)).trans hen) ?_
        refine Z.icmp_geN B dX12_item_152 (tgt := 175) rfl (by omega) (by omega) (fun h152 => (by have := in_m ht (c := 31) hk.1 (by decide); omega)) (fun h152 => ?_)
        refine Z.aload_n B dX12_item_155 (v := .ref 45) rfl rfl ?_
        refine Z.getR (σ := (mS σ (ps T (a + 5) k) (tK t T (a + 5) k) w (fi k (vs T (a + 5)) r))) B fX12_53_12 dX12_item_156 (hl.n (k := 45) (by decide)) (hl.k (k := 45) (by decide)) (by decide) (j := 58) (hl.r (k := 45) (f := 17) (by decide) (by decide)) ?_
        refine Z.aload_n B dX12_item_159 (v := .ref 45) rfl rfl ?_
        refine Z.getI (σ := (mS σ (ps T (a + 5) k) (tK t T (a + 5) k) w (fi k (vs T (a + 5)) r))) B fX12_147_12 dX12_item_160 (hl.n (k := 45) (by decide)) (hl.k (k := 45) (by decide)) (by decide) (v := nI (s * 160)) ((mS_f (by decide) (by decide) (by decide)).trans hbs) ?_
        refine Z.aload_n B dX12_item_163 (v := .ref 45) rfl rfl ?_
        refine Z.getI (σ := (mS σ (ps T (a + 5) k) (tK t T (a + 5) k) w (fi k (vs T (a + 5)) r))) B fX12_141_12 dX12_item_164 (hl.n (k := 45) (by decide)) (hl.k (k := 45) (by decide)) (by decide) (v := nI (ps T (a + 5) k)) mS_a ?_
        refine Z.iaddN B dX12_item_167 (a := s * 160) (b := ps T (a + 5) k) ?_
        refine Z.lald (σ := (mS σ (ps T (a + 5) k) (tK t T (a + 5) k) w (fi k (vs T (a + 5)) r))) B dX12_item_168 (n := 1280) (hl.n (k := 58) (by decide)) (hl.k (k := 58) (by decide)) (hl.l (k := 58) (by decide)) (by decide) (j := (s * 160) + (ps T (a + 5) k)) rfl (by have := in_m ht (c := 31) hk.1 (by decide); omega) (v := (zY (mS σ (ps T (a + 5) k) (tK t T (a + 5) k) w (fi k (vs T (a + 5)) r)) 58 ((s * 160) + (ps T (a + 5) k)))) rfl ?_
        refine Z.l2i B dX12_item_169 ?_
        refine Z.eqS (st' := [.int (T (ps T (a + 5) k))]) (congrArg (fun z => Value.int z :: _) (ht.t (i := ps T (a + 5) k) (in_m ht (c := 31) hk.1 (by decide)))) ?_
        refine Z.bipush B dX12_item_170 (v := nI 32) rfl ?_
        refine Z.icmp_eq B dX12_item_172 (tgt := 184) rfl (fun h172 => ?_) (fun h172 => (absurd hk.1 h172))
        refine Z.aload_n B dX12_item_184 (v := .ref 45) rfl rfl ?_
        refine Z.dup B dX12_item_185 rfl ?_
        refine Z.getI (σ := (mS σ (ps T (a + 5) k) (tK t T (a + 5) k) w (fi k (vs T (a + 5)) r))) B fX12_141_12 dX12_item_186 (hl.n (k := 45) (by decide)) (hl.k (k := 45) (by decide)) (by decide) (v := nI (ps T (a + 5) k)) mS_a ?_
        refine Z.iconst B dX12_item_189 (v := nI 1) rfl ?_
        refine Z.iaddN B dX12_item_190 (a := ps T (a + 5) k) (b := 1) ?_
        refine Z.putI (σ := (mS σ (ps T (a + 5) k) (tK t T (a + 5) k) w (fi k (vs T (a + 5)) r))) B fX12_141_12 (ty := .int) ⟨_, _, _, rfl, rfl, by decide +kernel⟩ dX12_item_191 (hl.n (k := 45) (by decide)) (hl.k (k := 45) (by decide)) (by decide) rfl rfl (τ := (zuX (mS σ (ps T (a + 5) k) (tK t T (a + 5) k) w (fi k (vs T (a + 5)) r)) 45 (upd (zX (mS σ (ps T (a + 5) k) (tK t T (a + 5) k) w (fi k (vs T (a + 5)) r)) 45) 22 (nI ((ps T (a + 5) k) + 1))))) rfl ?_
        refine Z.eqσ (τ := (mS σ (ps T (a + 5) k + 1) (tK t T (a + 5) k) w (fi k (vs T (a + 5)) r))) mS_ua ?_
        refine Z.aload_n B dX12_item_194 (v := .ref 45) rfl rfl ?_
        refine Z.aload_n B dX12_item_195 (v := .ref 45) rfl rfl ?_
        refine Z.iload_n B dX12_item_196 (x := nI 3) rfl ?_
        refine Z.iload B dX12_item_197 (x := nI k) rfl ?_
        refine Z.callVI (σ := (mS σ (ps T (a + 5) k + 1) (tK t T (a + 5) k) w (fi k (vs T (a + 5)) r))) B (M' := mX12_high) (as := [.int (nI 3), .int (nI k)]) (st := [.ref 45]) (v := .int (mx ac 3 k)) dX12_item_199 wX12_high iX12_high sX12_high kX12_170 (hl.n (k := 45) (by decide)) (hl.k (k := 45) (by decide)) (by decide) rfl rfl (t_X12_high (w := 3) (i := k) hl ((mS_f (by decide) (by decide) (by decide)).trans hac) (by decide) (by show k < 1; omega)) rfl rfl (by decide) (by decide) (Nat.le_of_ble_eq_true rfl) (by decide) (by decide) ?_
        refine Z.callVI (σ := (mS σ (ps T (a + 5) k + 1) (tK t T (a + 5) k) w (fi k (vs T (a + 5)) r))) B (M' := mX12_number) (as := [.int (mx ac 3 k)]) (st := []) (v := .int (nI 1)) dX12_item_202 wX12_number iX12_number sX12_number kX12_173 (hl.n (k := 45) (by decide)) (hl.k (k := 45) (by decide)) (by decide) rfl rfl (t_X12_num_ok (σ := σ) (t := (tK t T (a + 5) k)) (w := w) (r := (fi k (vs T (a + 5)) r)) hl ht (a := ps T (a + 5) k + 1) (by omega) hk.2.1 hk.2.2) rfl rfl (by decide) (by decide) (Nat.le_of_ble_eq_true rfl) (by decide) (by decide) ?_
        refine Z.eqσ (τ := (mS σ (ps T (a + 5) (k + 1)) (vs T (a + 5) k) w (fi k (vs T (a + 5)) r))) (congrArg (fun q => mS σ q (vs T (a + 5) k) w (fi k (vs T (a + 5)) r)) (ps_ok hk).symm) ?_
        refine Z.if_neN B dX12_item_205 (tgt := 210) rfl (by omega) (fun h205 => ?_) (fun h205 => (by omega))
        refine Z.aload_n B dX12_item_210 (v := .ref 45) rfl rfl ?_
        refine Z.getR (σ := (mS σ (ps T (a + 5) (k + 1)) (vs T (a + 5) k) w (fi k (vs T (a + 5)) r))) B fX12_63_12 dX12_item_211 (hl.n (k := 45) (by decide)) (hl.k (k := 45) (by decide)) (by decide) (j := 61) (hl.r (k := 45) (f := 20) (by decide) (by decide)) ?_
        refine Z.iload B dX12_item_214 (x := nI k) rfl ?_
        refine Z.aload_n B dX12_item_216 (v := .ref 45) rfl rfl ?_
        refine Z.getI (σ := (mS σ (ps T (a + 5) (k + 1)) (vs T (a + 5) k) w (fi k (vs T (a + 5)) r))) B fX12_157_12 dX12_item_217 (hl.n (k := 45) (by decide)) (hl.k (k := 45) (by decide)) (by decide) (v := (vs T (a + 5) k)) mS_t ?_
        refine Z.iast (σ := (mS σ (ps T (a + 5) (k + 1)) (vs T (a + 5) k) w (fi k (vs T (a + 5)) r))) B dX12_item_220 (n := 6) (hl.n (k := 61) (by decide)) (hl.k (k := 61) (by decide)) (hl.l (k := 61) (by decide)) (by decide) (j := k) rfl (by omega) (τ := (zuX (mS σ (ps T (a + 5) (k + 1)) (vs T (a + 5) k) w (fi k (vs T (a + 5)) r)) 61 (upd (zX (mS σ (ps T (a + 5) (k + 1)) (vs T (a + 5) k) w (fi k (vs T (a + 5)) r)) 61) k (vs T (a + 5) k)))) rfl ?_
        refine Z.eqσ (τ := (mS σ (ps T (a + 5) (k + 1)) (vs T (a + 5) k) w (fi (k + 1) (vs T (a + 5)) r))) (by rw [mS_r, fi_s (f := vs T (a + 5)) rfl]; exact mS_ur) ?_
        refine Z.iincN B dX12_item_221 (by decide) (a := k) rfl (L' := [(0, .ref 45), (1, .int (nI a)), (2, .int (nI 3)), (3, .int (nI 1)), (4, .int (nI (k + 1)))]) rfl ?_
        refine Z.goto B dX12_item_224 (tgt := 133) rfl ?_
        exact ih (k + 1) (by omega) (by omega)
    · skip
      have hb2 : ¬ nok T (ps T (a + 5) k) (mx ac 3 k) := by rw [← hke]; exact hb
      refine Z.iload B dX12_item_133 (x := nI k) rfl ?_
      refine Z.iload_n B dX12_item_135 (x := nI 1) rfl ?_
      refine Z.icmp_geN B dX12_item_136 (tgt := 227) rfl (by omega) (by omega) (fun h136 => (by omega)) (fun h136 => ?_)
      refine Z.iload B dX12_item_139 (x := nI k) rfl ?_
      refine Z.if_leN B dX12_item_141 (tgt := 194) rfl (by omega) (fun h141 => ?_) (fun h141 => ?_)
      · skip
        have h172 : T (ps T (a + 5) k) = nI 32 := (by subst h141; exact hs)
        refine Z.eqσ (τ := (mS σ (ps T (a + 5) k + 1) (tK t T (a + 5) k) w (fi k (vs T (a + 5)) r))) (by rw [atK_0 h141]) ?_
        refine Z.aload_n B dX12_item_194 (v := .ref 45) rfl rfl ?_
        refine Z.aload_n B dX12_item_195 (v := .ref 45) rfl rfl ?_
        refine Z.iload_n B dX12_item_196 (x := nI 3) rfl ?_
        refine Z.iload B dX12_item_197 (x := nI k) rfl ?_
        refine Z.callVI (σ := (mS σ (ps T (a + 5) k + 1) (tK t T (a + 5) k) w (fi k (vs T (a + 5)) r))) B (M' := mX12_high) (as := [.int (nI 3), .int (nI k)]) (st := [.ref 45]) (v := .int (mx ac 3 k)) dX12_item_199 wX12_high iX12_high sX12_high kX12_170 (hl.n (k := 45) (by decide)) (hl.k (k := 45) (by decide)) (by decide) rfl rfl (t_X12_high (w := 3) (i := k) hl ((mS_f (by decide) (by decide) (by decide)).trans hac) (by decide) (by show k < 1; omega)) rfl rfl (by decide) (by decide) (Nat.le_of_ble_eq_true rfl) (by decide) (by decide) ?_
        rcases Bool.eq_false_or_eq_true (dg (T (ps T (a + 5) k + 1))) with hd1 | hd0
        · skip
          have hbig : ¬ nv T (ps T (a + 5) k + 1) ≤ (mx ac 3 k) := fun h => hb2 ⟨h172, hd1, h⟩
          refine Z.callVI (σ := (mS σ (ps T (a + 5) k + 1) (tK t T (a + 5) k) w (fi k (vs T (a + 5)) r))) B (M' := mX12_number) (as := [.int (mx ac 3 k)]) (st := []) (v := .int (nI 0)) dX12_item_202 wX12_number iX12_number sX12_number kX12_173 (hl.n (k := 45) (by decide)) (hl.k (k := 45) (by decide)) (by decide) rfl rfl (t_X12_num_big (σ := σ) (t := (tK t T (a + 5) k)) (w := w) (r := (fi k (vs T (a + 5)) r)) hl ht (a := ps T (a + 5) k + 1) (by omega) hd1 hbig) rfl rfl (by decide) (by decide) (Nat.le_of_ble_eq_true rfl) (by decide) (by decide) ?_
          refine Z.if_neN B dX12_item_205 (tgt := 210) rfl (by omega) (fun h205 => (by omega)) (fun h205 => ?_)
          refine Z.iconst B dX12_item_208 (v := nI 0) rfl ?_
          refine Z.iret B Rt dX12_item_209 (ty := .boolean) rfl rfl (by decide) (by decide) ?_
          have hx : nbd T (ps T (a + 5) k0) = _ := (by first | exact if_pos (by rw [hke]; exact h172) | exact if_neg (by rw [hke]; exact h172))
          rw [hx, hke]
          exact ⟨rfl, _, _, _, rfl⟩
        · skip
          refine Z.callVI (σ := (mS σ (ps T (a + 5) k + 1) (tK t T (a + 5) k) w (fi k (vs T (a + 5)) r))) B (M' := mX12_number) (as := [.int (mx ac 3 k)]) (st := []) (v := .int (nI 0)) dX12_item_202 wX12_number iX12_number sX12_number kX12_173 (hl.n (k := 45) (by decide)) (hl.k (k := 45) (by decide)) (by decide) rfl rfl (t_X12_num_nd (σ := σ) (t := (tK t T (a + 5) k)) (w := w) (r := (fi k (vs T (a + 5)) r)) hl ht (a := ps T (a + 5) k + 1) (by omega) hd0) rfl rfl (by decide) (by decide) (Nat.le_of_ble_eq_true rfl) (by decide) (by decide) ?_
          refine Z.if_neN B dX12_item_205 (tgt := 210) rfl (by omega) (fun h205 => (by omega)) (fun h205 => ?_)
          refine Z.iconst B dX12_item_208 (v := nI 0) rfl ?_
          refine Z.iret B Rt dX12_item_209 (ty := .boolean) rfl rfl (by decide) (by decide) ?_
          have hx : nbd T (ps T (a + 5) k0) = _ := (by first | exact if_pos (by rw [hke]; exact h172) | exact if_neg (by rw [hke]; exact h172))
          rw [hx, hke]
          exact ⟨rfl, _, _, _, rfl⟩
      · skip
        have h141 := h141
        refine Z.eqσ (τ := (mS σ (ps T (a + 5) k) (tK t T (a + 5) k) w (fi k (vs T (a + 5)) r))) (by rw [atK_s h141]) ?_
        refine Z.aload_n B dX12_item_144 (v := .ref 45) rfl rfl ?_
        refine Z.getI (σ := (mS σ (ps T (a + 5) k) (tK t T (a + 5) k) w (fi k (vs T (a + 5)) r))) B fX12_141_12 dX12_item_145 (hl.n (k := 45) (by decide)) (hl.k (k := 45) (by decide)) (by decide) (v := nI (ps T (a + 5) k)) mS_a ?_
        refine Z.aload_n B dX12_item_148 (v := .ref 45) rfl rfl ?_
        refine Z.getI (σ := (mS σ (ps T (a + 5) k) (tK t T (a + 5) k) w (fi k (vs T (a + 5)) r))) B fX12_144_12 dX12_item_149 (hl.n (k := 45) (by decide)) (hl.k (k := 45) (by decide)) (by decide) (v := nI m) ((mS_f (by decide) (by decide) (by decide)).trans hen) ?_
        refine Z.icmp_geN B dX12_item_152 (tgt := 175) rfl (by omega) (by omega) (fun h152 => ?_) (fun h152 => ?_)
        · skip
          have h172 : ¬ T (ps T (a + 5) k) = nI 32 := (fun e => by have := in_m ht (c := 31) e (by decide); omega)
          refine Z.aload_n B dX12_item_175 (v := .ref 45) rfl rfl ?_
          refine Z.aload_n B dX12_item_176 (v := .ref 45) rfl rfl ?_
          refine Z.getI (σ := (mS σ (ps T (a + 5) k) (tK t T (a + 5) k) w (fi k (vs T (a + 5)) r))) B fX12_141_12 dX12_item_177 (hl.n (k := 45) (by decide)) (hl.k (k := 45) (by decide)) (by decide) (v := nI (ps T (a + 5) k)) mS_a ?_
          refine Z.callVI (σ := (mS σ (ps T (a + 5) k) (tK t T (a + 5) k) w (fi k (vs T (a + 5)) r))) B (M' := mX12_wrong) (as := [.int (nI (ps T (a + 5) k))]) (st := []) (v := .int (nI 0)) dX12_item_180 wX12_wrong iX12_wrong sX12_wrong kX12_154 (hl.n (k := 45) (by decide)) (hl.k (k := 45) (by decide)) (by decide) rfl rfl (t_X12_wrong (σ := σ) (t := (tK t T (a + 5) k)) (w := w) (r := (fi k (vs T (a + 5)) r)) hl ht (a := (ps T (a + 5) k)) (by omega) (p := nI (ps T (a + 5) k))) rfl rfl (by decide) (by decide) (Nat.le_of_ble_eq_true rfl) (by decide) (by decide) ?_
          refine Z.iret B Rt dX12_item_183 (ty := .boolean) rfl rfl (by decide) (by decide) ?_
          have hx : nbd T (ps T (a + 5) k0) = _ := (by first | exact if_pos (by rw [hke]; exact h172) | exact if_neg (by rw [hke]; exact h172))
          rw [hx, hke]
          exact ⟨rfl, _, _, _, rfl⟩
        · skip
          refine Z.aload_n B dX12_item_155 (v := .ref 45) rfl rfl ?_
          refine Z.getR (σ := (mS σ (ps T (a + 5) k) (tK t T (a + 5) k) w (fi k (vs T (a + 5)) r))) B fX12_53_12 dX12_item_156 (hl.n (k := 45) (by decide)) (hl.k (k := 45) (by decide)) (by decide) (j := 58) (hl.r (k := 45) (f := 17) (by decide) (by decide)) ?_
          refine Z.aload_n B dX12_item_159 (v := .ref 45) rfl rfl ?_
          refine Z.getI (σ := (mS σ (ps T (a + 5) k) (tK t T (a + 5) k) w (fi k (vs T (a + 5)) r))) B fX12_147_12 dX12_item_160 (hl.n (k := 45) (by decide)) (hl.k (k := 45) (by decide)) (by decide) (v := nI (s * 160)) ((mS_f (by decide) (by decide) (by decide)).trans hbs) ?_
          refine Z.aload_n B dX12_item_163 (v := .ref 45) rfl rfl ?_
          refine Z.getI (σ := (mS σ (ps T (a + 5) k) (tK t T (a + 5) k) w (fi k (vs T (a + 5)) r))) B fX12_141_12 dX12_item_164 (hl.n (k := 45) (by decide)) (hl.k (k := 45) (by decide)) (by decide) (v := nI (ps T (a + 5) k)) mS_a ?_
          refine Z.iaddN B dX12_item_167 (a := s * 160) (b := ps T (a + 5) k) ?_
          refine Z.lald (σ := (mS σ (ps T (a + 5) k) (tK t T (a + 5) k) w (fi k (vs T (a + 5)) r))) B dX12_item_168 (n := 1280) (hl.n (k := 58) (by decide)) (hl.k (k := 58) (by decide)) (hl.l (k := 58) (by decide)) (by decide) (j := (s * 160) + (ps T (a + 5) k)) rfl (by omega) (v := (zY (mS σ (ps T (a + 5) k) (tK t T (a + 5) k) w (fi k (vs T (a + 5)) r)) 58 ((s * 160) + (ps T (a + 5) k)))) rfl ?_
          refine Z.l2i B dX12_item_169 ?_
          refine Z.eqS (st' := [.int (T (ps T (a + 5) k))]) (congrArg (fun z => Value.int z :: _) (ht.t (i := ps T (a + 5) k) (by omega))) ?_
          refine Z.bipush B dX12_item_170 (v := nI 32) rfl ?_
          refine Z.icmp_eq B dX12_item_172 (tgt := 184) rfl (fun h172 => ?_) (fun h172 => ?_)
          · skip
            refine Z.aload_n B dX12_item_184 (v := .ref 45) rfl rfl ?_
            refine Z.dup B dX12_item_185 rfl ?_
            refine Z.getI (σ := (mS σ (ps T (a + 5) k) (tK t T (a + 5) k) w (fi k (vs T (a + 5)) r))) B fX12_141_12 dX12_item_186 (hl.n (k := 45) (by decide)) (hl.k (k := 45) (by decide)) (by decide) (v := nI (ps T (a + 5) k)) mS_a ?_
            refine Z.iconst B dX12_item_189 (v := nI 1) rfl ?_
            refine Z.iaddN B dX12_item_190 (a := ps T (a + 5) k) (b := 1) ?_
            refine Z.putI (σ := (mS σ (ps T (a + 5) k) (tK t T (a + 5) k) w (fi k (vs T (a + 5)) r))) B fX12_141_12 (ty := .int) ⟨_, _, _, rfl, rfl, by decide +kernel⟩ dX12_item_191 (hl.n (k := 45) (by decide)) (hl.k (k := 45) (by decide)) (by decide) rfl rfl (τ := (zuX (mS σ (ps T (a + 5) k) (tK t T (a + 5) k) w (fi k (vs T (a + 5)) r)) 45 (upd (zX (mS σ (ps T (a + 5) k) (tK t T (a + 5) k) w (fi k (vs T (a + 5)) r)) 45) 22 (nI ((ps T (a + 5) k) + 1))))) rfl ?_
            refine Z.eqσ (τ := (mS σ (ps T (a + 5) k + 1) (tK t T (a + 5) k) w (fi k (vs T (a + 5)) r))) mS_ua ?_
            refine Z.aload_n B dX12_item_194 (v := .ref 45) rfl rfl ?_
            refine Z.aload_n B dX12_item_195 (v := .ref 45) rfl rfl ?_
            refine Z.iload_n B dX12_item_196 (x := nI 3) rfl ?_
            refine Z.iload B dX12_item_197 (x := nI k) rfl ?_
            refine Z.callVI (σ := (mS σ (ps T (a + 5) k + 1) (tK t T (a + 5) k) w (fi k (vs T (a + 5)) r))) B (M' := mX12_high) (as := [.int (nI 3), .int (nI k)]) (st := [.ref 45]) (v := .int (mx ac 3 k)) dX12_item_199 wX12_high iX12_high sX12_high kX12_170 (hl.n (k := 45) (by decide)) (hl.k (k := 45) (by decide)) (by decide) rfl rfl (t_X12_high (w := 3) (i := k) hl ((mS_f (by decide) (by decide) (by decide)).trans hac) (by decide) (by show k < 1; omega)) rfl rfl (by decide) (by decide) (Nat.le_of_ble_eq_true rfl) (by decide) (by decide) ?_
            rcases Bool.eq_false_or_eq_true (dg (T (ps T (a + 5) k + 1))) with hd1 | hd0
            · skip
              have hbig : ¬ nv T (ps T (a + 5) k + 1) ≤ (mx ac 3 k) := fun h => hb2 ⟨h172, hd1, h⟩
              refine Z.callVI (σ := (mS σ (ps T (a + 5) k + 1) (tK t T (a + 5) k) w (fi k (vs T (a + 5)) r))) B (M' := mX12_number) (as := [.int (mx ac 3 k)]) (st := []) (v := .int (nI 0)) dX12_item_202 wX12_number iX12_number sX12_number kX12_173 (hl.n (k := 45) (by decide)) (hl.k (k := 45) (by decide)) (by decide) rfl rfl (t_X12_num_big (σ := σ) (t := (tK t T (a + 5) k)) (w := w) (r := (fi k (vs T (a + 5)) r)) hl ht (a := ps T (a + 5) k + 1) (by omega) hd1 hbig) rfl rfl (by decide) (by decide) (Nat.le_of_ble_eq_true rfl) (by decide) (by decide) ?_
              refine Z.if_neN B dX12_item_205 (tgt := 210) rfl (by omega) (fun h205 => (by omega)) (fun h205 => ?_)
              refine Z.iconst B dX12_item_208 (v := nI 0) rfl ?_
              refine Z.iret B Rt dX12_item_209 (ty := .boolean) rfl rfl (by decide) (by decide) ?_
              have hx : nbd T (ps T (a + 5) k0) = _ := (by first | exact if_pos (by rw [hke]; exact h172) | exact if_neg (by rw [hke]; exact h172))
              rw [hx, hke]
              exact ⟨rfl, _, _, _, rfl⟩
            · skip
              refine Z.callVI (σ := (mS σ (ps T (a + 5) k + 1) (tK t T (a + 5) k) w (fi k (vs T (a + 5)) r))) B (M' := mX12_number) (as := [.int (mx ac 3 k)]) (st := []) (v := .int (nI 0)) dX12_item_202 wX12_number iX12_number sX12_number kX12_173 (hl.n (k := 45) (by decide)) (hl.k (k := 45) (by decide)) (by decide) rfl rfl (t_X12_num_nd (σ := σ) (t := (tK t T (a + 5) k)) (w := w) (r := (fi k (vs T (a + 5)) r)) hl ht (a := ps T (a + 5) k + 1) (by omega) hd0) rfl rfl (by decide) (by decide) (Nat.le_of_ble_eq_true rfl) (by decide) (by decide) ?_
              refine Z.if_neN B dX12_item_205 (tgt := 210) rfl (by omega) (fun h205 => (by omega)) (fun h205 => ?_)
              refine Z.iconst B dX12_item_208 (v := nI 0) rfl ?_
              refine Z.iret B Rt dX12_item_209 (ty := .boolean) rfl rfl (by decide) (by decide) ?_
              have hx : nbd T (ps T (a + 5) k0) = _ := (by first | exact if_pos (by rw [hke]; exact h172) | exact if_neg (by rw [hke]; exact h172))
              rw [hx, hke]
              exact ⟨rfl, _, _, _, rfl⟩
          · skip
            refine Z.aload_n B dX12_item_175 (v := .ref 45) rfl rfl ?_
            refine Z.aload_n B dX12_item_176 (v := .ref 45) rfl rfl ?_
            refine Z.getI (σ := (mS σ (ps T (a + 5) k) (tK t T (a + 5) k) w (fi k (vs T (a + 5)) r))) B fX12_141_12 dX12_item_177 (hl.n (k := 45) (by decide)) (hl.k (k := 45) (by decide)) (by decide) (v := nI (ps T (a + 5) k)) mS_a ?_
            refine Z.callVI (σ := (mS σ (ps T (a + 5) k) (tK t T (a + 5) k) w (fi k (vs T (a + 5)) r))) B (M' := mX12_wrong) (as := [.int (nI (ps T (a + 5) k))]) (st := []) (v := .int (nI 0)) dX12_item_180 wX12_wrong iX12_wrong sX12_wrong kX12_154 (hl.n (k := 45) (by decide)) (hl.k (k := 45) (by decide)) (by decide) rfl rfl (t_X12_wrong (σ := σ) (t := (tK t T (a + 5) k)) (w := w) (r := (fi k (vs T (a + 5)) r)) hl ht (a := (ps T (a + 5) k)) (by omega) (p := nI (ps T (a + 5) k))) rfl rfl (by decide) (by decide) (Nat.le_of_ble_eq_true rfl) (by decide) (by decide) ?_
            refine Z.iret B Rt dX12_item_183 (ty := .boolean) rfl rfl (by decide) (by decide) ?_
            have hx : nbd T (ps T (a + 5) k0) = _ := (by first | exact if_pos (by rw [hke]; exact h172) | exact if_neg (by rw [hke]; exact h172))
            rw [hx, hke]
            exact ⟨rfl, _, _, _, rfl⟩
  have h0 := hloop133 0 (Nat.zero_le _)
  rw [fi_0] at h0
  exact h0

theorem it_M_d3 {σ : zSt} {t w : Int32} {r : Nat → Int32} (hl : Lay σ) {s m : Nat} {T : Nat → Int32} (ht : zTm σ s m T) {a : Nat} (ha : a < 2 ^ 29) {n ac y : Nat} (H : zMd σ n ac y) (hw : wd T a = 3) (hs : T (a + 5) = nI 32) (hall : ∀ k, k < 1 → nok T (ps T (a + 5) k) (mx ac 3 k)) {od : Nat → Nat} (ho2 : zMo σ ac od) {b p : Nat} (hp : p < ac) (hpb : od p = b) (hmin : ∀ j, j < p → od j ≠ b) (v0 : vs T (a + 5) 0 = nI b)  : Dt mX12_item [.ref 45] (mS σ a t w r) (some (.int (nI 1))) (zuX (mS σ (ps T (a + 5) 1) (vs T (a + 5) 0) w (fi 1 (vs T (a + 5)) r)) 51 (pf p b (zX (mS σ (ps T (a + 5) 1) (vs T (a + 5) 0) w (fi 1 (vs T (a + 5)) r)) 51))) := by
  obtain ⟨⟨hs8, hm160⟩, ⟨hbs, hen⟩, hT, hwd⟩ := id ht
  obtain ⟨-, hn, hn8, hac, hac4, hy, hy8⟩ := id H
  obtain ⟨hv, ho⟩ := wd_al (by decide) hw
  have hwl : wl 3 = 5 := rfl
  rw [hwl] at hv
  refine Dt.of (by decide) (Nat.le_of_ble_eq_true rfl) fun κ B Rt => ?_
  show Z κ 0 0 (mS σ a t w r) 0 [(0, .ref 45)] []
  refine Z.iconst B dX12_item_0 (v := nI 0) rfl ?_
  refine Z.istore_n B dX12_item_1 (by decide) (L' := [(0, .ref 45), (1, .int (nI 0))]) rfl ?_
  refine Z.iload_n B dX12_item_2 (x := nI 0) rfl ?_
  refine Z.iconst B dX12_item_3 (v := nI 4) rfl ?_
  refine Z.icmp_geN B dX12_item_4 (tgt := 38) rfl (by omega) (by omega) (fun h4 => by exfalso; first | omega | contradiction | simp_all) (fun h4 => ?_)
  refine Z.aload_n B dX12_item_7 (v := .ref 45) rfl rfl ?_
  refine Z.iload_n B dX12_item_8 (x := nI 0) rfl ?_
  refine Z.callVI (σ := (mS σ a t w r)) B (M' := mX12_isWordAt) (as := [.int (nI 0)]) (st := []) (v := .int (nI 0)) dX12_item_9 wX12_isWordAt iX12_isWordAt sX12_isWordAt kX12_160 (hl.n (k := 45) (by decide)) (hl.k (k := 45) (by decide)) (by decide) rfl rfl (t_X12_isW_0_0 (σ := σ) (t := t) (w := w) (r := r) hl ht (by omega) (by have := ho 0 (by decide) (by decide); omega)) rfl rfl (by decide) (by decide) (Nat.le_of_ble_eq_true rfl) (by decide) (by decide) ?_
  refine Z.if_eqN B dX12_item_12 (tgt := 32) rfl (by omega) (fun h12 => ?_) (fun h12 => by exfalso; first | omega | contradiction | simp_all)
  refine Z.iinc B dX12_item_32 (by decide) (x := nI 0) rfl (v := nI 1) (nI_inc 0) (L' := [(0, .ref 45), (1, .int (nI 1))]) rfl ?_
  refine Z.goto B dX12_item_35 (tgt := 2) rfl ?_
  refine Z.iload_n B dX12_item_2 (x := nI 1) rfl ?_
  refine Z.iconst B dX12_item_3 (v := nI 4) rfl ?_
  refine Z.icmp_geN B dX12_item_4 (tgt := 38) rfl (by omega) (by omega) (fun h4 => by exfalso; first | omega | contradiction | simp_all) (fun h4 => ?_)
  refine Z.aload_n B dX12_item_7 (v := .ref 45) rfl rfl ?_
  refine Z.iload_n B dX12_item_8 (x := nI 1) rfl ?_
  refine Z.callVI (σ := (mS σ a t w r)) B (M' := mX12_isWordAt) (as := [.int (nI 1)]) (st := []) (v := .int (nI 0)) dX12_item_9 wX12_isWordAt iX12_isWordAt sX12_isWordAt kX12_160 (hl.n (k := 45) (by decide)) (hl.k (k := 45) (by decide)) (by decide) rfl rfl (t_X12_isW_1_0 (σ := σ) (t := t) (w := w) (r := r) hl ht (by omega) (by have := ho 1 (by decide) (by decide); omega)) rfl rfl (by decide) (by decide) (Nat.le_of_ble_eq_true rfl) (by decide) (by decide) ?_
  refine Z.if_eqN B dX12_item_12 (tgt := 32) rfl (by omega) (fun h12 => ?_) (fun h12 => by exfalso; first | omega | contradiction | simp_all)
  refine Z.iinc B dX12_item_32 (by decide) (x := nI 1) rfl (v := nI 2) (nI_inc 1) (L' := [(0, .ref 45), (1, .int (nI 2))]) rfl ?_
  refine Z.goto B dX12_item_35 (tgt := 2) rfl ?_
  refine Z.iload_n B dX12_item_2 (x := nI 2) rfl ?_
  refine Z.iconst B dX12_item_3 (v := nI 4) rfl ?_
  refine Z.icmp_geN B dX12_item_4 (tgt := 38) rfl (by omega) (by omega) (fun h4 => by exfalso; first | omega | contradiction | simp_all) (fun h4 => ?_)
  refine Z.aload_n B dX12_item_7 (v := .ref 45) rfl rfl ?_
  refine Z.iload_n B dX12_item_8 (x := nI 2) rfl ?_
  refine Z.callVI (σ := (mS σ a t w r)) B (M' := mX12_isWordAt) (as := [.int (nI 2)]) (st := []) (v := .int (nI 0)) dX12_item_9 wX12_isWordAt iX12_isWordAt sX12_isWordAt kX12_160 (hl.n (k := 45) (by decide)) (hl.k (k := 45) (by decide)) (by decide) rfl rfl (t_X12_isW_2_0 (σ := σ) (t := t) (w := w) (r := r) hl ht (by omega) (by have := ho 2 (by decide) (by decide); omega)) rfl rfl (by decide) (by decide) (Nat.le_of_ble_eq_true rfl) (by decide) (by decide) ?_
  refine Z.if_eqN B dX12_item_12 (tgt := 32) rfl (by omega) (fun h12 => ?_) (fun h12 => by exfalso; first | omega | contradiction | simp_all)
  refine Z.iinc B dX12_item_32 (by decide) (x := nI 2) rfl (v := nI 3) (nI_inc 2) (L' := [(0, .ref 45), (1, .int (nI 3))]) rfl ?_
  refine Z.goto B dX12_item_35 (tgt := 2) rfl ?_
  refine Z.iload_n B dX12_item_2 (x := nI 3) rfl ?_
  refine Z.iconst B dX12_item_3 (v := nI 4) rfl ?_
  refine Z.icmp_geN B dX12_item_4 (tgt := 38) rfl (by omega) (by omega) (fun h4 => by exfalso; first | omega | contradiction | simp_all) (fun h4 => ?_)
  refine Z.aload_n B dX12_item_7 (v := .ref 45) rfl rfl ?_
  refine Z.iload_n B dX12_item_8 (x := nI 3) rfl ?_
  refine Z.callVI (σ := (mS σ a t w r)) B (M' := mX12_isWordAt) (as := [.int (nI 3)]) (st := []) (v := .int (nI 1)) dX12_item_9 wX12_isWordAt iX12_isWordAt sX12_isWordAt kX12_160 (hl.n (k := 45) (by decide)) (hl.k (k := 45) (by decide)) (by decide) rfl rfl (t_X12_isW_3_1 (σ := σ) (t := t) (w := w) (r := r) hl ht (by omega) hv) rfl rfl (by decide) (by decide) (Nat.le_of_ble_eq_true rfl) (by decide) (by decide) ?_
  refine Z.if_eqN B dX12_item_12 (tgt := 32) rfl (by omega) (fun h12 => by exfalso; first | omega | contradiction | simp_all) (fun h12 => ?_)
  refine Z.aload_n B dX12_item_15 (v := .ref 45) rfl rfl ?_
  refine Z.iload_n B dX12_item_16 (x := nI 3) rfl ?_
  refine Z.callVI (σ := (mS σ a t w r)) B (M' := mX12_isFull) (as := [.int (nI 3)]) (st := []) (v := .int (nI 0)) dX12_item_17 wX12_isFull iX12_isFull sX12_isFull kX12_163 (hl.n (k := 45) (by decide)) (hl.k (k := 45) (by decide)) (by decide) rfl rfl (t_X12_isFull_3_0 (σ := mS σ a t w r) hl ((mS_f (by decide) (by decide) (by decide)).trans hn) hn8 ((mS_f (by decide) (by decide) (by decide)).trans hac) hac4 ((mS_f (by decide) (by decide) (by decide)).trans hy) hy8) rfl rfl (by decide) (by decide) (Nat.le_of_ble_eq_true rfl) (by decide) (by decide) ?_
  refine Z.if_eqN B dX12_item_20 (tgt := 32) rfl (by omega) (fun h20 => ?_) (fun h20 => by exfalso; first | omega | contradiction | simp_all)
  refine Z.iinc B dX12_item_32 (by decide) (x := nI 3) rfl (v := nI 4) (nI_inc 3) (L' := [(0, .ref 45), (1, .int (nI 4))]) rfl ?_
  refine Z.goto B dX12_item_35 (tgt := 2) rfl ?_
  refine Z.iload_n B dX12_item_2 (x := nI 4) rfl ?_
  refine Z.iconst B dX12_item_3 (v := nI 4) rfl ?_
  refine Z.icmp_geN B dX12_item_4 (tgt := 38) rfl (by omega) (by omega) (fun h4 => ?_) (fun h4 => by exfalso; first | omega | contradiction | simp_all)
  refine Z.aload_n B dX12_item_38 (v := .ref 45) rfl rfl ?_
  refine Z.getI (σ := (mS σ a t w r)) B fX12_141_12 dX12_item_39 (hl.n (k := 45) (by decide)) (hl.k (k := 45) (by decide)) (by decide) (v := nI a) mS_a ?_
  refine Z.istore_n B dX12_item_42 (by decide) (L' := [(0, .ref 45), (1, .int (nI a))]) rfl ?_
  refine Z.aload_n B dX12_item_43 (v := .ref 45) rfl rfl ?_
  refine Z.callVI (σ := (mS σ a t w r)) B (M' := mX12_word) (as := []) (st := []) (v := .int (nI 3)) dX12_item_44 wX12_word iX12_word sX12_word kX12_166 (hl.n (k := 45) (by decide)) (hl.k (k := 45) (by decide)) (by decide) rfl rfl (wdM_3 (σ := σ) (t := t) (w := w) (r := r) hl ht (by omega) hw hs) rfl rfl (by decide) (by decide) (Nat.le_of_ble_eq_true rfl) (by decide) (by decide) ?_
  refine Z.istore_n B dX12_item_47 (by decide) (L' := [(0, .ref 45), (1, .int (nI a)), (2, .int (nI 3))]) rfl ?_
  refine Z.iload_n B dX12_item_48 (x := nI 3) rfl ?_
  refine Z.iconst B dX12_item_49 (v := (-1)) rfl ?_
  refine Z.icmp_ne B dX12_item_50 (tgt := 55) rfl (fun h50 => ?_) (fun h50 => (by exfalso; revert h50; decide))
  refine Z.iload_n B dX12_item_55 (x := nI 3) rfl ?_
  refine Z.if_neN B dX12_item_56 (tgt := 68) rfl (by omega) (fun h56 => ?_) (fun h56 => by exfalso; first | omega | contradiction | simp_all)
  refine Z.iload_n B dX12_item_68 (x := nI 3) rfl ?_
  refine Z.iconst B dX12_item_69 (v := nI 1) rfl ?_
  refine Z.icmp_neN B dX12_item_70 (tgt := 81) rfl (by omega) (by omega) (fun h70 => ?_) (fun h70 => by exfalso; first | omega | contradiction | simp_all)
  refine Z.iload_n B dX12_item_81 (x := nI 3) rfl ?_
  refine Z.iconst B dX12_item_82 (v := nI 2) rfl ?_
  refine Z.icmp_neN B dX12_item_83 (tgt := 101) rfl (by omega) (by omega) (fun h83 => ?_) (fun h83 => by exfalso; first | omega | contradiction | simp_all)
  refine Z.iload_n B dX12_item_101 (x := nI 3) rfl ?_
  refine Z.if_neN B dX12_item_102 (tgt := 110) rfl (by omega) (fun h102 => ?_) (fun h102 => by exfalso; first | omega | contradiction | simp_all)
  refine Z.iload_n B dX12_item_110 (x := nI 3) rfl ?_
  refine Z.iconst B dX12_item_111 (v := nI 1) rfl ?_
  refine Z.icmp_neN B dX12_item_112 (tgt := 119) rfl (by omega) (by omega) (fun h112 => ?_) (fun h112 => by exfalso; first | omega | contradiction | simp_all)
  refine Z.iload_n B dX12_item_119 (x := nI 3) rfl ?_
  refine Z.iconst B dX12_item_120 (v := nI 2) rfl ?_
  refine Z.icmp_neN B dX12_item_121 (tgt := 128) rfl (by omega) (by omega) (fun h121 => ?_) (fun h121 => by exfalso; first | omega | contradiction | simp_all)
  refine Z.iconst B dX12_item_128 (v := nI 1) rfl ?_
  refine Z.istore_n B dX12_item_129 (by decide) (L' := [(0, .ref 45), (1, .int (nI a)), (2, .int (nI 3)), (3, .int (nI 1))]) rfl ?_
  refine Z.iconst B dX12_item_130 (v := nI 0) rfl ?_
  refine Z.istore B dX12_item_131 (by decide) (L' := [(0, .ref 45), (1, .int (nI a)), (2, .int (nI 3)), (3, .int (nI 1)), (4, .int (nI 0))]) rfl ?_
  have hloop133 : ∀ k : Nat, k ≤ 1 → Z κ 0 0 (mS σ (atK T (a + 5) k) (tK t T (a + 5) k) w (fi k (vs T (a + 5)) r)) 133 [(0, .ref 45), (1, .int (nI a)), (2, .int (nI 3)), (3, .int (nI 1)), (4, .int (nI k))] [] := by
    refine z_loop (fun k => 1 - k) (fun k ih hkc => ?_)
    have hps := ps_le (T := T) (p := a + 5) k
    refine Z.iload B dX12_item_133 (x := nI k) rfl ?_
    refine Z.iload_n B dX12_item_135 (x := nI 1) rfl ?_
    refine Z.icmp_geN B dX12_item_136 (tgt := 227) rfl (by omega) (by omega) (fun h136 => ?_) (fun h136 => ?_)
    · skip
      obtain rfl : k = 1 := by omega
      refine Z.eqσ (τ := (mS σ (ps T (a + 5) 1) (vs T (a + 5) 0) w (fi 1 (vs T (a + 5)) r))) rfl ?_
      refine Z.iload_n B dX12_item_227 (x := nI 3) rfl ?_
      refine Z.tabOut B dX12_item_228 (by decide) (tgt := 353) rfl ?_
      refine Z.aload_n B dX12_item_353 (v := .ref 45) rfl rfl ?_
      refine Z.aload_n B dX12_item_354 (v := .ref 45) rfl rfl ?_
      refine Z.getR (σ := (mS σ (ps T (a + 5) 1) (vs T (a + 5) 0) w (fi 1 (vs T (a + 5)) r))) B fX12_63_12 dX12_item_355 (hl.n (k := 45) (by decide)) (hl.k (k := 45) (by decide)) (by decide) (j := 61) (hl.r (k := 45) (f := 20) (by decide) (by decide)) ?_
      refine Z.iconst B dX12_item_358 (v := nI 0) rfl ?_
      refine Z.iald (σ := (mS σ (ps T (a + 5) 1) (vs T (a + 5) 0) w (fi 1 (vs T (a + 5)) r))) B dX12_item_359 (n := 6) (hl.n (k := 61) (by decide)) (hl.k (k := 61) (by decide)) (hl.l (k := 61) (by decide)) (by decide) (j := 0) rfl (by omega) (v := nI b) (by rw [mS_r, fi_at (by decide)]; exact v0) ?_
      refine Z.callVI (σ := (mS σ (ps T (a + 5) 1) (vs T (a + 5) 0) w (fi 1 (vs T (a + 5)) r))) B (M' := mX12_first) (as := [.int (nI b)]) (st := []) (v := .int (nI p)) dX12_item_360 wX12_first iX12_first sX12_first kX12_135 (hl.n (k := 45) (by decide)) (hl.k (k := 45) (by decide)) (by decide) rfl rfl (t_M_first_ (σ := (mS σ (ps T (a + 5) 1) (vs T (a + 5) 0) w (fi 1 (vs T (a + 5)) r))) hl H.mS (od := od) (fun i hi => by rw [mS_o (by decide) (by decide)]; exact ho2 i hi) hp hpb hmin) rfl rfl (by decide) (by decide) (Nat.le_of_ble_eq_true rfl) (by decide) (by decide) ?_
      refine Z.eqσ (τ := (zuX (mS σ (ps T (a + 5) 1) (vs T (a + 5) 0) w (fi 1 (vs T (a + 5)) r)) 51 (pf p b (zX (mS σ (ps T (a + 5) 1) (vs T (a + 5) 0) w (fi 1 (vs T (a + 5)) r)) 51)))) rfl ?_
      refine Z.pop B dX12_item_363 rfl ?_
      refine Z.iconst B dX12_item_364 (v := nI 1) rfl ?_
      refine Z.iret B Rt dX12_item_365 (ty := .boolean) rfl rfl (by decide) (by decide) ?_
      exact ⟨rfl, rfl⟩
    · skip
      have hk := hall k (by omega)
      refine Z.iload B dX12_item_139 (x := nI k) rfl ?_
      refine Z.if_leN B dX12_item_141 (tgt := 194) rfl (by omega) (fun h141 => ?_) (fun h141 => ?_)
      · skip
        refine Z.eqσ (τ := (mS σ (ps T (a + 5) k + 1) (tK t T (a + 5) k) w (fi k (vs T (a + 5)) r))) (by rw [atK_0 h141]) ?_
        refine Z.aload_n B dX12_item_194 (v := .ref 45) rfl rfl ?_
        refine Z.aload_n B dX12_item_195 (v := .ref 45) rfl rfl ?_
        refine Z.iload_n B dX12_item_196 (x := nI 3) rfl ?_
        refine Z.iload B dX12_item_197 (x := nI k) rfl ?_
        refine Z.callVI (σ := (mS σ (ps T (a + 5) k + 1) (tK t T (a + 5) k) w (fi k (vs T (a + 5)) r))) B (M' := mX12_high) (as := [.int (nI 3), .int (nI k)]) (st := [.ref 45]) (v := .int (mx ac 3 k)) dX12_item_199 wX12_high iX12_high sX12_high kX12_170 (hl.n (k := 45) (by decide)) (hl.k (k := 45) (by decide)) (by decide) rfl rfl (t_X12_high (w := 3) (i := k) hl ((mS_f (by decide) (by decide) (by decide)).trans hac) (by decide) (by show k < 1; omega)) rfl rfl (by decide) (by decide) (Nat.le_of_ble_eq_true rfl) (by decide) (by decide) ?_
        refine Z.callVI (σ := (mS σ (ps T (a + 5) k + 1) (tK t T (a + 5) k) w (fi k (vs T (a + 5)) r))) B (M' := mX12_number) (as := [.int (mx ac 3 k)]) (st := []) (v := .int (nI 1)) dX12_item_202 wX12_number iX12_number sX12_number kX12_173 (hl.n (k := 45) (by decide)) (hl.k (k := 45) (by decide)) (by decide) rfl rfl (t_X12_num_ok (σ := σ) (t := (tK t T (a + 5) k)) (w := w) (r := (fi k (vs T (a + 5)) r)) hl ht (a := ps T (a + 5) k + 1) (by omega) hk.2.1 hk.2.2) rfl rfl (by decide) (by decide) (Nat.le_of_ble_eq_true rfl) (by decide) (by decide) ?_
        refine Z.eqσ (τ := (mS σ (ps T (a + 5) (k + 1)) (vs T (a + 5) k) w (fi k (vs T (a + 5)) r))) (congrArg (fun q => mS σ q (vs T (a + 5) k) w (fi k (vs T (a + 5)) r)) (ps_ok hk).symm) ?_
        refine Z.if_neN B dX12_item_205 (tgt := 210) rfl (by omega) (fun h205 => ?_) (fun h205 => (by omega))
        refine Z.aload_n B dX12_item_210 (v := .ref 45) rfl rfl ?_
        refine Z.getR (σ := (mS σ (ps T (a + 5) (k + 1)) (vs T (a + 5) k) w (fi k (vs T (a + 5)) r))) B fX12_63_12 dX12_item_211 (hl.n (k := 45) (by decide)) (hl.k (k := 45) (by decide)) (by decide) (j := 61) (hl.r (k := 45) (f := 20) (by decide) (by decide)) ?_
        refine Z.iload B dX12_item_214 (x := nI k) rfl ?_
        refine Z.aload_n B dX12_item_216 (v := .ref 45) rfl rfl ?_
        refine Z.getI (σ := (mS σ (ps T (a + 5) (k + 1)) (vs T (a + 5) k) w (fi k (vs T (a + 5)) r))) B fX12_157_12 dX12_item_217 (hl.n (k := 45) (by decide)) (hl.k (k := 45) (by decide)) (by decide) (v := (vs T (a + 5) k)) mS_t ?_
        refine Z.iast (σ := (mS σ (ps T (a + 5) (k + 1)) (vs T (a + 5) k) w (fi k (vs T (a + 5)) r))) B dX12_item_220 (n := 6) (hl.n (k := 61) (by decide)) (hl.k (k := 61) (by decide)) (hl.l (k := 61) (by decide)) (by decide) (j := k) rfl (by omega) (τ := (zuX (mS σ (ps T (a + 5) (k + 1)) (vs T (a + 5) k) w (fi k (vs T (a + 5)) r)) 61 (upd (zX (mS σ (ps T (a + 5) (k + 1)) (vs T (a + 5) k) w (fi k (vs T (a + 5)) r)) 61) k (vs T (a + 5) k)))) rfl ?_
        refine Z.eqσ (τ := (mS σ (ps T (a + 5) (k + 1)) (vs T (a + 5) k) w (fi (k + 1) (vs T (a + 5)) r))) (by rw [mS_r, fi_s (f := vs T (a + 5)) rfl]; exact mS_ur) ?_
        refine Z.iincN B dX12_item_221 (by decide) (a := k) rfl (L' := [(0, .ref 45), (1, .int (nI a)), (2, .int (nI 3)), (3, .int (nI 1)), (4, .int (nI (k + 1)))]) rfl ?_
        refine Z.goto B dX12_item_224 (tgt := 133) rfl ?_
        exact ih (k + 1) (by omega) (by omega)
      · skip
        have h141 := h141
        refine Z.eqσ (τ := (mS σ (ps T (a + 5) k) (tK t T (a + 5) k) w (fi k (vs T (a + 5)) r))) (by rw [atK_s h141]) ?_
        refine Z.aload_n B dX12_item_144 (v := .ref 45) rfl rfl ?_
        refine Z.getI (σ := (mS σ (ps T (a + 5) k) (tK t T (a + 5) k) w (fi k (vs T (a + 5)) r))) B fX12_141_12 dX12_item_145 (hl.n (k := 45) (by decide)) (hl.k (k := 45) (by decide)) (by decide) (v := nI (ps T (a + 5) k)) mS_a ?_
        refine Z.aload_n B dX12_item_148 (v := .ref 45) rfl rfl ?_
        refine Z.getI (σ := (mS σ (ps T (a + 5) k) (tK t T (a + 5) k) w (fi k (vs T (a + 5)) r))) B fX12_144_12 dX12_item_149 (hl.n (k := 45) (by decide)) (hl.k (k := 45) (by decide)) (by decide) (v := nI m) ((mS_f (by decide) (by decide) (by decide)).trans hen) ?_
        refine Z.icmp_geN B dX12_item_152 (tgt := 175) rfl (by omega) (by omega) (fun h152 => (by have := in_m ht (c := 31) hk.1 (by decide); omega)) (fun h152 => ?_)
        refine Z.aload_n B dX12_item_155 (v := .ref 45) rfl rfl ?_
        refine Z.getR (σ := (mS σ (ps T (a + 5) k) (tK t T (a + 5) k) w (fi k (vs T (a + 5)) r))) B fX12_53_12 dX12_item_156 (hl.n (k := 45) (by decide)) (hl.k (k := 45) (by decide)) (by decide) (j := 58) (hl.r (k := 45) (f := 17) (by decide) (by decide)) ?_
        refine Z.aload_n B dX12_item_159 (v := .ref 45) rfl rfl ?_
        refine Z.getI (σ := (mS σ (ps T (a + 5) k) (tK t T (a + 5) k) w (fi k (vs T (a + 5)) r))) B fX12_147_12 dX12_item_160 (hl.n (k := 45) (by decide)) (hl.k (k := 45) (by decide)) (by decide) (v := nI (s * 160)) ((mS_f (by decide) (by decide) (by decide)).trans hbs) ?_
        refine Z.aload_n B dX12_item_163 (v := .ref 45) rfl rfl ?_
        refine Z.getI (σ := (mS σ (ps T (a + 5) k) (tK t T (a + 5) k) w (fi k (vs T (a + 5)) r))) B fX12_141_12 dX12_item_164 (hl.n (k := 45) (by decide)) (hl.k (k := 45) (by decide)) (by decide) (v := nI (ps T (a + 5) k)) mS_a ?_
        refine Z.iaddN B dX12_item_167 (a := s * 160) (b := ps T (a + 5) k) ?_
        refine Z.lald (σ := (mS σ (ps T (a + 5) k) (tK t T (a + 5) k) w (fi k (vs T (a + 5)) r))) B dX12_item_168 (n := 1280) (hl.n (k := 58) (by decide)) (hl.k (k := 58) (by decide)) (hl.l (k := 58) (by decide)) (by decide) (j := (s * 160) + (ps T (a + 5) k)) rfl (by have := in_m ht (c := 31) hk.1 (by decide); omega) (v := (zY (mS σ (ps T (a + 5) k) (tK t T (a + 5) k) w (fi k (vs T (a + 5)) r)) 58 ((s * 160) + (ps T (a + 5) k)))) rfl ?_
        refine Z.l2i B dX12_item_169 ?_
        refine Z.eqS (st' := [.int (T (ps T (a + 5) k))]) (congrArg (fun z => Value.int z :: _) (ht.t (i := ps T (a + 5) k) (in_m ht (c := 31) hk.1 (by decide)))) ?_
        refine Z.bipush B dX12_item_170 (v := nI 32) rfl ?_
        refine Z.icmp_eq B dX12_item_172 (tgt := 184) rfl (fun h172 => ?_) (fun h172 => (absurd hk.1 h172))
        refine Z.aload_n B dX12_item_184 (v := .ref 45) rfl rfl ?_
        refine Z.dup B dX12_item_185 rfl ?_
        refine Z.getI (σ := (mS σ (ps T (a + 5) k) (tK t T (a + 5) k) w (fi k (vs T (a + 5)) r))) B fX12_141_12 dX12_item_186 (hl.n (k := 45) (by decide)) (hl.k (k := 45) (by decide)) (by decide) (v := nI (ps T (a + 5) k)) mS_a ?_
        refine Z.iconst B dX12_item_189 (v := nI 1) rfl ?_
        refine Z.iaddN B dX12_item_190 (a := ps T (a + 5) k) (b := 1) ?_
        refine Z.putI (σ := (mS σ (ps T (a + 5) k) (tK t T (a + 5) k) w (fi k (vs T (a + 5)) r))) B fX12_141_12 (ty := .int) ⟨_, _, _, rfl, rfl, by decide +kernel⟩ dX12_item_191 (hl.n (k := 45) (by decide)) (hl.k (k := 45) (by decide)) (by decide) rfl rfl (τ := (zuX (mS σ (ps T (a + 5) k) (tK t T (a + 5) k) w (fi k (vs T (a + 5)) r)) 45 (upd (zX (mS σ (ps T (a + 5) k) (tK t T (a + 5) k) w (fi k (vs T (a + 5)) r)) 45) 22 (nI ((ps T (a + 5) k) + 1))))) rfl ?_
        refine Z.eqσ (τ := (mS σ (ps T (a + 5) k + 1) (tK t T (a + 5) k) w (fi k (vs T (a + 5)) r))) mS_ua ?_
        refine Z.aload_n B dX12_item_194 (v := .ref 45) rfl rfl ?_
        refine Z.aload_n B dX12_item_195 (v := .ref 45) rfl rfl ?_
        refine Z.iload_n B dX12_item_196 (x := nI 3) rfl ?_
        refine Z.iload B dX12_item_197 (x := nI k) rfl ?_
        refine Z.callVI (σ := (mS σ (ps T (a + 5) k + 1) (tK t T (a + 5) k) w (fi k (vs T (a + 5)) r))) B (M' := mX12_high) (as := [.int (nI 3), .int (nI k)]) (st := [.ref 45]) (v := .int (mx ac 3 k)) dX12_item_199 wX12_high iX12_high sX12_high kX12_170 (hl.n (k := 45) (by decide)) (hl.k (k := 45) (by decide)) (by decide) rfl rfl (t_X12_high (w := 3) (i := k) hl ((mS_f (by decide) (by decide) (by decide)).trans hac) (by decide) (by show k < 1; omega)) rfl rfl (by decide) (by decide) (Nat.le_of_ble_eq_true rfl) (by decide) (by decide) ?_
        refine Z.callVI (σ := (mS σ (ps T (a + 5) k + 1) (tK t T (a + 5) k) w (fi k (vs T (a + 5)) r))) B (M' := mX12_number) (as := [.int (mx ac 3 k)]) (st := []) (v := .int (nI 1)) dX12_item_202 wX12_number iX12_number sX12_number kX12_173 (hl.n (k := 45) (by decide)) (hl.k (k := 45) (by decide)) (by decide) rfl rfl (t_X12_num_ok (σ := σ) (t := (tK t T (a + 5) k)) (w := w) (r := (fi k (vs T (a + 5)) r)) hl ht (a := ps T (a + 5) k + 1) (by omega) hk.2.1 hk.2.2) rfl rfl (by decide) (by decide) (Nat.le_of_ble_eq_true rfl) (by decide) (by decide) ?_
        refine Z.eqσ (τ := (mS σ (ps T (a + 5) (k + 1)) (vs T (a + 5) k) w (fi k (vs T (a + 5)) r))) (congrArg (fun q => mS σ q (vs T (a + 5) k) w (fi k (vs T (a + 5)) r)) (ps_ok hk).symm) ?_
        refine Z.if_neN B dX12_item_205 (tgt := 210) rfl (by omega) (fun h205 => ?_) (fun h205 => (by omega))
        refine Z.aload_n B dX12_item_210 (v := .ref 45) rfl rfl ?_
        refine Z.getR (σ := (mS σ (ps T (a + 5) (k + 1)) (vs T (a + 5) k) w (fi k (vs T (a + 5)) r))) B fX12_63_12 dX12_item_211 (hl.n (k := 45) (by decide)) (hl.k (k := 45) (by decide)) (by decide) (j := 61) (hl.r (k := 45) (f := 20) (by decide) (by decide)) ?_
        refine Z.iload B dX12_item_214 (x := nI k) rfl ?_
        refine Z.aload_n B dX12_item_216 (v := .ref 45) rfl rfl ?_
        refine Z.getI (σ := (mS σ (ps T (a + 5) (k + 1)) (vs T (a + 5) k) w (fi k (vs T (a + 5)) r))) B fX12_157_12 dX12_item_217 (hl.n (k := 45) (by decide)) (hl.k (k := 45) (by decide)) (by decide) (v := (vs T (a + 5) k)) mS_t ?_
        refine Z.iast (σ := (mS σ (ps T (a + 5) (k + 1)) (vs T (a + 5) k) w (fi k (vs T (a + 5)) r))) B dX12_item_220 (n := 6) (hl.n (k := 61) (by decide)) (hl.k (k := 61) (by decide)) (hl.l (k := 61) (by decide)) (by decide) (j := k) rfl (by omega) (τ := (zuX (mS σ (ps T (a + 5) (k + 1)) (vs T (a + 5) k) w (fi k (vs T (a + 5)) r)) 61 (upd (zX (mS σ (ps T (a + 5) (k + 1)) (vs T (a + 5) k) w (fi k (vs T (a + 5)) r)) 61) k (vs T (a + 5) k)))) rfl ?_
        refine Z.eqσ (τ := (mS σ (ps T (a + 5) (k + 1)) (vs T (a + 5) k) w (fi (k + 1) (vs T (a + 5)) r))) (by rw [mS_r, fi_s (f := vs T (a + 5)) rfl]; exact mS_ur) ?_
        refine Z.iincN B dX12_item_221 (by decide) (a := k) rfl (L' := [(0, .ref 45), (1, .int (nI a)), (2, .int (nI 3)), (3, .int (nI 1)), (4, .int (nI (k + 1)))]) rfl ?_
        refine Z.goto B dX12_item_224 (tgt := 133) rfl ?_
        exact ih (k + 1) (by omega) (by omega)
  have h0 := hloop133 0 (Nat.zero_le _)
  rw [fi_0] at h0
  exact h0
