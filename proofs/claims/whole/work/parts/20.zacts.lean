/-! the model: heads, names off, pieces, orders, draws, acts, what is kept -/
theorem mt_fi {am : Nat → Bool} {F f g : Nat → Int32} {n : Nat} : tO (mt am F (fi n f g)) n = tO (mt am F f) n := tO_cong n fun i j hi hj => by unfold mt; rw [fi_at hj, fi_at (Nat.lt_trans hi hj)]
def mP (d : Nat → Int32) (p : Nat) : Nat → Int32
  | 0 => nI 1000
  | k + 1 => mP d p k * d (p + 1 + k) / nI 10
def mQ (d : Nat → Int32) (p : Nat) : Nat → Int32
  | 0 => nI 1000
  | k + 1 => mP d p k
def mA (d : Nat → Int32) (p : Nat) : Nat → Int32
  | 0 => nI 0
  | k + 1 => mA d p k + mP d p k
theorem mQ_0 {d : Nat → Int32} {p k : Nat} (h : k = 0) : mQ d p k = mP d p k := by subst h; rfl
theorem mQ_s {d : Nat → Int32} {p k : Nat} (h : 0 < k) : mQ d p k * d (p + k) / nI 10 = mP d p k := by
  obtain ⟨m, rfl⟩ : ∃ m, k = m + 1 := ⟨k - 1, by omega⟩
  show mP d p m * d (p + (m + 1)) / nI 10 = mP d p m * d (p + 1 + m) / nI 10
  rw [show p + (m + 1) = p + 1 + m by omega]
def gn : Nat → Int32
  | 0 => (-1)
  | i + 1 => nI i
def tnM (n : Nat) (G : Nat → Nat → Int32) : Nat → Int32
  | 0 => nI 0
  | i + 1 => tnM n G i ||| (nI 1 <<< (gI (G i) n &&& 31))
/-- products, and the orders that are won -/
def fc : Nat → Int32
  | 0 => nI 1
  | i + 1 => fc i * nI (i + 2)
def cs (al : Int32) (r : Nat) : Nat → Int32
  | 0 => nI 0
  | i + 1 => cs al r i + al / nI (r + i) * nI r
def cb (n r : Nat) : Int32 := if r = 0 then fc (n - 2) else cs (fc (n - 2)) r (n - r)
theorem cpy_s {s d : Nat → Int32} {sp dp i : Nat} {v : Int32} (hv : v = s (sp + i)) : upd (va_cpy s d sp dp i) (dp + i) v = va_cpy s d sp dp (i + 1) := by
  subst hv
  funext j
  simp only [upd, va_cpy]
  by_cases h : j = dp + i
  · subst h; rw [if_pos rfl, if_pos (by omega), show dp + i - dp = i by omega]
  · rw [if_neg h]
    by_cases h2 : dp ≤ j ∧ j < dp + i
    · rw [if_pos h2, if_pos (by omega)]
    · rw [if_neg h2, if_neg (by omega)]
theorem cpy_0 {s d : Nat → Int32} {sp dp : Nat} : va_cpy s d sp dp 0 = d := by
  funext j
  simp only [va_cpy]
  rw [if_neg (by omega)]

theorem t_X12_heads_in {σ : zSt} {n a y : Nat} (H : zMd σ n a y) {od : Nat → Nat} (ho : zMo σ a od) {b p : Nat} (hp : p < a) (hb : od p = b) (hmin : ∀ j, j < p → od j ≠ b) : Dt mX12_heads [.ref 45, .int (nI b)] σ (some (.int ((if p = 0 then nI 10 else nI 10 - zX σ 50 b) * mA (dd (zX σ 50) od) p (a - p)))) σ := by
  obtain ⟨hl, hn, hn8, ha, ha4, hy, hy8⟩ := id H
  refine Dt.of (by decide) (Nat.le_of_ble_eq_true rfl) fun κ B Rt => ?_
  show Z κ 0 0 σ 0 [(0, .ref 45), (1, .int (nI b))] []
  have hba : b < a := hb ▸ (ho p hp).2
  refine Z.aload_n B dX12_heads_0 (v := .ref 45) rfl rfl ?_
  refine Z.iload_n B dX12_heads_1 (x := nI b) rfl ?_
  refine Z.callVI (σ := σ) B (M' := mX12_isAsker) (as := [.int (nI b)]) (st := []) (v := .int (nI 1)) dX12_heads_2 wX12_isAsker iX12_isAsker sX12_isAsker kX12_129 (hl.n (k := 45) (by decide)) (hl.k (k := 45) (by decide)) (by decide) rfl rfl (t_X12_isAsker_in (σ := σ) H hba) rfl rfl (by decide) (by decide) (Nat.le_of_ble_eq_true rfl) (by decide) (by decide) ?_
  refine Z.if_neN B dX12_heads_5 (tgt := 14) rfl (by omega) (fun h5 => ?_) (fun h5 => by exfalso; first | omega | contradiction | simp_all)
  refine Z.aload_n B dX12_heads_14 (v := .ref 45) rfl rfl ?_
  refine Z.iload_n B dX12_heads_15 (x := nI b) rfl ?_
  refine Z.callVI (σ := σ) B (M' := mX12_placeOf) (as := [.int (nI b)]) (st := []) (v := .int (nI p)) dX12_heads_16 wX12_placeOf iX12_placeOf sX12_placeOf kX12_132 (hl.n (k := 45) (by decide)) (hl.k (k := 45) (by decide)) (by decide) rfl rfl (t_X12_placeOf (σ := σ) H ho hp hb hmin) rfl rfl (by decide) (by decide) (Nat.le_of_ble_eq_true rfl) (by decide) (by decide) ?_
  refine Z.istore_n B dX12_heads_19 (by decide) (L' := [(0, .ref 45), (1, .int (nI b)), (2, .int (nI p))]) rfl ?_
  refine Z.iload_n B dX12_heads_20 (x := nI p) rfl ?_
  refine Z.if_neN B dX12_heads_21 (tgt := 29) rfl (by omega) (fun h21 => ?_) (fun h21 => ?_)
  · skip
    refine Z.bipush B dX12_heads_29 (v := nI 10) rfl ?_
    refine Z.aload_n B dX12_heads_31 (v := .ref 45) rfl rfl ?_
    refine Z.getR (σ := σ) B fX12_29_12 dX12_heads_32 (hl.n (k := 45) (by decide)) (hl.k (k := 45) (by decide)) (by decide) (j := 50) (hl.r (k := 45) (f := 9) (by decide) (by decide)) ?_
    refine Z.iload_n B dX12_heads_35 (x := nI b) rfl ?_
    refine Z.iald (σ := σ) B dX12_heads_36 (n := 4) (hl.n (k := 50) (by decide)) (hl.k (k := 50) (by decide)) (hl.l (k := 50) (by decide)) (by decide) (j := b) rfl (by omega) (v := (zX σ 50 b)) rfl ?_
    refine Z.isub B dX12_heads_37 ?_
    refine Z.eqS (st' := [.int (if p = 0 then nI 10 else nI 10 - zX σ 50 b)]) (by first | rw [if_pos h21] | rw [if_neg h21]) ?_
    refine Z.istore_n B dX12_heads_38 (by decide) (L' := [(0, .ref 45), (1, .int (nI b)), (2, .int (nI p)), (3, .int (if p = 0 then nI 10 else nI 10 - zX σ 50 b))]) rfl ?_
    refine Z.iconst B dX12_heads_39 (v := nI 0) rfl ?_
    refine Z.istore B dX12_heads_40 (by decide) (L' := [(0, .ref 45), (1, .int (nI b)), (2, .int (nI p)), (3, .int (if p = 0 then nI 10 else nI 10 - zX σ 50 b)), (4, .int (nI 0))]) rfl ?_
    refine Z.sipush B dX12_heads_42 (v := nI 1000) rfl ?_
    refine Z.istore B dX12_heads_45 (by decide) (L' := [(0, .ref 45), (1, .int (nI b)), (2, .int (nI p)), (3, .int (if p = 0 then nI 10 else nI 10 - zX σ 50 b)), (4, .int (nI 0)), (5, .int (nI 1000))]) rfl ?_
    refine Z.iload_n B dX12_heads_47 (x := nI p) rfl ?_
    refine Z.istore B dX12_heads_48 (by decide) (L' := [(0, .ref 45), (1, .int (nI b)), (2, .int (nI p)), (3, .int (if p = 0 then nI 10 else nI 10 - zX σ 50 b)), (4, .int (nI 0)), (5, .int (nI 1000)), (6, .int (nI p))]) rfl ?_
    have hloop50 : ∀ k : Nat, k ≤ a - p → Z κ 0 0 σ 50 [(0, .ref 45), (1, .int (nI b)), (2, .int (nI p)), (3, .int (if p = 0 then nI 10 else nI 10 - zX σ 50 b)), (4, .int (mA (dd (zX σ 50) od) p k)), (5, .int (mQ (dd (zX σ 50) od) p k)), (6, .int (nI (p + k)))] [] := by
      refine z_loop (fun k => a - k) (fun k ih hk => ?_)
      refine Z.iload B dX12_heads_50 (x := nI (p + k)) rfl ?_
      refine Z.aload_n B dX12_heads_52 (v := .ref 45) rfl rfl ?_
      refine Z.getI (σ := σ) B fX12_84_12 dX12_heads_53 (hl.n (k := 45) (by decide)) (hl.k (k := 45) (by decide)) (by decide) (v := nI a) ha ?_
      refine Z.icmp_geN B dX12_heads_56 (tgt := 98) rfl (by omega) (by omega) (fun h56 => ?_) (fun h56 => ?_)
      · skip
        obtain rfl : (a - p) = k := by omega
        refine Z.iload_n B dX12_heads_98 (x := (if p = 0 then nI 10 else nI 10 - zX σ 50 b)) rfl ?_
        refine Z.iload B dX12_heads_99 (x := mA (dd (zX σ 50) od) p (a - p)) rfl ?_
        refine Z.imul B dX12_heads_101 ?_
        refine Z.iret B Rt dX12_heads_102 (ty := .int) rfl rfl (by decide) (by decide) ?_
        exact ⟨rfl, rfl⟩
      · skip
        refine Z.iload B dX12_heads_59 (x := nI (p + k)) rfl ?_
        refine Z.iload_n B dX12_heads_61 (x := nI p) rfl ?_
        refine Z.icmp_leN B dX12_heads_62 (tgt := 85) rfl (by omega) (by omega) (fun h62 => ?_) (fun h62 => ?_)
        · skip
          refine Z.eqL (L' := [(0, .ref 45), (1, .int (nI b)), (2, .int (nI p)), (3, .int (if p = 0 then nI 10 else nI 10 - zX σ 50 b)), (4, .int (mA (dd (zX σ 50) od) p k)), (5, .int (mP (dd (zX σ 50) od) p k)), (6, .int (nI (p + k)))]) (by rw [mQ_0 (by omega)]) ?_
          refine Z.iload B dX12_heads_85 (x := mA (dd (zX σ 50) od) p k) rfl ?_
          refine Z.iload B dX12_heads_87 (x := mP (dd (zX σ 50) od) p k) rfl ?_
          refine Z.iadd B dX12_heads_89 ?_
          refine Z.istore B dX12_heads_90 (by decide) (L' := [(0, .ref 45), (1, .int (nI b)), (2, .int (nI p)), (3, .int (if p = 0 then nI 10 else nI 10 - zX σ 50 b)), (4, .int ((mA (dd (zX σ 50) od) p k) + (mP (dd (zX σ 50) od) p k))), (5, .int (mP (dd (zX σ 50) od) p k)), (6, .int (nI (p + k)))]) rfl ?_
          refine Z.iincN B dX12_heads_92 (by decide) (a := p + k) rfl (L' := [(0, .ref 45), (1, .int (nI b)), (2, .int (nI p)), (3, .int (if p = 0 then nI 10 else nI 10 - zX σ 50 b)), (4, .int ((mA (dd (zX σ 50) od) p k) + (mP (dd (zX σ 50) od) p k))), (5, .int (mP (dd (zX σ 50) od) p k)), (6, .int (nI (p + k + 1)))]) rfl ?_
          refine Z.goto B dX12_heads_95 (tgt := 50) rfl ?_
          exact ih (k + 1) (by omega) (by omega)
        · skip
          refine Z.iload B dX12_heads_65 (x := mQ (dd (zX σ 50) od) p k) rfl ?_
          refine Z.aload_n B dX12_heads_67 (v := .ref 45) rfl rfl ?_
          refine Z.getR (σ := σ) B fX12_29_12 dX12_heads_68 (hl.n (k := 45) (by decide)) (hl.k (k := 45) (by decide)) (by decide) (j := 50) (hl.r (k := 45) (f := 9) (by decide) (by decide)) ?_
          refine Z.aload_n B dX12_heads_71 (v := .ref 45) rfl rfl ?_
          refine Z.getR (σ := σ) B fX12_32_12 dX12_heads_72 (hl.n (k := 45) (by decide)) (hl.k (k := 45) (by decide)) (by decide) (j := 51) (hl.r (k := 45) (f := 10) (by decide) (by decide)) ?_
          refine Z.iload B dX12_heads_75 (x := nI (p + k)) rfl ?_
          refine Z.iald (σ := σ) B dX12_heads_77 (n := 4) (hl.n (k := 51) (by decide)) (hl.k (k := 51) (by decide)) (hl.l (k := 51) (by decide)) (by decide) (j := p + k) rfl (by omega) (v := nI (od (p + k))) (ho (p + k) (by omega)).1 ?_
          have ho2 := (ho (p + k) (by omega)).2
          refine Z.iald (σ := σ) B dX12_heads_78 (n := 4) (hl.n (k := 50) (by decide)) (hl.k (k := 50) (by decide)) (hl.l (k := 50) (by decide)) (by decide) (j := od (p + k)) rfl (by omega) (v := (dd (zX σ 50) od) (p + k)) rfl ?_
          refine Z.imul B dX12_heads_79 ?_
          refine Z.bipush B dX12_heads_80 (v := nI 10) rfl ?_
          refine Z.idiv B dX12_heads_82 (by decide) ?_
          refine Z.eqS (st' := [.int (mP (dd (zX σ 50) od) p k)]) (by rw [mQ_s (by omega)]) ?_
          refine Z.istore B dX12_heads_83 (by decide) (L' := [(0, .ref 45), (1, .int (nI b)), (2, .int (nI p)), (3, .int (if p = 0 then nI 10 else nI 10 - zX σ 50 b)), (4, .int (mA (dd (zX σ 50) od) p k)), (5, .int (mP (dd (zX σ 50) od) p k)), (6, .int (nI (p + k)))]) rfl ?_
          refine Z.iload B dX12_heads_85 (x := mA (dd (zX σ 50) od) p k) rfl ?_
          refine Z.iload B dX12_heads_87 (x := mP (dd (zX σ 50) od) p k) rfl ?_
          refine Z.iadd B dX12_heads_89 ?_
          refine Z.istore B dX12_heads_90 (by decide) (L' := [(0, .ref 45), (1, .int (nI b)), (2, .int (nI p)), (3, .int (if p = 0 then nI 10 else nI 10 - zX σ 50 b)), (4, .int ((mA (dd (zX σ 50) od) p k) + (mP (dd (zX σ 50) od) p k))), (5, .int (mP (dd (zX σ 50) od) p k)), (6, .int (nI (p + k)))]) rfl ?_
          refine Z.iincN B dX12_heads_92 (by decide) (a := p + k) rfl (L' := [(0, .ref 45), (1, .int (nI b)), (2, .int (nI p)), (3, .int (if p = 0 then nI 10 else nI 10 - zX σ 50 b)), (4, .int ((mA (dd (zX σ 50) od) p k) + (mP (dd (zX σ 50) od) p k))), (5, .int (mP (dd (zX σ 50) od) p k)), (6, .int (nI (p + k + 1)))]) rfl ?_
          refine Z.goto B dX12_heads_95 (tgt := 50) rfl ?_
          exact ih (k + 1) (by omega) (by omega)
    exact hloop50 0 (Nat.zero_le _)
  · skip
    refine Z.bipush B dX12_heads_24 (v := nI 10) rfl ?_
    refine Z.goto B dX12_heads_26 (tgt := 38) rfl ?_
    refine Z.eqS (st' := [.int (if p = 0 then nI 10 else nI 10 - zX σ 50 b)]) (by first | rw [if_pos h21] | rw [if_neg h21]) ?_
    refine Z.istore_n B dX12_heads_38 (by decide) (L' := [(0, .ref 45), (1, .int (nI b)), (2, .int (nI p)), (3, .int (if p = 0 then nI 10 else nI 10 - zX σ 50 b))]) rfl ?_
    refine Z.iconst B dX12_heads_39 (v := nI 0) rfl ?_
    refine Z.istore B dX12_heads_40 (by decide) (L' := [(0, .ref 45), (1, .int (nI b)), (2, .int (nI p)), (3, .int (if p = 0 then nI 10 else nI 10 - zX σ 50 b)), (4, .int (nI 0))]) rfl ?_
    refine Z.sipush B dX12_heads_42 (v := nI 1000) rfl ?_
    refine Z.istore B dX12_heads_45 (by decide) (L' := [(0, .ref 45), (1, .int (nI b)), (2, .int (nI p)), (3, .int (if p = 0 then nI 10 else nI 10 - zX σ 50 b)), (4, .int (nI 0)), (5, .int (nI 1000))]) rfl ?_
    refine Z.iload_n B dX12_heads_47 (x := nI p) rfl ?_
    refine Z.istore B dX12_heads_48 (by decide) (L' := [(0, .ref 45), (1, .int (nI b)), (2, .int (nI p)), (3, .int (if p = 0 then nI 10 else nI 10 - zX σ 50 b)), (4, .int (nI 0)), (5, .int (nI 1000)), (6, .int (nI p))]) rfl ?_
    have hloop50 : ∀ k : Nat, k ≤ a - p → Z κ 0 0 σ 50 [(0, .ref 45), (1, .int (nI b)), (2, .int (nI p)), (3, .int (if p = 0 then nI 10 else nI 10 - zX σ 50 b)), (4, .int (mA (dd (zX σ 50) od) p k)), (5, .int (mQ (dd (zX σ 50) od) p k)), (6, .int (nI (p + k)))] [] := by
      refine z_loop (fun k => a - k) (fun k ih hk => ?_)
      refine Z.iload B dX12_heads_50 (x := nI (p + k)) rfl ?_
      refine Z.aload_n B dX12_heads_52 (v := .ref 45) rfl rfl ?_
      refine Z.getI (σ := σ) B fX12_84_12 dX12_heads_53 (hl.n (k := 45) (by decide)) (hl.k (k := 45) (by decide)) (by decide) (v := nI a) ha ?_
      refine Z.icmp_geN B dX12_heads_56 (tgt := 98) rfl (by omega) (by omega) (fun h56 => ?_) (fun h56 => ?_)
      · skip
        obtain rfl : (a - p) = k := by omega
        refine Z.iload_n B dX12_heads_98 (x := (if p = 0 then nI 10 else nI 10 - zX σ 50 b)) rfl ?_
        refine Z.iload B dX12_heads_99 (x := mA (dd (zX σ 50) od) p (a - p)) rfl ?_
        refine Z.imul B dX12_heads_101 ?_
        refine Z.iret B Rt dX12_heads_102 (ty := .int) rfl rfl (by decide) (by decide) ?_
        exact ⟨rfl, rfl⟩
      · skip
        refine Z.iload B dX12_heads_59 (x := nI (p + k)) rfl ?_
        refine Z.iload_n B dX12_heads_61 (x := nI p) rfl ?_
        refine Z.icmp_leN B dX12_heads_62 (tgt := 85) rfl (by omega) (by omega) (fun h62 => ?_) (fun h62 => ?_)
        · skip
          refine Z.eqL (L' := [(0, .ref 45), (1, .int (nI b)), (2, .int (nI p)), (3, .int (if p = 0 then nI 10 else nI 10 - zX σ 50 b)), (4, .int (mA (dd (zX σ 50) od) p k)), (5, .int (mP (dd (zX σ 50) od) p k)), (6, .int (nI (p + k)))]) (by rw [mQ_0 (by omega)]) ?_
          refine Z.iload B dX12_heads_85 (x := mA (dd (zX σ 50) od) p k) rfl ?_
          refine Z.iload B dX12_heads_87 (x := mP (dd (zX σ 50) od) p k) rfl ?_
          refine Z.iadd B dX12_heads_89 ?_
          refine Z.istore B dX12_heads_90 (by decide) (L' := [(0, .ref 45), (1, .int (nI b)), (2, .int (nI p)), (3, .int (if p = 0 then nI 10 else nI 10 - zX σ 50 b)), (4, .int ((mA (dd (zX σ 50) od) p k) + (mP (dd (zX σ 50) od) p k))), (5, .int (mP (dd (zX σ 50) od) p k)), (6, .int (nI (p + k)))]) rfl ?_
          refine Z.iincN B dX12_heads_92 (by decide) (a := p + k) rfl (L' := [(0, .ref 45), (1, .int (nI b)), (2, .int (nI p)), (3, .int (if p = 0 then nI 10 else nI 10 - zX σ 50 b)), (4, .int ((mA (dd (zX σ 50) od) p k) + (mP (dd (zX σ 50) od) p k))), (5, .int (mP (dd (zX σ 50) od) p k)), (6, .int (nI (p + k + 1)))]) rfl ?_
          refine Z.goto B dX12_heads_95 (tgt := 50) rfl ?_
          exact ih (k + 1) (by omega) (by omega)
        · skip
          refine Z.iload B dX12_heads_65 (x := mQ (dd (zX σ 50) od) p k) rfl ?_
          refine Z.aload_n B dX12_heads_67 (v := .ref 45) rfl rfl ?_
          refine Z.getR (σ := σ) B fX12_29_12 dX12_heads_68 (hl.n (k := 45) (by decide)) (hl.k (k := 45) (by decide)) (by decide) (j := 50) (hl.r (k := 45) (f := 9) (by decide) (by decide)) ?_
          refine Z.aload_n B dX12_heads_71 (v := .ref 45) rfl rfl ?_
          refine Z.getR (σ := σ) B fX12_32_12 dX12_heads_72 (hl.n (k := 45) (by decide)) (hl.k (k := 45) (by decide)) (by decide) (j := 51) (hl.r (k := 45) (f := 10) (by decide) (by decide)) ?_
          refine Z.iload B dX12_heads_75 (x := nI (p + k)) rfl ?_
          refine Z.iald (σ := σ) B dX12_heads_77 (n := 4) (hl.n (k := 51) (by decide)) (hl.k (k := 51) (by decide)) (hl.l (k := 51) (by decide)) (by decide) (j := p + k) rfl (by omega) (v := nI (od (p + k))) (ho (p + k) (by omega)).1 ?_
          have ho2 := (ho (p + k) (by omega)).2
          refine Z.iald (σ := σ) B dX12_heads_78 (n := 4) (hl.n (k := 50) (by decide)) (hl.k (k := 50) (by decide)) (hl.l (k := 50) (by decide)) (by decide) (j := od (p + k)) rfl (by omega) (v := (dd (zX σ 50) od) (p + k)) rfl ?_
          refine Z.imul B dX12_heads_79 ?_
          refine Z.bipush B dX12_heads_80 (v := nI 10) rfl ?_
          refine Z.idiv B dX12_heads_82 (by decide) ?_
          refine Z.eqS (st' := [.int (mP (dd (zX σ 50) od) p k)]) (by rw [mQ_s (by omega)]) ?_
          refine Z.istore B dX12_heads_83 (by decide) (L' := [(0, .ref 45), (1, .int (nI b)), (2, .int (nI p)), (3, .int (if p = 0 then nI 10 else nI 10 - zX σ 50 b)), (4, .int (mA (dd (zX σ 50) od) p k)), (5, .int (mP (dd (zX σ 50) od) p k)), (6, .int (nI (p + k)))]) rfl ?_
          refine Z.iload B dX12_heads_85 (x := mA (dd (zX σ 50) od) p k) rfl ?_
          refine Z.iload B dX12_heads_87 (x := mP (dd (zX σ 50) od) p k) rfl ?_
          refine Z.iadd B dX12_heads_89 ?_
          refine Z.istore B dX12_heads_90 (by decide) (L' := [(0, .ref 45), (1, .int (nI b)), (2, .int (nI p)), (3, .int (if p = 0 then nI 10 else nI 10 - zX σ 50 b)), (4, .int ((mA (dd (zX σ 50) od) p k) + (mP (dd (zX σ 50) od) p k))), (5, .int (mP (dd (zX σ 50) od) p k)), (6, .int (nI (p + k)))]) rfl ?_
          refine Z.iincN B dX12_heads_92 (by decide) (a := p + k) rfl (L' := [(0, .ref 45), (1, .int (nI b)), (2, .int (nI p)), (3, .int (if p = 0 then nI 10 else nI 10 - zX σ 50 b)), (4, .int ((mA (dd (zX σ 50) od) p k) + (mP (dd (zX σ 50) od) p k))), (5, .int (mP (dd (zX σ 50) od) p k)), (6, .int (nI (p + k + 1)))]) rfl ?_
          refine Z.goto B dX12_heads_95 (tgt := 50) rfl ?_
          exact ih (k + 1) (by omega) (by omega)
    exact hloop50 0 (Nat.zero_le _)

theorem t_X12_draw {σ : zSt} (hl : Lay σ) {n : Nat} (h0 : 0 < n) (h10 : n ≤ 10) : Dt mX12_draw [.ref 45, .int (nI n)] σ (some (.int (dv (nx (zX σ 45 3)) n))) (zuX σ 45 (upd (zX σ 45) 3 (nx (zX σ 45 3)))) := by
  refine Dt.of (by decide) (Nat.le_of_ble_eq_true rfl) fun κ B Rt => ?_
  show Z κ 0 0 σ 0 [(0, .ref 45), (1, .int (nI n))] []
  refine Z.aload_n B dX12_draw_0 (v := .ref 45) rfl rfl ?_
  refine Z.aload_n B dX12_draw_1 (v := .ref 45) rfl rfl ?_
  refine Z.getI (σ := σ) B fX12_7_12 dX12_draw_2 (hl.n (k := 45) (by decide)) (hl.k (k := 45) (by decide)) (by decide) (v := (zX σ 45 3)) rfl ?_
  refine Z.ldc B dX12_draw_5 (v := (1103515245 : Int32)) (zT_at 1498 (by decide +kernel) rfl) ?_
  refine Z.imul B dX12_draw_7 ?_
  refine Z.sipush B dX12_draw_8 (v := nI 12345) rfl ?_
  refine Z.iadd B dX12_draw_11 ?_
  refine Z.putI (σ := σ) B fX12_7_12 (ty := .int) ⟨_, _, _, rfl, rfl, by decide +kernel⟩ dX12_draw_12 (hl.n (k := 45) (by decide)) (hl.k (k := 45) (by decide)) (by decide) rfl rfl (τ := (zuX σ 45 (upd (zX σ 45) 3 (((zX σ 45 3) * (1103515245 : Int32)) + (nI 12345))))) rfl ?_
  refine Z.aload_n B dX12_draw_15 (v := .ref 45) rfl rfl ?_
  refine Z.getI (σ := (zuX σ 45 (upd (zX σ 45) 3 (((zX σ 45 3) * (1103515245 : Int32)) + (nI 12345))))) B fX12_7_12 dX12_draw_16 (hl.n (k := 45) (by decide)) (hl.k (k := 45) (by decide)) (by decide) (v := (nx (zX σ 45 3))) (by simp only [zX_self, pk_us]; rfl) ?_
  refine Z.bipush B dX12_draw_19 (v := nI 16) rfl ?_
  refine Z.iushr B dX12_draw_21 ?_
  refine Z.iload_n B dX12_draw_22 (x := nI n) rfl ?_
  refine Z.irem B dX12_draw_23 (nI_ne0 h0 (by omega)) ?_
  refine Z.iret B Rt dX12_draw_24 (ty := .int) rfl rfl (by decide) (by decide) ?_
  exact ⟨rfl, rfl⟩

theorem t_X12_clear {σ : zSt} {n a y : Nat} (H : zMd σ n a y)  : Dt mX12_clear [.ref 45] σ (some (.int (nI n))) (zuX σ 45 (upd (zX σ 45) 0 (nI 0))) := by
  obtain ⟨hl, hn, hn8, ha, ha4, hy, hy8⟩ := id H
  refine Dt.of (by decide) (Nat.le_of_ble_eq_true rfl) fun κ B Rt => ?_
  show Z κ 0 0 σ 0 [(0, .ref 45)] []
  refine Z.aload_n B dX12_clear_0 (v := .ref 45) rfl rfl ?_
  refine Z.getI (σ := σ) B fX12_81_12 dX12_clear_1 (hl.n (k := 45) (by decide)) (hl.k (k := 45) (by decide)) (by decide) (v := nI n) hn ?_
  refine Z.istore_n B dX12_clear_4 (by decide) (L' := [(0, .ref 45), (1, .int (nI n))]) rfl ?_
  refine Z.aload_n B dX12_clear_5 (v := .ref 45) rfl rfl ?_
  refine Z.iconst B dX12_clear_6 (v := nI 0) rfl ?_
  refine Z.putI (σ := σ) B fX12_81_12 (ty := .int) ⟨_, _, _, rfl, rfl, by decide +kernel⟩ dX12_clear_7 (hl.n (k := 45) (by decide)) (hl.k (k := 45) (by decide)) (by decide) rfl rfl (τ := (zuX σ 45 (upd (zX σ 45) 0 (nI 0)))) rfl ?_
  refine Z.iload_n B dX12_clear_10 (x := nI n) rfl ?_
  refine Z.iret B Rt dX12_clear_11 (ty := .int) rfl rfl (by decide) (by decide) ?_
  exact ⟨rfl, rfl⟩

theorem t_X12_seed {σ : zSt} (hl : Lay σ) {v : Int32} : Dt mX12_seed [.ref 45, .int v] σ (some (.int (zX σ 45 3))) (zuX σ 45 (upd (zX σ 45) 3 v)) := by
  refine Dt.of (by decide) (Nat.le_of_ble_eq_true rfl) fun κ B Rt => ?_
  show Z κ 0 0 σ 0 [(0, .ref 45), (1, .int v)] []
  refine Z.aload_n B dX12_seed_0 (v := .ref 45) rfl rfl ?_
  refine Z.getI (σ := σ) B fX12_7_12 dX12_seed_1 (hl.n (k := 45) (by decide)) (hl.k (k := 45) (by decide)) (by decide) (v := (zX σ 45 3)) rfl ?_
  refine Z.istore_n B dX12_seed_4 (by decide) (L' := [(0, .ref 45), (1, .int v), (2, .int (zX σ 45 3))]) rfl ?_
  refine Z.aload_n B dX12_seed_5 (v := .ref 45) rfl rfl ?_
  refine Z.iload_n B dX12_seed_6 (x := v) rfl ?_
  refine Z.putI (σ := σ) B fX12_7_12 (ty := .int) ⟨_, _, _, rfl, rfl, by decide +kernel⟩ dX12_seed_7 (hl.n (k := 45) (by decide)) (hl.k (k := 45) (by decide)) (by decide) rfl rfl (τ := (zuX σ 45 (upd (zX σ 45) 3 v))) rfl ?_
  refine Z.iload_n B dX12_seed_10 (x := (zX σ 45 3)) rfl ?_
  refine Z.iret B Rt dX12_seed_11 (ty := .int) rfl rfl (by decide) (by decide) ?_
  exact ⟨rfl, rfl⟩

theorem t_X12_fault {σ : zSt} (hl : Lay σ) : Dt mX12_fault [.ref 45] σ (some (.int (zX σ 45 4))) σ := by
  refine Dt.of (by decide) (Nat.le_of_ble_eq_true rfl) fun κ B Rt => ?_
  show Z κ 0 0 σ 0 [(0, .ref 45)] []
  refine Z.aload_n B dX12_fault_0 (v := .ref 45) rfl rfl ?_
  refine Z.getI (σ := σ) B fX12_13_12 dX12_fault_1 (hl.n (k := 45) (by decide)) (hl.k (k := 45) (by decide)) (by decide) (v := (zX σ 45 4)) rfl ?_
  refine Z.iret B Rt dX12_fault_4 (ty := .int) rfl rfl (by decide) (by decide) ?_
  exact ⟨rfl, rfl⟩

theorem t_X12_body {σ : zSt} (hl : Lay σ) {r : Nat} (hr : zX σ 45 31 = nI r) (hr20 : r < 20) {b : Int32} : Dt mX12_body [.ref 45, .int b] σ (none) (zuX (zuX σ 65 (upd (zX σ 65) r b)) 45 (upd (zX σ 45) 31 (nI (r + 1)))) := by
  refine Dt.of (by decide) (Nat.le_of_ble_eq_true rfl) fun κ B Rt => ?_
  show Z κ 0 0 σ 0 [(0, .ref 45), (1, .int b)] []
  refine Z.aload_n B dX12_body_0 (v := .ref 45) rfl rfl ?_
  refine Z.getI (σ := σ) B fX12_226_12 dX12_body_1 (hl.n (k := 45) (by decide)) (hl.k (k := 45) (by decide)) (by decide) (v := nI r) hr ?_
  refine Z.bipush B dX12_body_4 (v := nI 20) rfl ?_
  refine Z.icmp_geN B dX12_body_6 (tgt := 19) rfl (by omega) (by omega) (fun h6 => by exfalso; first | omega | contradiction | simp_all) (fun h6 => ?_)
  refine Z.aload_n B dX12_body_9 (v := .ref 45) rfl rfl ?_
  refine Z.getR (σ := σ) B fX12_78_12 dX12_body_10 (hl.n (k := 45) (by decide)) (hl.k (k := 45) (by decide)) (by decide) (j := 65) (hl.r (k := 45) (f := 30) (by decide) (by decide)) ?_
  refine Z.aload_n B dX12_body_13 (v := .ref 45) rfl rfl ?_
  refine Z.getI (σ := σ) B fX12_226_12 dX12_body_14 (hl.n (k := 45) (by decide)) (hl.k (k := 45) (by decide)) (by decide) (v := nI r) hr ?_
  refine Z.iload_n B dX12_body_17 (x := b) rfl ?_
  refine Z.iast (σ := σ) B dX12_body_18 (n := 20) (hl.n (k := 65) (by decide)) (hl.k (k := 65) (by decide)) (hl.l (k := 65) (by decide)) (by decide) (j := r) rfl (by omega) (τ := (zuX σ 65 (upd (zX σ 65) r b))) rfl ?_
  refine Z.aload_n B dX12_body_19 (v := .ref 45) rfl rfl ?_
  refine Z.dup B dX12_body_20 rfl ?_
  refine Z.getI (σ := (zuX σ 65 (upd (zX σ 65) r b))) B fX12_226_12 dX12_body_21 (hl.n (k := 45) (by decide)) (hl.k (k := 45) (by decide)) (by decide) (v := nI r) hr ?_
  refine Z.iconst B dX12_body_24 (v := nI 1) rfl ?_
  refine Z.iaddN B dX12_body_25 (a := r) (b := 1) ?_
  refine Z.putI (σ := (zuX σ 65 (upd (zX σ 65) r b))) B fX12_226_12 (ty := .int) ⟨_, _, _, rfl, rfl, by decide +kernel⟩ dX12_body_26 (hl.n (k := 45) (by decide)) (hl.k (k := 45) (by decide)) (by decide) rfl rfl (τ := (zuX (zuX σ 65 (upd (zX σ 65) r b)) 45 (upd (zX σ 45) 31 (nI (r + 1))))) rfl ?_
  refine Z.vret B Rt dX12_body_29 rfl (by decide) (by decide) ?_
  exact ⟨rfl, rfl⟩

theorem t_X12_feels_0 {σ : zSt} (hl : Lay σ) {w pa r : Nat} {x : Int32} (hw : zMy σ w 0 pa) (hr : zX σ 45 31 = nI r) (hr20 : r + 1 ≤ 20) : Dt mX12_feels [.ref 45, .int (nI w), .int x] σ (some (.int (x + nI w))) (zuX (zuX σ 65 (upd (zX σ 65) (r) (nI 10))) 45 (upd (zX σ 45) 31 (nI (r + 1)))) := by
  refine Dt.of (by decide) (Nat.le_of_ble_eq_true rfl) fun κ B Rt => ?_
  show Z κ 0 0 σ 0 [(0, .ref 45), (1, .int (nI w)), (2, .int x)] []
  have hw2 := hw
  obtain ⟨hk, hp, hkd, hpa, hw8⟩ := hw
  refine Z.aload_n B dX12_feels_0 (v := .ref 45) rfl rfl ?_
  refine Z.getR (σ := σ) B fX12_35_12 dX12_feels_1 (hl.n (k := 45) (by decide)) (hl.k (k := 45) (by decide)) (by decide) (j := 52) (hl.r (k := 45) (f := 11) (by decide) (by decide)) ?_
  refine Z.iload_n B dX12_feels_4 (x := nI w) rfl ?_
  refine Z.iald (σ := σ) B dX12_feels_5 (n := 8) (hl.n (k := 52) (by decide)) (hl.k (k := 52) (by decide)) (hl.l (k := 52) (by decide)) (by decide) (j := w) rfl (by omega) (v := nI 0) hk ?_
  refine Z.istore_n B dX12_feels_6 (by decide) (L' := [(0, .ref 45), (1, .int (nI w)), (2, .int x), (3, .int (nI 0))]) rfl ?_
  refine Z.iload_n B dX12_feels_7 (x := nI 0) rfl ?_
  refine Z.iconst B dX12_feels_8 (v := nI 1) rfl ?_
  refine Z.icmp_eqN B dX12_feels_9 (tgt := 17) rfl (by omega) (by omega) (fun h9 => by exfalso; first | omega | contradiction | simp_all) (fun h9 => ?_)
  refine Z.iload_n B dX12_feels_12 (x := nI 0) rfl ?_
  refine Z.iconst B dX12_feels_13 (v := nI 2) rfl ?_
  refine Z.icmp_neN B dX12_feels_14 (tgt := 21) rfl (by omega) (by omega) (fun h14 => ?_) (fun h14 => by exfalso; first | omega | contradiction | simp_all)
  refine Z.iconst B dX12_feels_21 (v := nI 0) rfl ?_
  refine Z.istore B dX12_feels_22 (by decide) (L' := [(0, .ref 45), (1, .int (nI w)), (2, .int x), (3, .int (nI 0)), (4, .int (nI 0))]) rfl ?_
  refine Z.iload_n B dX12_feels_24 (x := nI 0) rfl ?_
  refine Z.iconst B dX12_feels_25 (v := nI 5) rfl ?_
  refine Z.icmp_eqN B dX12_feels_26 (tgt := 35) rfl (by omega) (by omega) (fun h26 => by exfalso; first | omega | contradiction | simp_all) (fun h26 => ?_)
  refine Z.iload_n B dX12_feels_29 (x := nI 0) rfl ?_
  refine Z.bipush B dX12_feels_30 (v := nI 6) rfl ?_
  refine Z.icmp_neN B dX12_feels_32 (tgt := 39) rfl (by omega) (by omega) (fun h32 => ?_) (fun h32 => by exfalso; first | omega | contradiction | simp_all)
  refine Z.iconst B dX12_feels_39 (v := nI 0) rfl ?_
  refine Z.istore B dX12_feels_40 (by decide) (L' := [(0, .ref 45), (1, .int (nI w)), (2, .int x), (3, .int (nI 0)), (4, .int (nI 0)), (5, .int (nI 0))]) rfl ?_
  refine Z.iload B dX12_feels_42 (x := nI 0) rfl ?_
  refine Z.if_eqN B dX12_feels_44 (tgt := 53) rfl (by omega) (fun h44 => ?_) (fun h44 => by exfalso; first | omega | contradiction | simp_all)
  refine Z.iload B dX12_feels_53 (x := nI 0) rfl ?_
  refine Z.if_eqN B dX12_feels_55 (tgt := 64) rfl (by omega) (fun h55 => ?_) (fun h55 => by exfalso; first | omega | contradiction | simp_all)
  refine Z.aload_n B dX12_feels_64 (v := .ref 45) rfl rfl ?_
  refine Z.bipush B dX12_feels_65 (v := nI 10) rfl ?_
  refine Z.callVN (σ := σ) B (M' := mX12_body) (as := [.int (nI 10)]) (st := []) dX12_feels_67 wX12_body iX12_body sX12_body kX12_229 (hl.n (k := 45) (by decide)) (hl.k (k := 45) (by decide)) (by decide) rfl rfl (t_X12_body (σ := σ) hl (r := r) hr (by omega) (b := nI 10)) rfl rfl (by decide) (by decide) (Nat.le_of_ble_eq_true rfl) (by decide) (by decide) ?_
  refine Z.eqσ (τ := (zuX (zuX σ 65 (upd (zX σ 65) (r) (nI 10))) 45 (upd (zX σ 45) 31 (nI (r + 1))))) rfl ?_
  refine Z.iload_n B dX12_feels_70 (x := x) rfl ?_
  refine Z.iload_n B dX12_feels_71 (x := nI w) rfl ?_
  refine Z.iadd B dX12_feels_72 ?_
  refine Z.istore B dX12_feels_73 (by decide) (L' := [(0, .ref 45), (1, .int (nI w)), (2, .int x), (3, .int (nI 0)), (4, .int (nI 0)), (5, .int (nI 0)), (6, .int (x + (nI w)))]) rfl ?_
  refine Z.iload B dX12_feels_75 (x := nI 0) rfl ?_
  refine Z.if_eqN B dX12_feels_77 (tgt := 92) rfl (by omega) (fun h77 => ?_) (fun h77 => by exfalso; first | omega | contradiction | simp_all)
  refine Z.iload B dX12_feels_92 (x := nI 0) rfl ?_
  refine Z.if_eqN B dX12_feels_94 (tgt := 104) rfl (by omega) (fun h94 => ?_) (fun h94 => by exfalso; first | omega | contradiction | simp_all)
  refine Z.iload B dX12_feels_104 (x := (x + (nI w))) rfl ?_
  refine Z.iret B Rt dX12_feels_106 (ty := .int) rfl rfl (by decide) (by decide) ?_
  exact ⟨rfl, rfl⟩

theorem t_X12_feels_1 {σ : zSt} (hl : Lay σ) {w pa r : Nat} {x : Int32} (hw : zMy σ w 1 pa) (hr : zX σ 45 31 = nI r) (hr20 : r + 2 ≤ 20) : Dt mX12_feels [.ref 45, .int (nI w), .int x] σ (some (.int (x + nI w + nI pa))) (zuX (zuX σ 65 (upd (upd (zX σ 65) (r) (nI 20)) (r + 1) (nI 10))) 45 (upd (zX σ 45) 31 (nI (r + 2)))) := by
  refine Dt.of (by decide) (Nat.le_of_ble_eq_true rfl) fun κ B Rt => ?_
  show Z κ 0 0 σ 0 [(0, .ref 45), (1, .int (nI w)), (2, .int x)] []
  have hw2 := hw
  obtain ⟨hk, hp, hkd, hpa, hw8⟩ := hw
  refine Z.aload_n B dX12_feels_0 (v := .ref 45) rfl rfl ?_
  refine Z.getR (σ := σ) B fX12_35_12 dX12_feels_1 (hl.n (k := 45) (by decide)) (hl.k (k := 45) (by decide)) (by decide) (j := 52) (hl.r (k := 45) (f := 11) (by decide) (by decide)) ?_
  refine Z.iload_n B dX12_feels_4 (x := nI w) rfl ?_
  refine Z.iald (σ := σ) B dX12_feels_5 (n := 8) (hl.n (k := 52) (by decide)) (hl.k (k := 52) (by decide)) (hl.l (k := 52) (by decide)) (by decide) (j := w) rfl (by omega) (v := nI 1) hk ?_
  refine Z.istore_n B dX12_feels_6 (by decide) (L' := [(0, .ref 45), (1, .int (nI w)), (2, .int x), (3, .int (nI 1))]) rfl ?_
  refine Z.iload_n B dX12_feels_7 (x := nI 1) rfl ?_
  refine Z.iconst B dX12_feels_8 (v := nI 1) rfl ?_
  refine Z.icmp_eqN B dX12_feels_9 (tgt := 17) rfl (by omega) (by omega) (fun h9 => ?_) (fun h9 => by exfalso; first | omega | contradiction | simp_all)
  refine Z.iconst B dX12_feels_17 (v := nI 1) rfl ?_
  refine Z.goto B dX12_feels_18 (tgt := 22) rfl ?_
  refine Z.istore B dX12_feels_22 (by decide) (L' := [(0, .ref 45), (1, .int (nI w)), (2, .int x), (3, .int (nI 1)), (4, .int (nI 1))]) rfl ?_
  refine Z.iload_n B dX12_feels_24 (x := nI 1) rfl ?_
  refine Z.iconst B dX12_feels_25 (v := nI 5) rfl ?_
  refine Z.icmp_eqN B dX12_feels_26 (tgt := 35) rfl (by omega) (by omega) (fun h26 => by exfalso; first | omega | contradiction | simp_all) (fun h26 => ?_)
  refine Z.iload_n B dX12_feels_29 (x := nI 1) rfl ?_
  refine Z.bipush B dX12_feels_30 (v := nI 6) rfl ?_
  refine Z.icmp_neN B dX12_feels_32 (tgt := 39) rfl (by omega) (by omega) (fun h32 => ?_) (fun h32 => by exfalso; first | omega | contradiction | simp_all)
  refine Z.iconst B dX12_feels_39 (v := nI 0) rfl ?_
  refine Z.istore B dX12_feels_40 (by decide) (L' := [(0, .ref 45), (1, .int (nI w)), (2, .int x), (3, .int (nI 1)), (4, .int (nI 1)), (5, .int (nI 0))]) rfl ?_
  refine Z.iload B dX12_feels_42 (x := nI 1) rfl ?_
  refine Z.if_eqN B dX12_feels_44 (tgt := 53) rfl (by omega) (fun h44 => by exfalso; first | omega | contradiction | simp_all) (fun h44 => ?_)
  refine Z.aload_n B dX12_feels_47 (v := .ref 45) rfl rfl ?_
  refine Z.bipush B dX12_feels_48 (v := nI 20) rfl ?_
  refine Z.callVN (σ := σ) B (M' := mX12_body) (as := [.int (nI 20)]) (st := []) dX12_feels_50 wX12_body iX12_body sX12_body kX12_229 (hl.n (k := 45) (by decide)) (hl.k (k := 45) (by decide)) (by decide) rfl rfl (t_X12_body (σ := σ) hl (r := r) hr (by omega) (b := nI 20)) rfl rfl (by decide) (by decide) (Nat.le_of_ble_eq_true rfl) (by decide) (by decide) ?_
  refine Z.eqσ (τ := (zuX (zuX σ 65 (upd (zX σ 65) (r) (nI 20))) 45 (upd (zX σ 45) 31 (nI (r + 1))))) rfl ?_
  refine Z.iload B dX12_feels_53 (x := nI 0) rfl ?_
  refine Z.if_eqN B dX12_feels_55 (tgt := 64) rfl (by omega) (fun h55 => ?_) (fun h55 => by exfalso; first | omega | contradiction | simp_all)
  refine Z.aload_n B dX12_feels_64 (v := .ref 45) rfl rfl ?_
  refine Z.bipush B dX12_feels_65 (v := nI 10) rfl ?_
  refine Z.callVN (σ := (zuX (zuX σ 65 (upd (zX σ 65) (r) (nI 20))) 45 (upd (zX σ 45) 31 (nI (r + 1))))) B (M' := mX12_body) (as := [.int (nI 10)]) (st := []) dX12_feels_67 wX12_body iX12_body sX12_body kX12_229 (hl.n (k := 45) (by decide)) (hl.k (k := 45) (by decide)) (by decide) rfl rfl (t_X12_body (σ := (zuX (zuX σ 65 (upd (zX σ 65) (r) (nI 20))) 45 (upd (zX σ 45) 31 (nI (r + 1))))) hl (r := r + 1) rfl (by omega) (b := nI 10)) rfl rfl (by decide) (by decide) (Nat.le_of_ble_eq_true rfl) (by decide) (by decide) ?_
  refine Z.eqσ (τ := (zuX (zuX σ 65 (upd (upd (zX σ 65) (r) (nI 20)) (r + 1) (nI 10))) 45 (upd (zX σ 45) 31 (nI (r + 2))))) (by rw [show zX (zuX (zuX σ 65 (upd (zX σ 65) (r) (nI 20))) 45 (upd (zX σ 45) 31 (nI (r + 1)))) 65 = upd (zX σ 65) (r) (nI 20) from rfl, show zX (zuX (zuX σ 65 (upd (zX σ 65) (r) (nI 20))) 45 (upd (zX σ 45) 31 (nI (r + 1)))) 45 = upd (zX σ 45) 31 (nI (r + 1)) from rfl, upd_upd, zuX_sw (by decide), zuX_sw (by decide)]; try rfl) ?_
  refine Z.iload_n B dX12_feels_70 (x := x) rfl ?_
  refine Z.iload_n B dX12_feels_71 (x := nI w) rfl ?_
  refine Z.iadd B dX12_feels_72 ?_
  refine Z.istore B dX12_feels_73 (by decide) (L' := [(0, .ref 45), (1, .int (nI w)), (2, .int x), (3, .int (nI 1)), (4, .int (nI 1)), (5, .int (nI 0)), (6, .int (x + (nI w)))]) rfl ?_
  refine Z.iload B dX12_feels_75 (x := nI 1) rfl ?_
  refine Z.if_eqN B dX12_feels_77 (tgt := 92) rfl (by omega) (fun h77 => by exfalso; first | omega | contradiction | simp_all) (fun h77 => ?_)
  refine Z.iload B dX12_feels_80 (x := (x + (nI w))) rfl ?_
  refine Z.aload_n B dX12_feels_82 (v := .ref 45) rfl rfl ?_
  refine Z.getR (σ := (zuX (zuX σ 65 (upd (upd (zX σ 65) (r) (nI 20)) (r + 1) (nI 10))) 45 (upd (zX σ 45) 31 (nI (r + 2))))) B fX12_38_12 dX12_feels_83 (hl.n (k := 45) (by decide)) (hl.k (k := 45) (by decide)) (by decide) (j := 53) (hl.r (k := 45) (f := 12) (by decide) (by decide)) ?_
  refine Z.iload_n B dX12_feels_86 (x := nI w) rfl ?_
  refine Z.iald (σ := (zuX (zuX σ 65 (upd (upd (zX σ 65) (r) (nI 20)) (r + 1) (nI 10))) 45 (upd (zX σ 45) 31 (nI (r + 2))))) B dX12_feels_87 (n := 8) (hl.n (k := 53) (by decide)) (hl.k (k := 53) (by decide)) (hl.l (k := 53) (by decide)) (by decide) (j := w) rfl (by omega) (v := nI pa) hp ?_
  refine Z.iadd B dX12_feels_88 ?_
  refine Z.goto B dX12_feels_89 (tgt := 106) rfl ?_
  refine Z.iret B Rt dX12_feels_106 (ty := .int) rfl rfl (by decide) (by decide) ?_
  exact ⟨rfl, rfl⟩

theorem t_X12_feels_2 {σ : zSt} (hl : Lay σ) {w pa r : Nat} {x : Int32} (hw : zMy σ w 2 pa) (hr : zX σ 45 31 = nI r) (hr20 : r + 2 ≤ 20) : Dt mX12_feels [.ref 45, .int (nI w), .int x] σ (some (.int (x + nI w + nI pa))) (zuX (zuX σ 65 (upd (upd (zX σ 65) (r) (nI 20)) (r + 1) (nI 10))) 45 (upd (zX σ 45) 31 (nI (r + 2)))) := by
  refine Dt.of (by decide) (Nat.le_of_ble_eq_true rfl) fun κ B Rt => ?_
  show Z κ 0 0 σ 0 [(0, .ref 45), (1, .int (nI w)), (2, .int x)] []
  have hw2 := hw
  obtain ⟨hk, hp, hkd, hpa, hw8⟩ := hw
  refine Z.aload_n B dX12_feels_0 (v := .ref 45) rfl rfl ?_
  refine Z.getR (σ := σ) B fX12_35_12 dX12_feels_1 (hl.n (k := 45) (by decide)) (hl.k (k := 45) (by decide)) (by decide) (j := 52) (hl.r (k := 45) (f := 11) (by decide) (by decide)) ?_
  refine Z.iload_n B dX12_feels_4 (x := nI w) rfl ?_
  refine Z.iald (σ := σ) B dX12_feels_5 (n := 8) (hl.n (k := 52) (by decide)) (hl.k (k := 52) (by decide)) (hl.l (k := 52) (by decide)) (by decide) (j := w) rfl (by omega) (v := nI 2) hk ?_
  refine Z.istore_n B dX12_feels_6 (by decide) (L' := [(0, .ref 45), (1, .int (nI w)), (2, .int x), (3, .int (nI 2))]) rfl ?_
  refine Z.iload_n B dX12_feels_7 (x := nI 2) rfl ?_
  refine Z.iconst B dX12_feels_8 (v := nI 1) rfl ?_
  refine Z.icmp_eqN B dX12_feels_9 (tgt := 17) rfl (by omega) (by omega) (fun h9 => by exfalso; first | omega | contradiction | simp_all) (fun h9 => ?_)
  refine Z.iload_n B dX12_feels_12 (x := nI 2) rfl ?_
  refine Z.iconst B dX12_feels_13 (v := nI 2) rfl ?_
  refine Z.icmp_neN B dX12_feels_14 (tgt := 21) rfl (by omega) (by omega) (fun h14 => by exfalso; first | omega | contradiction | simp_all) (fun h14 => ?_)
  refine Z.iconst B dX12_feels_17 (v := nI 1) rfl ?_
  refine Z.goto B dX12_feels_18 (tgt := 22) rfl ?_
  refine Z.istore B dX12_feels_22 (by decide) (L' := [(0, .ref 45), (1, .int (nI w)), (2, .int x), (3, .int (nI 2)), (4, .int (nI 1))]) rfl ?_
  refine Z.iload_n B dX12_feels_24 (x := nI 2) rfl ?_
  refine Z.iconst B dX12_feels_25 (v := nI 5) rfl ?_
  refine Z.icmp_eqN B dX12_feels_26 (tgt := 35) rfl (by omega) (by omega) (fun h26 => by exfalso; first | omega | contradiction | simp_all) (fun h26 => ?_)
  refine Z.iload_n B dX12_feels_29 (x := nI 2) rfl ?_
  refine Z.bipush B dX12_feels_30 (v := nI 6) rfl ?_
  refine Z.icmp_neN B dX12_feels_32 (tgt := 39) rfl (by omega) (by omega) (fun h32 => ?_) (fun h32 => by exfalso; first | omega | contradiction | simp_all)
  refine Z.iconst B dX12_feels_39 (v := nI 0) rfl ?_
  refine Z.istore B dX12_feels_40 (by decide) (L' := [(0, .ref 45), (1, .int (nI w)), (2, .int x), (3, .int (nI 2)), (4, .int (nI 1)), (5, .int (nI 0))]) rfl ?_
  refine Z.iload B dX12_feels_42 (x := nI 1) rfl ?_
  refine Z.if_eqN B dX12_feels_44 (tgt := 53) rfl (by omega) (fun h44 => by exfalso; first | omega | contradiction | simp_all) (fun h44 => ?_)
  refine Z.aload_n B dX12_feels_47 (v := .ref 45) rfl rfl ?_
  refine Z.bipush B dX12_feels_48 (v := nI 20) rfl ?_
  refine Z.callVN (σ := σ) B (M' := mX12_body) (as := [.int (nI 20)]) (st := []) dX12_feels_50 wX12_body iX12_body sX12_body kX12_229 (hl.n (k := 45) (by decide)) (hl.k (k := 45) (by decide)) (by decide) rfl rfl (t_X12_body (σ := σ) hl (r := r) hr (by omega) (b := nI 20)) rfl rfl (by decide) (by decide) (Nat.le_of_ble_eq_true rfl) (by decide) (by decide) ?_
  refine Z.eqσ (τ := (zuX (zuX σ 65 (upd (zX σ 65) (r) (nI 20))) 45 (upd (zX σ 45) 31 (nI (r + 1))))) rfl ?_
  refine Z.iload B dX12_feels_53 (x := nI 0) rfl ?_
  refine Z.if_eqN B dX12_feels_55 (tgt := 64) rfl (by omega) (fun h55 => ?_) (fun h55 => by exfalso; first | omega | contradiction | simp_all)
  refine Z.aload_n B dX12_feels_64 (v := .ref 45) rfl rfl ?_
  refine Z.bipush B dX12_feels_65 (v := nI 10) rfl ?_
  refine Z.callVN (σ := (zuX (zuX σ 65 (upd (zX σ 65) (r) (nI 20))) 45 (upd (zX σ 45) 31 (nI (r + 1))))) B (M' := mX12_body) (as := [.int (nI 10)]) (st := []) dX12_feels_67 wX12_body iX12_body sX12_body kX12_229 (hl.n (k := 45) (by decide)) (hl.k (k := 45) (by decide)) (by decide) rfl rfl (t_X12_body (σ := (zuX (zuX σ 65 (upd (zX σ 65) (r) (nI 20))) 45 (upd (zX σ 45) 31 (nI (r + 1))))) hl (r := r + 1) rfl (by omega) (b := nI 10)) rfl rfl (by decide) (by decide) (Nat.le_of_ble_eq_true rfl) (by decide) (by decide) ?_
  refine Z.eqσ (τ := (zuX (zuX σ 65 (upd (upd (zX σ 65) (r) (nI 20)) (r + 1) (nI 10))) 45 (upd (zX σ 45) 31 (nI (r + 2))))) (by rw [show zX (zuX (zuX σ 65 (upd (zX σ 65) (r) (nI 20))) 45 (upd (zX σ 45) 31 (nI (r + 1)))) 65 = upd (zX σ 65) (r) (nI 20) from rfl, show zX (zuX (zuX σ 65 (upd (zX σ 65) (r) (nI 20))) 45 (upd (zX σ 45) 31 (nI (r + 1)))) 45 = upd (zX σ 45) 31 (nI (r + 1)) from rfl, upd_upd, zuX_sw (by decide), zuX_sw (by decide)]; try rfl) ?_
  refine Z.iload_n B dX12_feels_70 (x := x) rfl ?_
  refine Z.iload_n B dX12_feels_71 (x := nI w) rfl ?_
  refine Z.iadd B dX12_feels_72 ?_
  refine Z.istore B dX12_feels_73 (by decide) (L' := [(0, .ref 45), (1, .int (nI w)), (2, .int x), (3, .int (nI 2)), (4, .int (nI 1)), (5, .int (nI 0)), (6, .int (x + (nI w)))]) rfl ?_
  refine Z.iload B dX12_feels_75 (x := nI 1) rfl ?_
  refine Z.if_eqN B dX12_feels_77 (tgt := 92) rfl (by omega) (fun h77 => by exfalso; first | omega | contradiction | simp_all) (fun h77 => ?_)
  refine Z.iload B dX12_feels_80 (x := (x + (nI w))) rfl ?_
  refine Z.aload_n B dX12_feels_82 (v := .ref 45) rfl rfl ?_
  refine Z.getR (σ := (zuX (zuX σ 65 (upd (upd (zX σ 65) (r) (nI 20)) (r + 1) (nI 10))) 45 (upd (zX σ 45) 31 (nI (r + 2))))) B fX12_38_12 dX12_feels_83 (hl.n (k := 45) (by decide)) (hl.k (k := 45) (by decide)) (by decide) (j := 53) (hl.r (k := 45) (f := 12) (by decide) (by decide)) ?_
  refine Z.iload_n B dX12_feels_86 (x := nI w) rfl ?_
  refine Z.iald (σ := (zuX (zuX σ 65 (upd (upd (zX σ 65) (r) (nI 20)) (r + 1) (nI 10))) 45 (upd (zX σ 45) 31 (nI (r + 2))))) B dX12_feels_87 (n := 8) (hl.n (k := 53) (by decide)) (hl.k (k := 53) (by decide)) (hl.l (k := 53) (by decide)) (by decide) (j := w) rfl (by omega) (v := nI pa) hp ?_
  refine Z.iadd B dX12_feels_88 ?_
  refine Z.goto B dX12_feels_89 (tgt := 106) rfl ?_
  refine Z.iret B Rt dX12_feels_106 (ty := .int) rfl rfl (by decide) (by decide) ?_
  exact ⟨rfl, rfl⟩

theorem t_X12_feels_3 {σ : zSt} (hl : Lay σ) {w pa r : Nat} {x : Int32} (hw : zMy σ w 3 pa) (hr : zX σ 45 31 = nI r) (hr20 : r + 1 ≤ 20) : Dt mX12_feels [.ref 45, .int (nI w), .int x] σ (some (.int (x + nI w))) (zuX (zuX σ 65 (upd (zX σ 65) (r) (nI 10))) 45 (upd (zX σ 45) 31 (nI (r + 1)))) := by
  refine Dt.of (by decide) (Nat.le_of_ble_eq_true rfl) fun κ B Rt => ?_
  show Z κ 0 0 σ 0 [(0, .ref 45), (1, .int (nI w)), (2, .int x)] []
  have hw2 := hw
  obtain ⟨hk, hp, hkd, hpa, hw8⟩ := hw
  refine Z.aload_n B dX12_feels_0 (v := .ref 45) rfl rfl ?_
  refine Z.getR (σ := σ) B fX12_35_12 dX12_feels_1 (hl.n (k := 45) (by decide)) (hl.k (k := 45) (by decide)) (by decide) (j := 52) (hl.r (k := 45) (f := 11) (by decide) (by decide)) ?_
  refine Z.iload_n B dX12_feels_4 (x := nI w) rfl ?_
  refine Z.iald (σ := σ) B dX12_feels_5 (n := 8) (hl.n (k := 52) (by decide)) (hl.k (k := 52) (by decide)) (hl.l (k := 52) (by decide)) (by decide) (j := w) rfl (by omega) (v := nI 3) hk ?_
  refine Z.istore_n B dX12_feels_6 (by decide) (L' := [(0, .ref 45), (1, .int (nI w)), (2, .int x), (3, .int (nI 3))]) rfl ?_
  refine Z.iload_n B dX12_feels_7 (x := nI 3) rfl ?_
  refine Z.iconst B dX12_feels_8 (v := nI 1) rfl ?_
  refine Z.icmp_eqN B dX12_feels_9 (tgt := 17) rfl (by omega) (by omega) (fun h9 => by exfalso; first | omega | contradiction | simp_all) (fun h9 => ?_)
  refine Z.iload_n B dX12_feels_12 (x := nI 3) rfl ?_
  refine Z.iconst B dX12_feels_13 (v := nI 2) rfl ?_
  refine Z.icmp_neN B dX12_feels_14 (tgt := 21) rfl (by omega) (by omega) (fun h14 => ?_) (fun h14 => by exfalso; first | omega | contradiction | simp_all)
  refine Z.iconst B dX12_feels_21 (v := nI 0) rfl ?_
  refine Z.istore B dX12_feels_22 (by decide) (L' := [(0, .ref 45), (1, .int (nI w)), (2, .int x), (3, .int (nI 3)), (4, .int (nI 0))]) rfl ?_
  refine Z.iload_n B dX12_feels_24 (x := nI 3) rfl ?_
  refine Z.iconst B dX12_feels_25 (v := nI 5) rfl ?_
  refine Z.icmp_eqN B dX12_feels_26 (tgt := 35) rfl (by omega) (by omega) (fun h26 => by exfalso; first | omega | contradiction | simp_all) (fun h26 => ?_)
  refine Z.iload_n B dX12_feels_29 (x := nI 3) rfl ?_
  refine Z.bipush B dX12_feels_30 (v := nI 6) rfl ?_
  refine Z.icmp_neN B dX12_feels_32 (tgt := 39) rfl (by omega) (by omega) (fun h32 => ?_) (fun h32 => by exfalso; first | omega | contradiction | simp_all)
  refine Z.iconst B dX12_feels_39 (v := nI 0) rfl ?_
  refine Z.istore B dX12_feels_40 (by decide) (L' := [(0, .ref 45), (1, .int (nI w)), (2, .int x), (3, .int (nI 3)), (4, .int (nI 0)), (5, .int (nI 0))]) rfl ?_
  refine Z.iload B dX12_feels_42 (x := nI 0) rfl ?_
  refine Z.if_eqN B dX12_feels_44 (tgt := 53) rfl (by omega) (fun h44 => ?_) (fun h44 => by exfalso; first | omega | contradiction | simp_all)
  refine Z.iload B dX12_feels_53 (x := nI 0) rfl ?_
  refine Z.if_eqN B dX12_feels_55 (tgt := 64) rfl (by omega) (fun h55 => ?_) (fun h55 => by exfalso; first | omega | contradiction | simp_all)
  refine Z.aload_n B dX12_feels_64 (v := .ref 45) rfl rfl ?_
  refine Z.bipush B dX12_feels_65 (v := nI 10) rfl ?_
  refine Z.callVN (σ := σ) B (M' := mX12_body) (as := [.int (nI 10)]) (st := []) dX12_feels_67 wX12_body iX12_body sX12_body kX12_229 (hl.n (k := 45) (by decide)) (hl.k (k := 45) (by decide)) (by decide) rfl rfl (t_X12_body (σ := σ) hl (r := r) hr (by omega) (b := nI 10)) rfl rfl (by decide) (by decide) (Nat.le_of_ble_eq_true rfl) (by decide) (by decide) ?_
  refine Z.eqσ (τ := (zuX (zuX σ 65 (upd (zX σ 65) (r) (nI 10))) 45 (upd (zX σ 45) 31 (nI (r + 1))))) rfl ?_
  refine Z.iload_n B dX12_feels_70 (x := x) rfl ?_
  refine Z.iload_n B dX12_feels_71 (x := nI w) rfl ?_
  refine Z.iadd B dX12_feels_72 ?_
  refine Z.istore B dX12_feels_73 (by decide) (L' := [(0, .ref 45), (1, .int (nI w)), (2, .int x), (3, .int (nI 3)), (4, .int (nI 0)), (5, .int (nI 0)), (6, .int (x + (nI w)))]) rfl ?_
  refine Z.iload B dX12_feels_75 (x := nI 0) rfl ?_
  refine Z.if_eqN B dX12_feels_77 (tgt := 92) rfl (by omega) (fun h77 => ?_) (fun h77 => by exfalso; first | omega | contradiction | simp_all)
  refine Z.iload B dX12_feels_92 (x := nI 0) rfl ?_
  refine Z.if_eqN B dX12_feels_94 (tgt := 104) rfl (by omega) (fun h94 => ?_) (fun h94 => by exfalso; first | omega | contradiction | simp_all)
  refine Z.iload B dX12_feels_104 (x := (x + (nI w))) rfl ?_
  refine Z.iret B Rt dX12_feels_106 (ty := .int) rfl rfl (by decide) (by decide) ?_
  exact ⟨rfl, rfl⟩

theorem t_X12_feels_4 {σ : zSt} (hl : Lay σ) {w pa r : Nat} {x : Int32} (hw : zMy σ w 4 pa) (hr : zX σ 45 31 = nI r) (hr20 : r + 1 ≤ 20) : Dt mX12_feels [.ref 45, .int (nI w), .int x] σ (some (.int (x + nI w))) (zuX (zuX σ 65 (upd (zX σ 65) (r) (nI 10))) 45 (upd (zX σ 45) 31 (nI (r + 1)))) := by
  refine Dt.of (by decide) (Nat.le_of_ble_eq_true rfl) fun κ B Rt => ?_
  show Z κ 0 0 σ 0 [(0, .ref 45), (1, .int (nI w)), (2, .int x)] []
  have hw2 := hw
  obtain ⟨hk, hp, hkd, hpa, hw8⟩ := hw
  refine Z.aload_n B dX12_feels_0 (v := .ref 45) rfl rfl ?_
  refine Z.getR (σ := σ) B fX12_35_12 dX12_feels_1 (hl.n (k := 45) (by decide)) (hl.k (k := 45) (by decide)) (by decide) (j := 52) (hl.r (k := 45) (f := 11) (by decide) (by decide)) ?_
  refine Z.iload_n B dX12_feels_4 (x := nI w) rfl ?_
  refine Z.iald (σ := σ) B dX12_feels_5 (n := 8) (hl.n (k := 52) (by decide)) (hl.k (k := 52) (by decide)) (hl.l (k := 52) (by decide)) (by decide) (j := w) rfl (by omega) (v := nI 4) hk ?_
  refine Z.istore_n B dX12_feels_6 (by decide) (L' := [(0, .ref 45), (1, .int (nI w)), (2, .int x), (3, .int (nI 4))]) rfl ?_
  refine Z.iload_n B dX12_feels_7 (x := nI 4) rfl ?_
  refine Z.iconst B dX12_feels_8 (v := nI 1) rfl ?_
  refine Z.icmp_eqN B dX12_feels_9 (tgt := 17) rfl (by omega) (by omega) (fun h9 => by exfalso; first | omega | contradiction | simp_all) (fun h9 => ?_)
  refine Z.iload_n B dX12_feels_12 (x := nI 4) rfl ?_
  refine Z.iconst B dX12_feels_13 (v := nI 2) rfl ?_
  refine Z.icmp_neN B dX12_feels_14 (tgt := 21) rfl (by omega) (by omega) (fun h14 => ?_) (fun h14 => by exfalso; first | omega | contradiction | simp_all)
  refine Z.iconst B dX12_feels_21 (v := nI 0) rfl ?_
  refine Z.istore B dX12_feels_22 (by decide) (L' := [(0, .ref 45), (1, .int (nI w)), (2, .int x), (3, .int (nI 4)), (4, .int (nI 0))]) rfl ?_
  refine Z.iload_n B dX12_feels_24 (x := nI 4) rfl ?_
  refine Z.iconst B dX12_feels_25 (v := nI 5) rfl ?_
  refine Z.icmp_eqN B dX12_feels_26 (tgt := 35) rfl (by omega) (by omega) (fun h26 => by exfalso; first | omega | contradiction | simp_all) (fun h26 => ?_)
  refine Z.iload_n B dX12_feels_29 (x := nI 4) rfl ?_
  refine Z.bipush B dX12_feels_30 (v := nI 6) rfl ?_
  refine Z.icmp_neN B dX12_feels_32 (tgt := 39) rfl (by omega) (by omega) (fun h32 => ?_) (fun h32 => by exfalso; first | omega | contradiction | simp_all)
  refine Z.iconst B dX12_feels_39 (v := nI 0) rfl ?_
  refine Z.istore B dX12_feels_40 (by decide) (L' := [(0, .ref 45), (1, .int (nI w)), (2, .int x), (3, .int (nI 4)), (4, .int (nI 0)), (5, .int (nI 0))]) rfl ?_
  refine Z.iload B dX12_feels_42 (x := nI 0) rfl ?_
  refine Z.if_eqN B dX12_feels_44 (tgt := 53) rfl (by omega) (fun h44 => ?_) (fun h44 => by exfalso; first | omega | contradiction | simp_all)
  refine Z.iload B dX12_feels_53 (x := nI 0) rfl ?_
  refine Z.if_eqN B dX12_feels_55 (tgt := 64) rfl (by omega) (fun h55 => ?_) (fun h55 => by exfalso; first | omega | contradiction | simp_all)
  refine Z.aload_n B dX12_feels_64 (v := .ref 45) rfl rfl ?_
  refine Z.bipush B dX12_feels_65 (v := nI 10) rfl ?_
  refine Z.callVN (σ := σ) B (M' := mX12_body) (as := [.int (nI 10)]) (st := []) dX12_feels_67 wX12_body iX12_body sX12_body kX12_229 (hl.n (k := 45) (by decide)) (hl.k (k := 45) (by decide)) (by decide) rfl rfl (t_X12_body (σ := σ) hl (r := r) hr (by omega) (b := nI 10)) rfl rfl (by decide) (by decide) (Nat.le_of_ble_eq_true rfl) (by decide) (by decide) ?_
  refine Z.eqσ (τ := (zuX (zuX σ 65 (upd (zX σ 65) (r) (nI 10))) 45 (upd (zX σ 45) 31 (nI (r + 1))))) rfl ?_
  refine Z.iload_n B dX12_feels_70 (x := x) rfl ?_
  refine Z.iload_n B dX12_feels_71 (x := nI w) rfl ?_
  refine Z.iadd B dX12_feels_72 ?_
  refine Z.istore B dX12_feels_73 (by decide) (L' := [(0, .ref 45), (1, .int (nI w)), (2, .int x), (3, .int (nI 4)), (4, .int (nI 0)), (5, .int (nI 0)), (6, .int (x + (nI w)))]) rfl ?_
  refine Z.iload B dX12_feels_75 (x := nI 0) rfl ?_
  refine Z.if_eqN B dX12_feels_77 (tgt := 92) rfl (by omega) (fun h77 => ?_) (fun h77 => by exfalso; first | omega | contradiction | simp_all)
  refine Z.iload B dX12_feels_92 (x := nI 0) rfl ?_
  refine Z.if_eqN B dX12_feels_94 (tgt := 104) rfl (by omega) (fun h94 => ?_) (fun h94 => by exfalso; first | omega | contradiction | simp_all)
  refine Z.iload B dX12_feels_104 (x := (x + (nI w))) rfl ?_
  refine Z.iret B Rt dX12_feels_106 (ty := .int) rfl rfl (by decide) (by decide) ?_
  exact ⟨rfl, rfl⟩

theorem t_X12_feels_5 {σ : zSt} (hl : Lay σ) {w pa r : Nat} {x : Int32} (hw : zMy σ w 5 pa) (hr : zX σ 45 31 = nI r) (hr20 : r + 2 ≤ 20) : Dt mX12_feels [.ref 45, .int (nI w), .int x] σ (some (.int ((x + nI w) * nI 2))) (zuX (zuX σ 65 (upd (upd (zX σ 65) (r) (nI 60)) (r + 1) (nI 10))) 45 (upd (zX σ 45) 31 (nI (r + 2)))) := by
  refine Dt.of (by decide) (Nat.le_of_ble_eq_true rfl) fun κ B Rt => ?_
  show Z κ 0 0 σ 0 [(0, .ref 45), (1, .int (nI w)), (2, .int x)] []
  have hw2 := hw
  obtain ⟨hk, hp, hkd, hpa, hw8⟩ := hw
  refine Z.aload_n B dX12_feels_0 (v := .ref 45) rfl rfl ?_
  refine Z.getR (σ := σ) B fX12_35_12 dX12_feels_1 (hl.n (k := 45) (by decide)) (hl.k (k := 45) (by decide)) (by decide) (j := 52) (hl.r (k := 45) (f := 11) (by decide) (by decide)) ?_
  refine Z.iload_n B dX12_feels_4 (x := nI w) rfl ?_
  refine Z.iald (σ := σ) B dX12_feels_5 (n := 8) (hl.n (k := 52) (by decide)) (hl.k (k := 52) (by decide)) (hl.l (k := 52) (by decide)) (by decide) (j := w) rfl (by omega) (v := nI 5) hk ?_
  refine Z.istore_n B dX12_feels_6 (by decide) (L' := [(0, .ref 45), (1, .int (nI w)), (2, .int x), (3, .int (nI 5))]) rfl ?_
  refine Z.iload_n B dX12_feels_7 (x := nI 5) rfl ?_
  refine Z.iconst B dX12_feels_8 (v := nI 1) rfl ?_
  refine Z.icmp_eqN B dX12_feels_9 (tgt := 17) rfl (by omega) (by omega) (fun h9 => by exfalso; first | omega | contradiction | simp_all) (fun h9 => ?_)
  refine Z.iload_n B dX12_feels_12 (x := nI 5) rfl ?_
  refine Z.iconst B dX12_feels_13 (v := nI 2) rfl ?_
  refine Z.icmp_neN B dX12_feels_14 (tgt := 21) rfl (by omega) (by omega) (fun h14 => ?_) (fun h14 => by exfalso; first | omega | contradiction | simp_all)
  refine Z.iconst B dX12_feels_21 (v := nI 0) rfl ?_
  refine Z.istore B dX12_feels_22 (by decide) (L' := [(0, .ref 45), (1, .int (nI w)), (2, .int x), (3, .int (nI 5)), (4, .int (nI 0))]) rfl ?_
  refine Z.iload_n B dX12_feels_24 (x := nI 5) rfl ?_
  refine Z.iconst B dX12_feels_25 (v := nI 5) rfl ?_
  refine Z.icmp_eqN B dX12_feels_26 (tgt := 35) rfl (by omega) (by omega) (fun h26 => ?_) (fun h26 => by exfalso; first | omega | contradiction | simp_all)
  refine Z.iconst B dX12_feels_35 (v := nI 1) rfl ?_
  refine Z.goto B dX12_feels_36 (tgt := 40) rfl ?_
  refine Z.istore B dX12_feels_40 (by decide) (L' := [(0, .ref 45), (1, .int (nI w)), (2, .int x), (3, .int (nI 5)), (4, .int (nI 0)), (5, .int (nI 1))]) rfl ?_
  refine Z.iload B dX12_feels_42 (x := nI 0) rfl ?_
  refine Z.if_eqN B dX12_feels_44 (tgt := 53) rfl (by omega) (fun h44 => ?_) (fun h44 => by exfalso; first | omega | contradiction | simp_all)
  refine Z.iload B dX12_feels_53 (x := nI 1) rfl ?_
  refine Z.if_eqN B dX12_feels_55 (tgt := 64) rfl (by omega) (fun h55 => by exfalso; first | omega | contradiction | simp_all) (fun h55 => ?_)
  refine Z.aload_n B dX12_feels_58 (v := .ref 45) rfl rfl ?_
  refine Z.bipush B dX12_feels_59 (v := nI 60) rfl ?_
  refine Z.callVN (σ := σ) B (M' := mX12_body) (as := [.int (nI 60)]) (st := []) dX12_feels_61 wX12_body iX12_body sX12_body kX12_229 (hl.n (k := 45) (by decide)) (hl.k (k := 45) (by decide)) (by decide) rfl rfl (t_X12_body (σ := σ) hl (r := r) hr (by omega) (b := nI 60)) rfl rfl (by decide) (by decide) (Nat.le_of_ble_eq_true rfl) (by decide) (by decide) ?_
  refine Z.eqσ (τ := (zuX (zuX σ 65 (upd (zX σ 65) (r) (nI 60))) 45 (upd (zX σ 45) 31 (nI (r + 1))))) rfl ?_
  refine Z.aload_n B dX12_feels_64 (v := .ref 45) rfl rfl ?_
  refine Z.bipush B dX12_feels_65 (v := nI 10) rfl ?_
  refine Z.callVN (σ := (zuX (zuX σ 65 (upd (zX σ 65) (r) (nI 60))) 45 (upd (zX σ 45) 31 (nI (r + 1))))) B (M' := mX12_body) (as := [.int (nI 10)]) (st := []) dX12_feels_67 wX12_body iX12_body sX12_body kX12_229 (hl.n (k := 45) (by decide)) (hl.k (k := 45) (by decide)) (by decide) rfl rfl (t_X12_body (σ := (zuX (zuX σ 65 (upd (zX σ 65) (r) (nI 60))) 45 (upd (zX σ 45) 31 (nI (r + 1))))) hl (r := r + 1) rfl (by omega) (b := nI 10)) rfl rfl (by decide) (by decide) (Nat.le_of_ble_eq_true rfl) (by decide) (by decide) ?_
  refine Z.eqσ (τ := (zuX (zuX σ 65 (upd (upd (zX σ 65) (r) (nI 60)) (r + 1) (nI 10))) 45 (upd (zX σ 45) 31 (nI (r + 2))))) (by rw [show zX (zuX (zuX σ 65 (upd (zX σ 65) (r) (nI 60))) 45 (upd (zX σ 45) 31 (nI (r + 1)))) 65 = upd (zX σ 65) (r) (nI 60) from rfl, show zX (zuX (zuX σ 65 (upd (zX σ 65) (r) (nI 60))) 45 (upd (zX σ 45) 31 (nI (r + 1)))) 45 = upd (zX σ 45) 31 (nI (r + 1)) from rfl, upd_upd, zuX_sw (by decide), zuX_sw (by decide)]; try rfl) ?_
  refine Z.iload_n B dX12_feels_70 (x := x) rfl ?_
  refine Z.iload_n B dX12_feels_71 (x := nI w) rfl ?_
  refine Z.iadd B dX12_feels_72 ?_
  refine Z.istore B dX12_feels_73 (by decide) (L' := [(0, .ref 45), (1, .int (nI w)), (2, .int x), (3, .int (nI 5)), (4, .int (nI 0)), (5, .int (nI 1)), (6, .int (x + (nI w)))]) rfl ?_
  refine Z.iload B dX12_feels_75 (x := nI 0) rfl ?_
  refine Z.if_eqN B dX12_feels_77 (tgt := 92) rfl (by omega) (fun h77 => ?_) (fun h77 => by exfalso; first | omega | contradiction | simp_all)
  refine Z.iload B dX12_feels_92 (x := nI 1) rfl ?_
  refine Z.if_eqN B dX12_feels_94 (tgt := 104) rfl (by omega) (fun h94 => by exfalso; first | omega | contradiction | simp_all) (fun h94 => ?_)
  refine Z.iload B dX12_feels_97 (x := (x + (nI w))) rfl ?_
  refine Z.iconst B dX12_feels_99 (v := nI 2) rfl ?_
  refine Z.imul B dX12_feels_100 ?_
  refine Z.goto B dX12_feels_101 (tgt := 106) rfl ?_
  refine Z.iret B Rt dX12_feels_106 (ty := .int) rfl rfl (by decide) (by decide) ?_
  exact ⟨rfl, rfl⟩

theorem t_X12_feels_6 {σ : zSt} (hl : Lay σ) {w pa r : Nat} {x : Int32} (hw : zMy σ w 6 pa) (hr : zX σ 45 31 = nI r) (hr20 : r + 2 ≤ 20) : Dt mX12_feels [.ref 45, .int (nI w), .int x] σ (some (.int ((x + nI w) * nI 2))) (zuX (zuX σ 65 (upd (upd (zX σ 65) (r) (nI 60)) (r + 1) (nI 10))) 45 (upd (zX σ 45) 31 (nI (r + 2)))) := by
  refine Dt.of (by decide) (Nat.le_of_ble_eq_true rfl) fun κ B Rt => ?_
  show Z κ 0 0 σ 0 [(0, .ref 45), (1, .int (nI w)), (2, .int x)] []
  have hw2 := hw
  obtain ⟨hk, hp, hkd, hpa, hw8⟩ := hw
  refine Z.aload_n B dX12_feels_0 (v := .ref 45) rfl rfl ?_
  refine Z.getR (σ := σ) B fX12_35_12 dX12_feels_1 (hl.n (k := 45) (by decide)) (hl.k (k := 45) (by decide)) (by decide) (j := 52) (hl.r (k := 45) (f := 11) (by decide) (by decide)) ?_
  refine Z.iload_n B dX12_feels_4 (x := nI w) rfl ?_
  refine Z.iald (σ := σ) B dX12_feels_5 (n := 8) (hl.n (k := 52) (by decide)) (hl.k (k := 52) (by decide)) (hl.l (k := 52) (by decide)) (by decide) (j := w) rfl (by omega) (v := nI 6) hk ?_
  refine Z.istore_n B dX12_feels_6 (by decide) (L' := [(0, .ref 45), (1, .int (nI w)), (2, .int x), (3, .int (nI 6))]) rfl ?_
  refine Z.iload_n B dX12_feels_7 (x := nI 6) rfl ?_
  refine Z.iconst B dX12_feels_8 (v := nI 1) rfl ?_
  refine Z.icmp_eqN B dX12_feels_9 (tgt := 17) rfl (by omega) (by omega) (fun h9 => by exfalso; first | omega | contradiction | simp_all) (fun h9 => ?_)
  refine Z.iload_n B dX12_feels_12 (x := nI 6) rfl ?_
  refine Z.iconst B dX12_feels_13 (v := nI 2) rfl ?_
  refine Z.icmp_neN B dX12_feels_14 (tgt := 21) rfl (by omega) (by omega) (fun h14 => ?_) (fun h14 => by exfalso; first | omega | contradiction | simp_all)
  refine Z.iconst B dX12_feels_21 (v := nI 0) rfl ?_
  refine Z.istore B dX12_feels_22 (by decide) (L' := [(0, .ref 45), (1, .int (nI w)), (2, .int x), (3, .int (nI 6)), (4, .int (nI 0))]) rfl ?_
  refine Z.iload_n B dX12_feels_24 (x := nI 6) rfl ?_
  refine Z.iconst B dX12_feels_25 (v := nI 5) rfl ?_
  refine Z.icmp_eqN B dX12_feels_26 (tgt := 35) rfl (by omega) (by omega) (fun h26 => by exfalso; first | omega | contradiction | simp_all) (fun h26 => ?_)
  refine Z.iload_n B dX12_feels_29 (x := nI 6) rfl ?_
  refine Z.bipush B dX12_feels_30 (v := nI 6) rfl ?_
  refine Z.icmp_neN B dX12_feels_32 (tgt := 39) rfl (by omega) (by omega) (fun h32 => by exfalso; first | omega | contradiction | simp_all) (fun h32 => ?_)
  refine Z.iconst B dX12_feels_35 (v := nI 1) rfl ?_
  refine Z.goto B dX12_feels_36 (tgt := 40) rfl ?_
  refine Z.istore B dX12_feels_40 (by decide) (L' := [(0, .ref 45), (1, .int (nI w)), (2, .int x), (3, .int (nI 6)), (4, .int (nI 0)), (5, .int (nI 1))]) rfl ?_
  refine Z.iload B dX12_feels_42 (x := nI 0) rfl ?_
  refine Z.if_eqN B dX12_feels_44 (tgt := 53) rfl (by omega) (fun h44 => ?_) (fun h44 => by exfalso; first | omega | contradiction | simp_all)
  refine Z.iload B dX12_feels_53 (x := nI 1) rfl ?_
  refine Z.if_eqN B dX12_feels_55 (tgt := 64) rfl (by omega) (fun h55 => by exfalso; first | omega | contradiction | simp_all) (fun h55 => ?_)
  refine Z.aload_n B dX12_feels_58 (v := .ref 45) rfl rfl ?_
  refine Z.bipush B dX12_feels_59 (v := nI 60) rfl ?_
  refine Z.callVN (σ := σ) B (M' := mX12_body) (as := [.int (nI 60)]) (st := []) dX12_feels_61 wX12_body iX12_body sX12_body kX12_229 (hl.n (k := 45) (by decide)) (hl.k (k := 45) (by decide)) (by decide) rfl rfl (t_X12_body (σ := σ) hl (r := r) hr (by omega) (b := nI 60)) rfl rfl (by decide) (by decide) (Nat.le_of_ble_eq_true rfl) (by decide) (by decide) ?_
  refine Z.eqσ (τ := (zuX (zuX σ 65 (upd (zX σ 65) (r) (nI 60))) 45 (upd (zX σ 45) 31 (nI (r + 1))))) rfl ?_
  refine Z.aload_n B dX12_feels_64 (v := .ref 45) rfl rfl ?_
  refine Z.bipush B dX12_feels_65 (v := nI 10) rfl ?_
  refine Z.callVN (σ := (zuX (zuX σ 65 (upd (zX σ 65) (r) (nI 60))) 45 (upd (zX σ 45) 31 (nI (r + 1))))) B (M' := mX12_body) (as := [.int (nI 10)]) (st := []) dX12_feels_67 wX12_body iX12_body sX12_body kX12_229 (hl.n (k := 45) (by decide)) (hl.k (k := 45) (by decide)) (by decide) rfl rfl (t_X12_body (σ := (zuX (zuX σ 65 (upd (zX σ 65) (r) (nI 60))) 45 (upd (zX σ 45) 31 (nI (r + 1))))) hl (r := r + 1) rfl (by omega) (b := nI 10)) rfl rfl (by decide) (by decide) (Nat.le_of_ble_eq_true rfl) (by decide) (by decide) ?_
  refine Z.eqσ (τ := (zuX (zuX σ 65 (upd (upd (zX σ 65) (r) (nI 60)) (r + 1) (nI 10))) 45 (upd (zX σ 45) 31 (nI (r + 2))))) (by rw [show zX (zuX (zuX σ 65 (upd (zX σ 65) (r) (nI 60))) 45 (upd (zX σ 45) 31 (nI (r + 1)))) 65 = upd (zX σ 65) (r) (nI 60) from rfl, show zX (zuX (zuX σ 65 (upd (zX σ 65) (r) (nI 60))) 45 (upd (zX σ 45) 31 (nI (r + 1)))) 45 = upd (zX σ 45) 31 (nI (r + 1)) from rfl, upd_upd, zuX_sw (by decide), zuX_sw (by decide)]; try rfl) ?_
  refine Z.iload_n B dX12_feels_70 (x := x) rfl ?_
  refine Z.iload_n B dX12_feels_71 (x := nI w) rfl ?_
  refine Z.iadd B dX12_feels_72 ?_
  refine Z.istore B dX12_feels_73 (by decide) (L' := [(0, .ref 45), (1, .int (nI w)), (2, .int x), (3, .int (nI 6)), (4, .int (nI 0)), (5, .int (nI 1)), (6, .int (x + (nI w)))]) rfl ?_
  refine Z.iload B dX12_feels_75 (x := nI 0) rfl ?_
  refine Z.if_eqN B dX12_feels_77 (tgt := 92) rfl (by omega) (fun h77 => ?_) (fun h77 => by exfalso; first | omega | contradiction | simp_all)
  refine Z.iload B dX12_feels_92 (x := nI 1) rfl ?_
  refine Z.if_eqN B dX12_feels_94 (tgt := 104) rfl (by omega) (fun h94 => by exfalso; first | omega | contradiction | simp_all) (fun h94 => ?_)
  refine Z.iload B dX12_feels_97 (x := (x + (nI w))) rfl ?_
  refine Z.iconst B dX12_feels_99 (v := nI 2) rfl ?_
  refine Z.imul B dX12_feels_100 ?_
  refine Z.goto B dX12_feels_101 (tgt := 106) rfl ?_
  refine Z.iret B Rt dX12_feels_106 (ty := .int) rfl rfl (by decide) (by decide) ?_
  exact ⟨rfl, rfl⟩

theorem t_X12_asks_0 {σ : zSt} (hl : Lay σ) {w pa r : Nat} {x : Int32} (hw : zMy σ w 0 pa) (hr : zX σ 45 31 = nI r) (hr20 : r + 2 ≤ 20) : Dt mX12_asks [.ref 45, .int (nI w), .int x] σ (some (.int ((x + nI w) * nI 2))) (zuX (zuX σ 65 (upd (upd (zX σ 65) (r) (nI 11)) (r + 1) (nI 10))) 45 (upd (zX σ 45) 31 (nI (r + 2)))) := by
  refine Dt.of (by decide) (Nat.le_of_ble_eq_true rfl) fun κ B Rt => ?_
  show Z κ 0 0 σ 0 [(0, .ref 45), (1, .int (nI w)), (2, .int x)] []
  have hw2 := hw
  obtain ⟨hk, hp, hkd, hpa, hw8⟩ := hw
  refine Z.aload_n B dX12_asks_0 (v := .ref 45) rfl rfl ?_
  refine Z.getR (σ := σ) B fX12_35_12 dX12_asks_1 (hl.n (k := 45) (by decide)) (hl.k (k := 45) (by decide)) (by decide) (j := 52) (hl.r (k := 45) (f := 11) (by decide) (by decide)) ?_
  refine Z.iload_n B dX12_asks_4 (x := nI w) rfl ?_
  refine Z.iald (σ := σ) B dX12_asks_5 (n := 8) (hl.n (k := 52) (by decide)) (hl.k (k := 52) (by decide)) (hl.l (k := 52) (by decide)) (by decide) (j := w) rfl (by omega) (v := nI 0) hk ?_
  refine Z.istore_n B dX12_asks_6 (by decide) (L' := [(0, .ref 45), (1, .int (nI w)), (2, .int x), (3, .int (nI 0))]) rfl ?_
  refine Z.iload_n B dX12_asks_7 (x := x) rfl ?_
  refine Z.istore B dX12_asks_8 (by decide) (L' := [(0, .ref 45), (1, .int (nI w)), (2, .int x), (3, .int (nI 0)), (4, .int x)]) rfl ?_
  refine Z.iload_n B dX12_asks_10 (x := nI 0) rfl ?_
  refine Z.iconst B dX12_asks_11 (v := nI 2) rfl ?_
  refine Z.icmp_neN B dX12_asks_12 (tgt := 21) rfl (by omega) (by omega) (fun h12 => ?_) (fun h12 => by exfalso; first | omega | contradiction | simp_all)
  refine Z.iload_n B dX12_asks_21 (x := nI 0) rfl ?_
  refine Z.iconst B dX12_asks_22 (v := nI 3) rfl ?_
  refine Z.icmp_neN B dX12_asks_23 (tgt := 37) rfl (by omega) (by omega) (fun h23 => ?_) (fun h23 => by exfalso; first | omega | contradiction | simp_all)
  refine Z.iload_n B dX12_asks_37 (x := nI 0) rfl ?_
  refine Z.bipush B dX12_asks_38 (v := nI 6) rfl ?_
  refine Z.icmp_neN B dX12_asks_40 (tgt := 59) rfl (by omega) (by omega) (fun h40 => ?_) (fun h40 => by exfalso; first | omega | contradiction | simp_all)
  refine Z.aload_n B dX12_asks_59 (v := .ref 45) rfl rfl ?_
  refine Z.bipush B dX12_asks_60 (v := nI 11) rfl ?_
  refine Z.callVN (σ := σ) B (M' := mX12_body) (as := [.int (nI 11)]) (st := []) dX12_asks_62 wX12_body iX12_body sX12_body kX12_229 (hl.n (k := 45) (by decide)) (hl.k (k := 45) (by decide)) (by decide) rfl rfl (t_X12_body (σ := σ) hl (r := r) hr (by omega) (b := nI 11)) rfl rfl (by decide) (by decide) (Nat.le_of_ble_eq_true rfl) (by decide) (by decide) ?_
  refine Z.eqσ (τ := (zuX (zuX σ 65 (upd (zX σ 65) (r) (nI 11))) 45 (upd (zX σ 45) 31 (nI (r + 1))))) rfl ?_
  refine Z.aload_n B dX12_asks_65 (v := .ref 45) rfl rfl ?_
  refine Z.iload_n B dX12_asks_66 (x := nI w) rfl ?_
  refine Z.iload B dX12_asks_67 (x := x) rfl ?_
  refine Z.callVI (σ := (zuX (zuX σ 65 (upd (zX σ 65) (r) (nI 11))) 45 (upd (zX σ 45) 31 (nI (r + 1))))) B (M' := mX12_feels) (as := [.int (nI w), .int x]) (st := []) (v := .int (x + nI w)) dX12_asks_69 wX12_feels iX12_feels sX12_feels kX12_233 (hl.n (k := 45) (by decide)) (hl.k (k := 45) (by decide)) (by decide) rfl rfl (t_X12_feels_0 (σ := (zuX (zuX σ 65 (upd (zX σ 65) (r) (nI 11))) 45 (upd (zX σ 45) 31 (nI (r + 1))))) hl (w := w) (pa := pa) (r := r + 1) (x := x) hw2 rfl (by omega)) rfl rfl (by decide) (by decide) (Nat.le_of_ble_eq_true rfl) (by decide) (by decide) ?_
  refine Z.eqσ (τ := (zuX (zuX σ 65 (upd (upd (zX σ 65) (r) (nI 11)) (r + 1) (nI 10))) 45 (upd (zX σ 45) 31 (nI (r + 2))))) (by rw [show zX (zuX (zuX σ 65 (upd (zX σ 65) (r) (nI 11))) 45 (upd (zX σ 45) 31 (nI (r + 1)))) 65 = upd (zX σ 65) (r) (nI 11) from rfl, show zX (zuX (zuX σ 65 (upd (zX σ 65) (r) (nI 11))) 45 (upd (zX σ 45) 31 (nI (r + 1)))) 45 = upd (zX σ 45) 31 (nI (r + 1)) from rfl, upd_upd, zuX_sw (by decide), zuX_sw (by decide)]; try rfl) ?_
  refine Z.iconst B dX12_asks_72 (v := nI 2) rfl ?_
  refine Z.imul B dX12_asks_73 ?_
  refine Z.istore B dX12_asks_74 (by decide) (L' := [(0, .ref 45), (1, .int (nI w)), (2, .int x), (3, .int (nI 0)), (4, .int x), (5, .int ((x + nI w) * (nI 2)))]) rfl ?_
  refine Z.iload_n B dX12_asks_76 (x := nI 0) rfl ?_
  refine Z.iconst B dX12_asks_77 (v := nI 2) rfl ?_
  refine Z.icmp_neN B dX12_asks_78 (tgt := 88) rfl (by omega) (by omega) (fun h78 => ?_) (fun h78 => by exfalso; first | omega | contradiction | simp_all)
  refine Z.iload B dX12_asks_88 (x := ((x + nI w) * (nI 2))) rfl ?_
  refine Z.iret B Rt dX12_asks_90 (ty := .int) rfl rfl (by decide) (by decide) ?_
  exact ⟨rfl, rfl⟩

theorem t_X12_asks_1 {σ : zSt} (hl : Lay σ) {w pa r : Nat} {x : Int32} (hw : zMy σ w 1 pa) (hr : zX σ 45 31 = nI r) (hr20 : r + 3 ≤ 20) : Dt mX12_asks [.ref 45, .int (nI w), .int x] σ (some (.int ((x + nI w + nI pa) * nI 2))) (zuX (zuX σ 65 (upd (upd (upd (zX σ 65) (r) (nI 11)) (r + 1) (nI 20)) (r + 2) (nI 10))) 45 (upd (zX σ 45) 31 (nI (r + 3)))) := by
  refine Dt.of (by decide) (Nat.le_of_ble_eq_true rfl) fun κ B Rt => ?_
  show Z κ 0 0 σ 0 [(0, .ref 45), (1, .int (nI w)), (2, .int x)] []
  have hw2 := hw
  obtain ⟨hk, hp, hkd, hpa, hw8⟩ := hw
  refine Z.aload_n B dX12_asks_0 (v := .ref 45) rfl rfl ?_
  refine Z.getR (σ := σ) B fX12_35_12 dX12_asks_1 (hl.n (k := 45) (by decide)) (hl.k (k := 45) (by decide)) (by decide) (j := 52) (hl.r (k := 45) (f := 11) (by decide) (by decide)) ?_
  refine Z.iload_n B dX12_asks_4 (x := nI w) rfl ?_
  refine Z.iald (σ := σ) B dX12_asks_5 (n := 8) (hl.n (k := 52) (by decide)) (hl.k (k := 52) (by decide)) (hl.l (k := 52) (by decide)) (by decide) (j := w) rfl (by omega) (v := nI 1) hk ?_
  refine Z.istore_n B dX12_asks_6 (by decide) (L' := [(0, .ref 45), (1, .int (nI w)), (2, .int x), (3, .int (nI 1))]) rfl ?_
  refine Z.iload_n B dX12_asks_7 (x := x) rfl ?_
  refine Z.istore B dX12_asks_8 (by decide) (L' := [(0, .ref 45), (1, .int (nI w)), (2, .int x), (3, .int (nI 1)), (4, .int x)]) rfl ?_
  refine Z.iload_n B dX12_asks_10 (x := nI 1) rfl ?_
  refine Z.iconst B dX12_asks_11 (v := nI 2) rfl ?_
  refine Z.icmp_neN B dX12_asks_12 (tgt := 21) rfl (by omega) (by omega) (fun h12 => ?_) (fun h12 => by exfalso; first | omega | contradiction | simp_all)
  refine Z.iload_n B dX12_asks_21 (x := nI 1) rfl ?_
  refine Z.iconst B dX12_asks_22 (v := nI 3) rfl ?_
  refine Z.icmp_neN B dX12_asks_23 (tgt := 37) rfl (by omega) (by omega) (fun h23 => ?_) (fun h23 => by exfalso; first | omega | contradiction | simp_all)
  refine Z.iload_n B dX12_asks_37 (x := nI 1) rfl ?_
  refine Z.bipush B dX12_asks_38 (v := nI 6) rfl ?_
  refine Z.icmp_neN B dX12_asks_40 (tgt := 59) rfl (by omega) (by omega) (fun h40 => ?_) (fun h40 => by exfalso; first | omega | contradiction | simp_all)
  refine Z.aload_n B dX12_asks_59 (v := .ref 45) rfl rfl ?_
  refine Z.bipush B dX12_asks_60 (v := nI 11) rfl ?_
  refine Z.callVN (σ := σ) B (M' := mX12_body) (as := [.int (nI 11)]) (st := []) dX12_asks_62 wX12_body iX12_body sX12_body kX12_229 (hl.n (k := 45) (by decide)) (hl.k (k := 45) (by decide)) (by decide) rfl rfl (t_X12_body (σ := σ) hl (r := r) hr (by omega) (b := nI 11)) rfl rfl (by decide) (by decide) (Nat.le_of_ble_eq_true rfl) (by decide) (by decide) ?_
  refine Z.eqσ (τ := (zuX (zuX σ 65 (upd (zX σ 65) (r) (nI 11))) 45 (upd (zX σ 45) 31 (nI (r + 1))))) rfl ?_
  refine Z.aload_n B dX12_asks_65 (v := .ref 45) rfl rfl ?_
  refine Z.iload_n B dX12_asks_66 (x := nI w) rfl ?_
  refine Z.iload B dX12_asks_67 (x := x) rfl ?_
  refine Z.callVI (σ := (zuX (zuX σ 65 (upd (zX σ 65) (r) (nI 11))) 45 (upd (zX σ 45) 31 (nI (r + 1))))) B (M' := mX12_feels) (as := [.int (nI w), .int x]) (st := []) (v := .int (x + nI w + nI pa)) dX12_asks_69 wX12_feels iX12_feels sX12_feels kX12_233 (hl.n (k := 45) (by decide)) (hl.k (k := 45) (by decide)) (by decide) rfl rfl (t_X12_feels_1 (σ := (zuX (zuX σ 65 (upd (zX σ 65) (r) (nI 11))) 45 (upd (zX σ 45) 31 (nI (r + 1))))) hl (w := w) (pa := pa) (r := r + 1) (x := x) hw2 rfl (by omega)) rfl rfl (by decide) (by decide) (Nat.le_of_ble_eq_true rfl) (by decide) (by decide) ?_
  refine Z.eqσ (τ := (zuX (zuX σ 65 (upd (upd (upd (zX σ 65) (r) (nI 11)) (r + 1) (nI 20)) (r + 2) (nI 10))) 45 (upd (zX σ 45) 31 (nI (r + 3))))) (by rw [show zX (zuX (zuX σ 65 (upd (zX σ 65) (r) (nI 11))) 45 (upd (zX σ 45) 31 (nI (r + 1)))) 65 = upd (zX σ 65) (r) (nI 11) from rfl, show zX (zuX (zuX σ 65 (upd (zX σ 65) (r) (nI 11))) 45 (upd (zX σ 45) 31 (nI (r + 1)))) 45 = upd (zX σ 45) 31 (nI (r + 1)) from rfl, upd_upd, zuX_sw (by decide), zuX_sw (by decide)]; try rfl) ?_
  refine Z.iconst B dX12_asks_72 (v := nI 2) rfl ?_
  refine Z.imul B dX12_asks_73 ?_
  refine Z.istore B dX12_asks_74 (by decide) (L' := [(0, .ref 45), (1, .int (nI w)), (2, .int x), (3, .int (nI 1)), (4, .int x), (5, .int ((x + nI w + nI pa) * (nI 2)))]) rfl ?_
  refine Z.iload_n B dX12_asks_76 (x := nI 1) rfl ?_
  refine Z.iconst B dX12_asks_77 (v := nI 2) rfl ?_
  refine Z.icmp_neN B dX12_asks_78 (tgt := 88) rfl (by omega) (by omega) (fun h78 => ?_) (fun h78 => by exfalso; first | omega | contradiction | simp_all)
  refine Z.iload B dX12_asks_88 (x := ((x + nI w + nI pa) * (nI 2))) rfl ?_
  refine Z.iret B Rt dX12_asks_90 (ty := .int) rfl rfl (by decide) (by decide) ?_
  exact ⟨rfl, rfl⟩

theorem t_X12_asks_2 {σ : zSt} (hl : Lay σ) {w pa r : Nat} {x : Int32} (hw : zMy σ w 2 pa) (hr : zX σ 45 31 = nI r) (hr20 : r + 4 ≤ 20) : Dt mX12_asks [.ref 45, .int (nI w), .int x] σ (some (.int (((x + nI w + nI pa) * nI 2) * nI 3))) (zuX (zuX σ 65 (upd (upd (upd (upd (zX σ 65) (r) (nI 30)) (r + 1) (nI 11)) (r + 2) (nI 20)) (r + 3) (nI 10))) 45 (upd (zX σ 45) 31 (nI (r + 4)))) := by
  refine Dt.of (by decide) (Nat.le_of_ble_eq_true rfl) fun κ B Rt => ?_
  show Z κ 0 0 σ 0 [(0, .ref 45), (1, .int (nI w)), (2, .int x)] []
  have hw2 := hw
  obtain ⟨hk, hp, hkd, hpa, hw8⟩ := hw
  refine Z.aload_n B dX12_asks_0 (v := .ref 45) rfl rfl ?_
  refine Z.getR (σ := σ) B fX12_35_12 dX12_asks_1 (hl.n (k := 45) (by decide)) (hl.k (k := 45) (by decide)) (by decide) (j := 52) (hl.r (k := 45) (f := 11) (by decide) (by decide)) ?_
  refine Z.iload_n B dX12_asks_4 (x := nI w) rfl ?_
  refine Z.iald (σ := σ) B dX12_asks_5 (n := 8) (hl.n (k := 52) (by decide)) (hl.k (k := 52) (by decide)) (hl.l (k := 52) (by decide)) (by decide) (j := w) rfl (by omega) (v := nI 2) hk ?_
  refine Z.istore_n B dX12_asks_6 (by decide) (L' := [(0, .ref 45), (1, .int (nI w)), (2, .int x), (3, .int (nI 2))]) rfl ?_
  refine Z.iload_n B dX12_asks_7 (x := x) rfl ?_
  refine Z.istore B dX12_asks_8 (by decide) (L' := [(0, .ref 45), (1, .int (nI w)), (2, .int x), (3, .int (nI 2)), (4, .int x)]) rfl ?_
  refine Z.iload_n B dX12_asks_10 (x := nI 2) rfl ?_
  refine Z.iconst B dX12_asks_11 (v := nI 2) rfl ?_
  refine Z.icmp_neN B dX12_asks_12 (tgt := 21) rfl (by omega) (by omega) (fun h12 => by exfalso; first | omega | contradiction | simp_all) (fun h12 => ?_)
  refine Z.aload_n B dX12_asks_15 (v := .ref 45) rfl rfl ?_
  refine Z.bipush B dX12_asks_16 (v := nI 30) rfl ?_
  refine Z.callVN (σ := σ) B (M' := mX12_body) (as := [.int (nI 30)]) (st := []) dX12_asks_18 wX12_body iX12_body sX12_body kX12_229 (hl.n (k := 45) (by decide)) (hl.k (k := 45) (by decide)) (by decide) rfl rfl (t_X12_body (σ := σ) hl (r := r) hr (by omega) (b := nI 30)) rfl rfl (by decide) (by decide) (Nat.le_of_ble_eq_true rfl) (by decide) (by decide) ?_
  refine Z.eqσ (τ := (zuX (zuX σ 65 (upd (zX σ 65) (r) (nI 30))) 45 (upd (zX σ 45) 31 (nI (r + 1))))) rfl ?_
  refine Z.iload_n B dX12_asks_21 (x := nI 2) rfl ?_
  refine Z.iconst B dX12_asks_22 (v := nI 3) rfl ?_
  refine Z.icmp_neN B dX12_asks_23 (tgt := 37) rfl (by omega) (by omega) (fun h23 => ?_) (fun h23 => by exfalso; first | omega | contradiction | simp_all)
  refine Z.iload_n B dX12_asks_37 (x := nI 2) rfl ?_
  refine Z.bipush B dX12_asks_38 (v := nI 6) rfl ?_
  refine Z.icmp_neN B dX12_asks_40 (tgt := 59) rfl (by omega) (by omega) (fun h40 => ?_) (fun h40 => by exfalso; first | omega | contradiction | simp_all)
  refine Z.aload_n B dX12_asks_59 (v := .ref 45) rfl rfl ?_
  refine Z.bipush B dX12_asks_60 (v := nI 11) rfl ?_
  refine Z.callVN (σ := (zuX (zuX σ 65 (upd (zX σ 65) (r) (nI 30))) 45 (upd (zX σ 45) 31 (nI (r + 1))))) B (M' := mX12_body) (as := [.int (nI 11)]) (st := []) dX12_asks_62 wX12_body iX12_body sX12_body kX12_229 (hl.n (k := 45) (by decide)) (hl.k (k := 45) (by decide)) (by decide) rfl rfl (t_X12_body (σ := (zuX (zuX σ 65 (upd (zX σ 65) (r) (nI 30))) 45 (upd (zX σ 45) 31 (nI (r + 1))))) hl (r := r + 1) rfl (by omega) (b := nI 11)) rfl rfl (by decide) (by decide) (Nat.le_of_ble_eq_true rfl) (by decide) (by decide) ?_
  refine Z.eqσ (τ := (zuX (zuX σ 65 (upd (upd (zX σ 65) (r) (nI 30)) (r + 1) (nI 11))) 45 (upd (zX σ 45) 31 (nI (r + 2))))) (by rw [show zX (zuX (zuX σ 65 (upd (zX σ 65) (r) (nI 30))) 45 (upd (zX σ 45) 31 (nI (r + 1)))) 65 = upd (zX σ 65) (r) (nI 30) from rfl, show zX (zuX (zuX σ 65 (upd (zX σ 65) (r) (nI 30))) 45 (upd (zX σ 45) 31 (nI (r + 1)))) 45 = upd (zX σ 45) 31 (nI (r + 1)) from rfl, upd_upd, zuX_sw (by decide), zuX_sw (by decide)]; try rfl) ?_
  refine Z.aload_n B dX12_asks_65 (v := .ref 45) rfl rfl ?_
  refine Z.iload_n B dX12_asks_66 (x := nI w) rfl ?_
  refine Z.iload B dX12_asks_67 (x := x) rfl ?_
  refine Z.callVI (σ := (zuX (zuX σ 65 (upd (upd (zX σ 65) (r) (nI 30)) (r + 1) (nI 11))) 45 (upd (zX σ 45) 31 (nI (r + 2))))) B (M' := mX12_feels) (as := [.int (nI w), .int x]) (st := []) (v := .int (x + nI w + nI pa)) dX12_asks_69 wX12_feels iX12_feels sX12_feels kX12_233 (hl.n (k := 45) (by decide)) (hl.k (k := 45) (by decide)) (by decide) rfl rfl (t_X12_feels_2 (σ := (zuX (zuX σ 65 (upd (upd (zX σ 65) (r) (nI 30)) (r + 1) (nI 11))) 45 (upd (zX σ 45) 31 (nI (r + 2))))) hl (w := w) (pa := pa) (r := r + 2) (x := x) hw2 rfl (by omega)) rfl rfl (by decide) (by decide) (Nat.le_of_ble_eq_true rfl) (by decide) (by decide) ?_
  refine Z.eqσ (τ := (zuX (zuX σ 65 (upd (upd (upd (upd (zX σ 65) (r) (nI 30)) (r + 1) (nI 11)) (r + 2) (nI 20)) (r + 3) (nI 10))) 45 (upd (zX σ 45) 31 (nI (r + 4))))) (by rw [show zX (zuX (zuX σ 65 (upd (upd (zX σ 65) (r) (nI 30)) (r + 1) (nI 11))) 45 (upd (zX σ 45) 31 (nI (r + 2)))) 65 = upd (upd (zX σ 65) (r) (nI 30)) (r + 1) (nI 11) from rfl, show zX (zuX (zuX σ 65 (upd (upd (zX σ 65) (r) (nI 30)) (r + 1) (nI 11))) 45 (upd (zX σ 45) 31 (nI (r + 2)))) 45 = upd (zX σ 45) 31 (nI (r + 2)) from rfl, upd_upd, zuX_sw (by decide), zuX_sw (by decide)]; try rfl) ?_
  refine Z.iconst B dX12_asks_72 (v := nI 2) rfl ?_
  refine Z.imul B dX12_asks_73 ?_
  refine Z.istore B dX12_asks_74 (by decide) (L' := [(0, .ref 45), (1, .int (nI w)), (2, .int x), (3, .int (nI 2)), (4, .int x), (5, .int ((x + nI w + nI pa) * (nI 2)))]) rfl ?_
  refine Z.iload_n B dX12_asks_76 (x := nI 2) rfl ?_
  refine Z.iconst B dX12_asks_77 (v := nI 2) rfl ?_
  refine Z.icmp_neN B dX12_asks_78 (tgt := 88) rfl (by omega) (by omega) (fun h78 => by exfalso; first | omega | contradiction | simp_all) (fun h78 => ?_)
  refine Z.iload B dX12_asks_81 (x := ((x + nI w + nI pa) * (nI 2))) rfl ?_
  refine Z.iconst B dX12_asks_83 (v := nI 3) rfl ?_
  refine Z.imul B dX12_asks_84 ?_
  refine Z.goto B dX12_asks_85 (tgt := 90) rfl ?_
  refine Z.iret B Rt dX12_asks_90 (ty := .int) rfl rfl (by decide) (by decide) ?_
  exact ⟨rfl, rfl⟩

theorem t_X12_asks_3 {σ : zSt} (hl : Lay σ) {w pa r : Nat} {x : Int32} (hw : zMy σ w 3 pa) (hr : zX σ 45 31 = nI r) (hr20 : r + 3 ≤ 20) : Dt mX12_asks [.ref 45, .int (nI w), .int x] σ (some (.int (((x + nI 1) + nI w) * nI 2))) (zuX (zuX σ 65 (upd (upd (upd (zX σ 65) (r) (nI 40)) (r + 1) (nI 11)) (r + 2) (nI 10))) 45 (upd (zX σ 45) 31 (nI (r + 3)))) := by
  refine Dt.of (by decide) (Nat.le_of_ble_eq_true rfl) fun κ B Rt => ?_
  show Z κ 0 0 σ 0 [(0, .ref 45), (1, .int (nI w)), (2, .int x)] []
  have hw2 := hw
  obtain ⟨hk, hp, hkd, hpa, hw8⟩ := hw
  refine Z.aload_n B dX12_asks_0 (v := .ref 45) rfl rfl ?_
  refine Z.getR (σ := σ) B fX12_35_12 dX12_asks_1 (hl.n (k := 45) (by decide)) (hl.k (k := 45) (by decide)) (by decide) (j := 52) (hl.r (k := 45) (f := 11) (by decide) (by decide)) ?_
  refine Z.iload_n B dX12_asks_4 (x := nI w) rfl ?_
  refine Z.iald (σ := σ) B dX12_asks_5 (n := 8) (hl.n (k := 52) (by decide)) (hl.k (k := 52) (by decide)) (hl.l (k := 52) (by decide)) (by decide) (j := w) rfl (by omega) (v := nI 3) hk ?_
  refine Z.istore_n B dX12_asks_6 (by decide) (L' := [(0, .ref 45), (1, .int (nI w)), (2, .int x), (3, .int (nI 3))]) rfl ?_
  refine Z.iload_n B dX12_asks_7 (x := x) rfl ?_
  refine Z.istore B dX12_asks_8 (by decide) (L' := [(0, .ref 45), (1, .int (nI w)), (2, .int x), (3, .int (nI 3)), (4, .int x)]) rfl ?_
  refine Z.iload_n B dX12_asks_10 (x := nI 3) rfl ?_
  refine Z.iconst B dX12_asks_11 (v := nI 2) rfl ?_
  refine Z.icmp_neN B dX12_asks_12 (tgt := 21) rfl (by omega) (by omega) (fun h12 => ?_) (fun h12 => by exfalso; first | omega | contradiction | simp_all)
  refine Z.iload_n B dX12_asks_21 (x := nI 3) rfl ?_
  refine Z.iconst B dX12_asks_22 (v := nI 3) rfl ?_
  refine Z.icmp_neN B dX12_asks_23 (tgt := 37) rfl (by omega) (by omega) (fun h23 => by exfalso; first | omega | contradiction | simp_all) (fun h23 => ?_)
  refine Z.aload_n B dX12_asks_26 (v := .ref 45) rfl rfl ?_
  refine Z.bipush B dX12_asks_27 (v := nI 40) rfl ?_
  refine Z.callVN (σ := σ) B (M' := mX12_body) (as := [.int (nI 40)]) (st := []) dX12_asks_29 wX12_body iX12_body sX12_body kX12_229 (hl.n (k := 45) (by decide)) (hl.k (k := 45) (by decide)) (by decide) rfl rfl (t_X12_body (σ := σ) hl (r := r) hr (by omega) (b := nI 40)) rfl rfl (by decide) (by decide) (Nat.le_of_ble_eq_true rfl) (by decide) (by decide) ?_
  refine Z.eqσ (τ := (zuX (zuX σ 65 (upd (zX σ 65) (r) (nI 40))) 45 (upd (zX σ 45) 31 (nI (r + 1))))) rfl ?_
  refine Z.iload_n B dX12_asks_32 (x := x) rfl ?_
  refine Z.iconst B dX12_asks_33 (v := nI 1) rfl ?_
  refine Z.iadd B dX12_asks_34 ?_
  refine Z.istore B dX12_asks_35 (by decide) (L' := [(0, .ref 45), (1, .int (nI w)), (2, .int x), (3, .int (nI 3)), (4, .int (x + (nI 1)))]) rfl ?_
  refine Z.iload_n B dX12_asks_37 (x := nI 3) rfl ?_
  refine Z.bipush B dX12_asks_38 (v := nI 6) rfl ?_
  refine Z.icmp_neN B dX12_asks_40 (tgt := 59) rfl (by omega) (by omega) (fun h40 => ?_) (fun h40 => by exfalso; first | omega | contradiction | simp_all)
  refine Z.aload_n B dX12_asks_59 (v := .ref 45) rfl rfl ?_
  refine Z.bipush B dX12_asks_60 (v := nI 11) rfl ?_
  refine Z.callVN (σ := (zuX (zuX σ 65 (upd (zX σ 65) (r) (nI 40))) 45 (upd (zX σ 45) 31 (nI (r + 1))))) B (M' := mX12_body) (as := [.int (nI 11)]) (st := []) dX12_asks_62 wX12_body iX12_body sX12_body kX12_229 (hl.n (k := 45) (by decide)) (hl.k (k := 45) (by decide)) (by decide) rfl rfl (t_X12_body (σ := (zuX (zuX σ 65 (upd (zX σ 65) (r) (nI 40))) 45 (upd (zX σ 45) 31 (nI (r + 1))))) hl (r := r + 1) rfl (by omega) (b := nI 11)) rfl rfl (by decide) (by decide) (Nat.le_of_ble_eq_true rfl) (by decide) (by decide) ?_
  refine Z.eqσ (τ := (zuX (zuX σ 65 (upd (upd (zX σ 65) (r) (nI 40)) (r + 1) (nI 11))) 45 (upd (zX σ 45) 31 (nI (r + 2))))) (by rw [show zX (zuX (zuX σ 65 (upd (zX σ 65) (r) (nI 40))) 45 (upd (zX σ 45) 31 (nI (r + 1)))) 65 = upd (zX σ 65) (r) (nI 40) from rfl, show zX (zuX (zuX σ 65 (upd (zX σ 65) (r) (nI 40))) 45 (upd (zX σ 45) 31 (nI (r + 1)))) 45 = upd (zX σ 45) 31 (nI (r + 1)) from rfl, upd_upd, zuX_sw (by decide), zuX_sw (by decide)]; try rfl) ?_
  refine Z.aload_n B dX12_asks_65 (v := .ref 45) rfl rfl ?_
  refine Z.iload_n B dX12_asks_66 (x := nI w) rfl ?_
  refine Z.iload B dX12_asks_67 (x := (x + (nI 1))) rfl ?_
  refine Z.callVI (σ := (zuX (zuX σ 65 (upd (upd (zX σ 65) (r) (nI 40)) (r + 1) (nI 11))) 45 (upd (zX σ 45) 31 (nI (r + 2))))) B (M' := mX12_feels) (as := [.int (nI w), .int (x + (nI 1))]) (st := []) (v := .int ((x + nI 1) + nI w)) dX12_asks_69 wX12_feels iX12_feels sX12_feels kX12_233 (hl.n (k := 45) (by decide)) (hl.k (k := 45) (by decide)) (by decide) rfl rfl (t_X12_feels_3 (σ := (zuX (zuX σ 65 (upd (upd (zX σ 65) (r) (nI 40)) (r + 1) (nI 11))) 45 (upd (zX σ 45) 31 (nI (r + 2))))) hl (w := w) (pa := pa) (r := r + 2) (x := (x + nI 1)) hw2 rfl (by omega)) rfl rfl (by decide) (by decide) (Nat.le_of_ble_eq_true rfl) (by decide) (by decide) ?_
  refine Z.eqσ (τ := (zuX (zuX σ 65 (upd (upd (upd (zX σ 65) (r) (nI 40)) (r + 1) (nI 11)) (r + 2) (nI 10))) 45 (upd (zX σ 45) 31 (nI (r + 3))))) (by rw [show zX (zuX (zuX σ 65 (upd (upd (zX σ 65) (r) (nI 40)) (r + 1) (nI 11))) 45 (upd (zX σ 45) 31 (nI (r + 2)))) 65 = upd (upd (zX σ 65) (r) (nI 40)) (r + 1) (nI 11) from rfl, show zX (zuX (zuX σ 65 (upd (upd (zX σ 65) (r) (nI 40)) (r + 1) (nI 11))) 45 (upd (zX σ 45) 31 (nI (r + 2)))) 45 = upd (zX σ 45) 31 (nI (r + 2)) from rfl, upd_upd, zuX_sw (by decide), zuX_sw (by decide)]; try rfl) ?_
  refine Z.iconst B dX12_asks_72 (v := nI 2) rfl ?_
  refine Z.imul B dX12_asks_73 ?_
  refine Z.istore B dX12_asks_74 (by decide) (L' := [(0, .ref 45), (1, .int (nI w)), (2, .int x), (3, .int (nI 3)), (4, .int (x + (nI 1))), (5, .int (((x + nI 1) + nI w) * (nI 2)))]) rfl ?_
  refine Z.iload_n B dX12_asks_76 (x := nI 3) rfl ?_
  refine Z.iconst B dX12_asks_77 (v := nI 2) rfl ?_
  refine Z.icmp_neN B dX12_asks_78 (tgt := 88) rfl (by omega) (by omega) (fun h78 => ?_) (fun h78 => by exfalso; first | omega | contradiction | simp_all)
  refine Z.iload B dX12_asks_88 (x := (((x + nI 1) + nI w) * (nI 2))) rfl ?_
  refine Z.iret B Rt dX12_asks_90 (ty := .int) rfl rfl (by decide) (by decide) ?_
  exact ⟨rfl, rfl⟩

theorem t_X12_asks_4 {σ : zSt} (hl : Lay σ) {w pa r : Nat} {x : Int32} (hw : zMy σ w 4 pa) (hr : zX σ 45 31 = nI r) (hr20 : r + 2 ≤ 20) : Dt mX12_asks [.ref 45, .int (nI w), .int x] σ (some (.int ((x + nI w) * nI 2))) (zuX (zuX σ 65 (upd (upd (zX σ 65) (r) (nI 11)) (r + 1) (nI 10))) 45 (upd (zX σ 45) 31 (nI (r + 2)))) := by
  refine Dt.of (by decide) (Nat.le_of_ble_eq_true rfl) fun κ B Rt => ?_
  show Z κ 0 0 σ 0 [(0, .ref 45), (1, .int (nI w)), (2, .int x)] []
  have hw2 := hw
  obtain ⟨hk, hp, hkd, hpa, hw8⟩ := hw
  refine Z.aload_n B dX12_asks_0 (v := .ref 45) rfl rfl ?_
  refine Z.getR (σ := σ) B fX12_35_12 dX12_asks_1 (hl.n (k := 45) (by decide)) (hl.k (k := 45) (by decide)) (by decide) (j := 52) (hl.r (k := 45) (f := 11) (by decide) (by decide)) ?_
  refine Z.iload_n B dX12_asks_4 (x := nI w) rfl ?_
  refine Z.iald (σ := σ) B dX12_asks_5 (n := 8) (hl.n (k := 52) (by decide)) (hl.k (k := 52) (by decide)) (hl.l (k := 52) (by decide)) (by decide) (j := w) rfl (by omega) (v := nI 4) hk ?_
  refine Z.istore_n B dX12_asks_6 (by decide) (L' := [(0, .ref 45), (1, .int (nI w)), (2, .int x), (3, .int (nI 4))]) rfl ?_
  refine Z.iload_n B dX12_asks_7 (x := x) rfl ?_
  refine Z.istore B dX12_asks_8 (by decide) (L' := [(0, .ref 45), (1, .int (nI w)), (2, .int x), (3, .int (nI 4)), (4, .int x)]) rfl ?_
  refine Z.iload_n B dX12_asks_10 (x := nI 4) rfl ?_
  refine Z.iconst B dX12_asks_11 (v := nI 2) rfl ?_
  refine Z.icmp_neN B dX12_asks_12 (tgt := 21) rfl (by omega) (by omega) (fun h12 => ?_) (fun h12 => by exfalso; first | omega | contradiction | simp_all)
  refine Z.iload_n B dX12_asks_21 (x := nI 4) rfl ?_
  refine Z.iconst B dX12_asks_22 (v := nI 3) rfl ?_
  refine Z.icmp_neN B dX12_asks_23 (tgt := 37) rfl (by omega) (by omega) (fun h23 => ?_) (fun h23 => by exfalso; first | omega | contradiction | simp_all)
  refine Z.iload_n B dX12_asks_37 (x := nI 4) rfl ?_
  refine Z.bipush B dX12_asks_38 (v := nI 6) rfl ?_
  refine Z.icmp_neN B dX12_asks_40 (tgt := 59) rfl (by omega) (by omega) (fun h40 => ?_) (fun h40 => by exfalso; first | omega | contradiction | simp_all)
  refine Z.aload_n B dX12_asks_59 (v := .ref 45) rfl rfl ?_
  refine Z.bipush B dX12_asks_60 (v := nI 11) rfl ?_
  refine Z.callVN (σ := σ) B (M' := mX12_body) (as := [.int (nI 11)]) (st := []) dX12_asks_62 wX12_body iX12_body sX12_body kX12_229 (hl.n (k := 45) (by decide)) (hl.k (k := 45) (by decide)) (by decide) rfl rfl (t_X12_body (σ := σ) hl (r := r) hr (by omega) (b := nI 11)) rfl rfl (by decide) (by decide) (Nat.le_of_ble_eq_true rfl) (by decide) (by decide) ?_
  refine Z.eqσ (τ := (zuX (zuX σ 65 (upd (zX σ 65) (r) (nI 11))) 45 (upd (zX σ 45) 31 (nI (r + 1))))) rfl ?_
  refine Z.aload_n B dX12_asks_65 (v := .ref 45) rfl rfl ?_
  refine Z.iload_n B dX12_asks_66 (x := nI w) rfl ?_
  refine Z.iload B dX12_asks_67 (x := x) rfl ?_
  refine Z.callVI (σ := (zuX (zuX σ 65 (upd (zX σ 65) (r) (nI 11))) 45 (upd (zX σ 45) 31 (nI (r + 1))))) B (M' := mX12_feels) (as := [.int (nI w), .int x]) (st := []) (v := .int (x + nI w)) dX12_asks_69 wX12_feels iX12_feels sX12_feels kX12_233 (hl.n (k := 45) (by decide)) (hl.k (k := 45) (by decide)) (by decide) rfl rfl (t_X12_feels_4 (σ := (zuX (zuX σ 65 (upd (zX σ 65) (r) (nI 11))) 45 (upd (zX σ 45) 31 (nI (r + 1))))) hl (w := w) (pa := pa) (r := r + 1) (x := x) hw2 rfl (by omega)) rfl rfl (by decide) (by decide) (Nat.le_of_ble_eq_true rfl) (by decide) (by decide) ?_
  refine Z.eqσ (τ := (zuX (zuX σ 65 (upd (upd (zX σ 65) (r) (nI 11)) (r + 1) (nI 10))) 45 (upd (zX σ 45) 31 (nI (r + 2))))) (by rw [show zX (zuX (zuX σ 65 (upd (zX σ 65) (r) (nI 11))) 45 (upd (zX σ 45) 31 (nI (r + 1)))) 65 = upd (zX σ 65) (r) (nI 11) from rfl, show zX (zuX (zuX σ 65 (upd (zX σ 65) (r) (nI 11))) 45 (upd (zX σ 45) 31 (nI (r + 1)))) 45 = upd (zX σ 45) 31 (nI (r + 1)) from rfl, upd_upd, zuX_sw (by decide), zuX_sw (by decide)]; try rfl) ?_
  refine Z.iconst B dX12_asks_72 (v := nI 2) rfl ?_
  refine Z.imul B dX12_asks_73 ?_
  refine Z.istore B dX12_asks_74 (by decide) (L' := [(0, .ref 45), (1, .int (nI w)), (2, .int x), (3, .int (nI 4)), (4, .int x), (5, .int ((x + nI w) * (nI 2)))]) rfl ?_
  refine Z.iload_n B dX12_asks_76 (x := nI 4) rfl ?_
  refine Z.iconst B dX12_asks_77 (v := nI 2) rfl ?_
  refine Z.icmp_neN B dX12_asks_78 (tgt := 88) rfl (by omega) (by omega) (fun h78 => ?_) (fun h78 => by exfalso; first | omega | contradiction | simp_all)
  refine Z.iload B dX12_asks_88 (x := ((x + nI w) * (nI 2))) rfl ?_
  refine Z.iret B Rt dX12_asks_90 (ty := .int) rfl rfl (by decide) (by decide) ?_
  exact ⟨rfl, rfl⟩

theorem t_X12_asks_5 {σ : zSt} (hl : Lay σ) {w pa r : Nat} {x : Int32} (hw : zMy σ w 5 pa) (hr : zX σ 45 31 = nI r) (hr20 : r + 3 ≤ 20) : Dt mX12_asks [.ref 45, .int (nI w), .int x] σ (some (.int (((x + nI w) * nI 2) * nI 2))) (zuX (zuX σ 65 (upd (upd (upd (zX σ 65) (r) (nI 11)) (r + 1) (nI 60)) (r + 2) (nI 10))) 45 (upd (zX σ 45) 31 (nI (r + 3)))) := by
  refine Dt.of (by decide) (Nat.le_of_ble_eq_true rfl) fun κ B Rt => ?_
  show Z κ 0 0 σ 0 [(0, .ref 45), (1, .int (nI w)), (2, .int x)] []
  have hw2 := hw
  obtain ⟨hk, hp, hkd, hpa, hw8⟩ := hw
  refine Z.aload_n B dX12_asks_0 (v := .ref 45) rfl rfl ?_
  refine Z.getR (σ := σ) B fX12_35_12 dX12_asks_1 (hl.n (k := 45) (by decide)) (hl.k (k := 45) (by decide)) (by decide) (j := 52) (hl.r (k := 45) (f := 11) (by decide) (by decide)) ?_
  refine Z.iload_n B dX12_asks_4 (x := nI w) rfl ?_
  refine Z.iald (σ := σ) B dX12_asks_5 (n := 8) (hl.n (k := 52) (by decide)) (hl.k (k := 52) (by decide)) (hl.l (k := 52) (by decide)) (by decide) (j := w) rfl (by omega) (v := nI 5) hk ?_
  refine Z.istore_n B dX12_asks_6 (by decide) (L' := [(0, .ref 45), (1, .int (nI w)), (2, .int x), (3, .int (nI 5))]) rfl ?_
  refine Z.iload_n B dX12_asks_7 (x := x) rfl ?_
  refine Z.istore B dX12_asks_8 (by decide) (L' := [(0, .ref 45), (1, .int (nI w)), (2, .int x), (3, .int (nI 5)), (4, .int x)]) rfl ?_
  refine Z.iload_n B dX12_asks_10 (x := nI 5) rfl ?_
  refine Z.iconst B dX12_asks_11 (v := nI 2) rfl ?_
  refine Z.icmp_neN B dX12_asks_12 (tgt := 21) rfl (by omega) (by omega) (fun h12 => ?_) (fun h12 => by exfalso; first | omega | contradiction | simp_all)
  refine Z.iload_n B dX12_asks_21 (x := nI 5) rfl ?_
  refine Z.iconst B dX12_asks_22 (v := nI 3) rfl ?_
  refine Z.icmp_neN B dX12_asks_23 (tgt := 37) rfl (by omega) (by omega) (fun h23 => ?_) (fun h23 => by exfalso; first | omega | contradiction | simp_all)
  refine Z.iload_n B dX12_asks_37 (x := nI 5) rfl ?_
  refine Z.bipush B dX12_asks_38 (v := nI 6) rfl ?_
  refine Z.icmp_neN B dX12_asks_40 (tgt := 59) rfl (by omega) (by omega) (fun h40 => ?_) (fun h40 => by exfalso; first | omega | contradiction | simp_all)
  refine Z.aload_n B dX12_asks_59 (v := .ref 45) rfl rfl ?_
  refine Z.bipush B dX12_asks_60 (v := nI 11) rfl ?_
  refine Z.callVN (σ := σ) B (M' := mX12_body) (as := [.int (nI 11)]) (st := []) dX12_asks_62 wX12_body iX12_body sX12_body kX12_229 (hl.n (k := 45) (by decide)) (hl.k (k := 45) (by decide)) (by decide) rfl rfl (t_X12_body (σ := σ) hl (r := r) hr (by omega) (b := nI 11)) rfl rfl (by decide) (by decide) (Nat.le_of_ble_eq_true rfl) (by decide) (by decide) ?_
  refine Z.eqσ (τ := (zuX (zuX σ 65 (upd (zX σ 65) (r) (nI 11))) 45 (upd (zX σ 45) 31 (nI (r + 1))))) rfl ?_
  refine Z.aload_n B dX12_asks_65 (v := .ref 45) rfl rfl ?_
  refine Z.iload_n B dX12_asks_66 (x := nI w) rfl ?_
  refine Z.iload B dX12_asks_67 (x := x) rfl ?_
  refine Z.callVI (σ := (zuX (zuX σ 65 (upd (zX σ 65) (r) (nI 11))) 45 (upd (zX σ 45) 31 (nI (r + 1))))) B (M' := mX12_feels) (as := [.int (nI w), .int x]) (st := []) (v := .int ((x + nI w) * nI 2)) dX12_asks_69 wX12_feels iX12_feels sX12_feels kX12_233 (hl.n (k := 45) (by decide)) (hl.k (k := 45) (by decide)) (by decide) rfl rfl (t_X12_feels_5 (σ := (zuX (zuX σ 65 (upd (zX σ 65) (r) (nI 11))) 45 (upd (zX σ 45) 31 (nI (r + 1))))) hl (w := w) (pa := pa) (r := r + 1) (x := x) hw2 rfl (by omega)) rfl rfl (by decide) (by decide) (Nat.le_of_ble_eq_true rfl) (by decide) (by decide) ?_
  refine Z.eqσ (τ := (zuX (zuX σ 65 (upd (upd (upd (zX σ 65) (r) (nI 11)) (r + 1) (nI 60)) (r + 2) (nI 10))) 45 (upd (zX σ 45) 31 (nI (r + 3))))) (by rw [show zX (zuX (zuX σ 65 (upd (zX σ 65) (r) (nI 11))) 45 (upd (zX σ 45) 31 (nI (r + 1)))) 65 = upd (zX σ 65) (r) (nI 11) from rfl, show zX (zuX (zuX σ 65 (upd (zX σ 65) (r) (nI 11))) 45 (upd (zX σ 45) 31 (nI (r + 1)))) 45 = upd (zX σ 45) 31 (nI (r + 1)) from rfl, upd_upd, zuX_sw (by decide), zuX_sw (by decide)]; try rfl) ?_
  refine Z.iconst B dX12_asks_72 (v := nI 2) rfl ?_
  refine Z.imul B dX12_asks_73 ?_
  refine Z.istore B dX12_asks_74 (by decide) (L' := [(0, .ref 45), (1, .int (nI w)), (2, .int x), (3, .int (nI 5)), (4, .int x), (5, .int (((x + nI w) * nI 2) * (nI 2)))]) rfl ?_
  refine Z.iload_n B dX12_asks_76 (x := nI 5) rfl ?_
  refine Z.iconst B dX12_asks_77 (v := nI 2) rfl ?_
  refine Z.icmp_neN B dX12_asks_78 (tgt := 88) rfl (by omega) (by omega) (fun h78 => ?_) (fun h78 => by exfalso; first | omega | contradiction | simp_all)
  refine Z.iload B dX12_asks_88 (x := (((x + nI w) * nI 2) * (nI 2))) rfl ?_
  refine Z.iret B Rt dX12_asks_90 (ty := .int) rfl rfl (by decide) (by decide) ?_
  exact ⟨rfl, rfl⟩

theorem t_X12_asks_6 {σ : zSt} (hl : Lay σ) {w pa r : Nat} {x : Int32} (hw : zMy σ w 6 pa) (hr : zX σ 45 31 = nI r) (hr20 : r + 4 ≤ 20) : Dt mX12_asks [.ref 45, .int (nI w), .int x] σ (some (.int ((((x - nI pa) + nI w) * nI 2) * nI 2))) (zuX (zuX σ 65 (upd (upd (upd (upd (zX σ 65) (r) (nI 71)) (r + 1) (nI 11)) (r + 2) (nI 60)) (r + 3) (nI 10))) 45 (upd (zX σ 45) 31 (nI (r + 4)))) := by
  refine Dt.of (by decide) (Nat.le_of_ble_eq_true rfl) fun κ B Rt => ?_
  show Z κ 0 0 σ 0 [(0, .ref 45), (1, .int (nI w)), (2, .int x)] []
  have hw2 := hw
  obtain ⟨hk, hp, hkd, hpa, hw8⟩ := hw
  refine Z.aload_n B dX12_asks_0 (v := .ref 45) rfl rfl ?_
  refine Z.getR (σ := σ) B fX12_35_12 dX12_asks_1 (hl.n (k := 45) (by decide)) (hl.k (k := 45) (by decide)) (by decide) (j := 52) (hl.r (k := 45) (f := 11) (by decide) (by decide)) ?_
  refine Z.iload_n B dX12_asks_4 (x := nI w) rfl ?_
  refine Z.iald (σ := σ) B dX12_asks_5 (n := 8) (hl.n (k := 52) (by decide)) (hl.k (k := 52) (by decide)) (hl.l (k := 52) (by decide)) (by decide) (j := w) rfl (by omega) (v := nI 6) hk ?_
  refine Z.istore_n B dX12_asks_6 (by decide) (L' := [(0, .ref 45), (1, .int (nI w)), (2, .int x), (3, .int (nI 6))]) rfl ?_
  refine Z.iload_n B dX12_asks_7 (x := x) rfl ?_
  refine Z.istore B dX12_asks_8 (by decide) (L' := [(0, .ref 45), (1, .int (nI w)), (2, .int x), (3, .int (nI 6)), (4, .int x)]) rfl ?_
  refine Z.iload_n B dX12_asks_10 (x := nI 6) rfl ?_
  refine Z.iconst B dX12_asks_11 (v := nI 2) rfl ?_
  refine Z.icmp_neN B dX12_asks_12 (tgt := 21) rfl (by omega) (by omega) (fun h12 => ?_) (fun h12 => by exfalso; first | omega | contradiction | simp_all)
  refine Z.iload_n B dX12_asks_21 (x := nI 6) rfl ?_
  refine Z.iconst B dX12_asks_22 (v := nI 3) rfl ?_
  refine Z.icmp_neN B dX12_asks_23 (tgt := 37) rfl (by omega) (by omega) (fun h23 => ?_) (fun h23 => by exfalso; first | omega | contradiction | simp_all)
  refine Z.iload_n B dX12_asks_37 (x := nI 6) rfl ?_
  refine Z.bipush B dX12_asks_38 (v := nI 6) rfl ?_
  refine Z.icmp_neN B dX12_asks_40 (tgt := 59) rfl (by omega) (by omega) (fun h40 => by exfalso; first | omega | contradiction | simp_all) (fun h40 => ?_)
  refine Z.aload_n B dX12_asks_43 (v := .ref 45) rfl rfl ?_
  refine Z.bipush B dX12_asks_44 (v := nI 71) rfl ?_
  refine Z.callVN (σ := σ) B (M' := mX12_body) (as := [.int (nI 71)]) (st := []) dX12_asks_46 wX12_body iX12_body sX12_body kX12_229 (hl.n (k := 45) (by decide)) (hl.k (k := 45) (by decide)) (by decide) rfl rfl (t_X12_body (σ := σ) hl (r := r) hr (by omega) (b := nI 71)) rfl rfl (by decide) (by decide) (Nat.le_of_ble_eq_true rfl) (by decide) (by decide) ?_
  refine Z.eqσ (τ := (zuX (zuX σ 65 (upd (zX σ 65) (r) (nI 71))) 45 (upd (zX σ 45) 31 (nI (r + 1))))) rfl ?_
  refine Z.iload_n B dX12_asks_49 (x := x) rfl ?_
  refine Z.aload_n B dX12_asks_50 (v := .ref 45) rfl rfl ?_
  refine Z.getR (σ := (zuX (zuX σ 65 (upd (zX σ 65) (r) (nI 71))) 45 (upd (zX σ 45) 31 (nI (r + 1))))) B fX12_38_12 dX12_asks_51 (hl.n (k := 45) (by decide)) (hl.k (k := 45) (by decide)) (by decide) (j := 53) (hl.r (k := 45) (f := 12) (by decide) (by decide)) ?_
  refine Z.iload_n B dX12_asks_54 (x := nI w) rfl ?_
  refine Z.iald (σ := (zuX (zuX σ 65 (upd (zX σ 65) (r) (nI 71))) 45 (upd (zX σ 45) 31 (nI (r + 1))))) B dX12_asks_55 (n := 8) (hl.n (k := 53) (by decide)) (hl.k (k := 53) (by decide)) (hl.l (k := 53) (by decide)) (by decide) (j := w) rfl (by omega) (v := nI pa) hp ?_
  refine Z.isub B dX12_asks_56 ?_
  refine Z.istore B dX12_asks_57 (by decide) (L' := [(0, .ref 45), (1, .int (nI w)), (2, .int x), (3, .int (nI 6)), (4, .int (x - (nI pa)))]) rfl ?_
  refine Z.aload_n B dX12_asks_59 (v := .ref 45) rfl rfl ?_
  refine Z.bipush B dX12_asks_60 (v := nI 11) rfl ?_
  refine Z.callVN (σ := (zuX (zuX σ 65 (upd (zX σ 65) (r) (nI 71))) 45 (upd (zX σ 45) 31 (nI (r + 1))))) B (M' := mX12_body) (as := [.int (nI 11)]) (st := []) dX12_asks_62 wX12_body iX12_body sX12_body kX12_229 (hl.n (k := 45) (by decide)) (hl.k (k := 45) (by decide)) (by decide) rfl rfl (t_X12_body (σ := (zuX (zuX σ 65 (upd (zX σ 65) (r) (nI 71))) 45 (upd (zX σ 45) 31 (nI (r + 1))))) hl (r := r + 1) rfl (by omega) (b := nI 11)) rfl rfl (by decide) (by decide) (Nat.le_of_ble_eq_true rfl) (by decide) (by decide) ?_
  refine Z.eqσ (τ := (zuX (zuX σ 65 (upd (upd (zX σ 65) (r) (nI 71)) (r + 1) (nI 11))) 45 (upd (zX σ 45) 31 (nI (r + 2))))) (by rw [show zX (zuX (zuX σ 65 (upd (zX σ 65) (r) (nI 71))) 45 (upd (zX σ 45) 31 (nI (r + 1)))) 65 = upd (zX σ 65) (r) (nI 71) from rfl, show zX (zuX (zuX σ 65 (upd (zX σ 65) (r) (nI 71))) 45 (upd (zX σ 45) 31 (nI (r + 1)))) 45 = upd (zX σ 45) 31 (nI (r + 1)) from rfl, upd_upd, zuX_sw (by decide), zuX_sw (by decide)]; try rfl) ?_
  refine Z.aload_n B dX12_asks_65 (v := .ref 45) rfl rfl ?_
  refine Z.iload_n B dX12_asks_66 (x := nI w) rfl ?_
  refine Z.iload B dX12_asks_67 (x := (x - (nI pa))) rfl ?_
  refine Z.callVI (σ := (zuX (zuX σ 65 (upd (upd (zX σ 65) (r) (nI 71)) (r + 1) (nI 11))) 45 (upd (zX σ 45) 31 (nI (r + 2))))) B (M' := mX12_feels) (as := [.int (nI w), .int (x - (nI pa))]) (st := []) (v := .int (((x - nI pa) + nI w) * nI 2)) dX12_asks_69 wX12_feels iX12_feels sX12_feels kX12_233 (hl.n (k := 45) (by decide)) (hl.k (k := 45) (by decide)) (by decide) rfl rfl (t_X12_feels_6 (σ := (zuX (zuX σ 65 (upd (upd (zX σ 65) (r) (nI 71)) (r + 1) (nI 11))) 45 (upd (zX σ 45) 31 (nI (r + 2))))) hl (w := w) (pa := pa) (r := r + 2) (x := (x - nI pa)) hw2 rfl (by omega)) rfl rfl (by decide) (by decide) (Nat.le_of_ble_eq_true rfl) (by decide) (by decide) ?_
  refine Z.eqσ (τ := (zuX (zuX σ 65 (upd (upd (upd (upd (zX σ 65) (r) (nI 71)) (r + 1) (nI 11)) (r + 2) (nI 60)) (r + 3) (nI 10))) 45 (upd (zX σ 45) 31 (nI (r + 4))))) (by rw [show zX (zuX (zuX σ 65 (upd (upd (zX σ 65) (r) (nI 71)) (r + 1) (nI 11))) 45 (upd (zX σ 45) 31 (nI (r + 2)))) 65 = upd (upd (zX σ 65) (r) (nI 71)) (r + 1) (nI 11) from rfl, show zX (zuX (zuX σ 65 (upd (upd (zX σ 65) (r) (nI 71)) (r + 1) (nI 11))) 45 (upd (zX σ 45) 31 (nI (r + 2)))) 45 = upd (zX σ 45) 31 (nI (r + 2)) from rfl, upd_upd, zuX_sw (by decide), zuX_sw (by decide)]; try rfl) ?_
  refine Z.iconst B dX12_asks_72 (v := nI 2) rfl ?_
  refine Z.imul B dX12_asks_73 ?_
  refine Z.istore B dX12_asks_74 (by decide) (L' := [(0, .ref 45), (1, .int (nI w)), (2, .int x), (3, .int (nI 6)), (4, .int (x - (nI pa))), (5, .int ((((x - nI pa) + nI w) * nI 2) * (nI 2)))]) rfl ?_
  refine Z.iload_n B dX12_asks_76 (x := nI 6) rfl ?_
  refine Z.iconst B dX12_asks_77 (v := nI 2) rfl ?_
  refine Z.icmp_neN B dX12_asks_78 (tgt := 88) rfl (by omega) (by omega) (fun h78 => ?_) (fun h78 => by exfalso; first | omega | contradiction | simp_all)
  refine Z.iload B dX12_asks_88 (x := ((((x - nI pa) + nI w) * nI 2) * (nI 2))) rfl ?_
  refine Z.iret B Rt dX12_asks_90 (ty := .int) rfl rfl (by decide) (by decide) ?_
  exact ⟨rfl, rfl⟩

theorem t_X12_sums_0 {σ : zSt} (hl : Lay σ) {w pa r : Nat} {x : Int32} (hw : zMy σ w 0 pa) (hr : zX σ 45 31 = nI r) (hr20 : r + 4 ≤ 20) : Dt mX12_sums [.ref 45, .int (nI w), .int x] σ (some (.int (((x + nI w) * nI 2) ^^^ ((x - nI pa) + nI w)))) (zuX (zuX σ 65 (upd (upd (upd (upd (zX σ 65) (r) (nI 12)) (r + 1) (nI 11)) (r + 2) (nI 10)) (r + 3) (nI 10))) 45 (upd (zX σ 45) 31 (nI (r + 4)))) := by
  refine Dt.of (by decide) (Nat.le_of_ble_eq_true rfl) fun κ B Rt => ?_
  show Z κ 0 0 σ 0 [(0, .ref 45), (1, .int (nI w)), (2, .int x)] []
  have hw2 := hw
  obtain ⟨hk, hp, hkd, hpa, hw8⟩ := hw
  refine Z.aload_n B dX12_sums_0 (v := .ref 45) rfl rfl ?_
  refine Z.getR (σ := σ) B fX12_35_12 dX12_sums_1 (hl.n (k := 45) (by decide)) (hl.k (k := 45) (by decide)) (by decide) (j := 52) (hl.r (k := 45) (f := 11) (by decide) (by decide)) ?_
  refine Z.iload_n B dX12_sums_4 (x := nI w) rfl ?_
  refine Z.iald (σ := σ) B dX12_sums_5 (n := 8) (hl.n (k := 52) (by decide)) (hl.k (k := 52) (by decide)) (hl.l (k := 52) (by decide)) (by decide) (j := w) rfl (by omega) (v := nI 0) hk ?_
  refine Z.istore_n B dX12_sums_6 (by decide) (L' := [(0, .ref 45), (1, .int (nI w)), (2, .int x), (3, .int (nI 0))]) rfl ?_
  refine Z.iload_n B dX12_sums_7 (x := nI 0) rfl ?_
  refine Z.iconst B dX12_sums_8 (v := nI 3) rfl ?_
  refine Z.icmp_neN B dX12_sums_9 (tgt := 18) rfl (by omega) (by omega) (fun h9 => ?_) (fun h9 => by exfalso; first | omega | contradiction | simp_all)
  refine Z.iload_n B dX12_sums_18 (x := nI 0) rfl ?_
  refine Z.iconst B dX12_sums_19 (v := nI 4) rfl ?_
  refine Z.icmp_neN B dX12_sums_20 (tgt := 29) rfl (by omega) (by omega) (fun h20 => ?_) (fun h20 => by exfalso; first | omega | contradiction | simp_all)
  refine Z.iload_n B dX12_sums_29 (x := nI 0) rfl ?_
  refine Z.bipush B dX12_sums_30 (v := nI 6) rfl ?_
  refine Z.icmp_neN B dX12_sums_32 (tgt := 41) rfl (by omega) (by omega) (fun h32 => ?_) (fun h32 => by exfalso; first | omega | contradiction | simp_all)
  refine Z.aload_n B dX12_sums_41 (v := .ref 45) rfl rfl ?_
  refine Z.bipush B dX12_sums_42 (v := nI 12) rfl ?_
  refine Z.callVN (σ := σ) B (M' := mX12_body) (as := [.int (nI 12)]) (st := []) dX12_sums_44 wX12_body iX12_body sX12_body kX12_229 (hl.n (k := 45) (by decide)) (hl.k (k := 45) (by decide)) (by decide) rfl rfl (t_X12_body (σ := σ) hl (r := r) hr (by omega) (b := nI 12)) rfl rfl (by decide) (by decide) (Nat.le_of_ble_eq_true rfl) (by decide) (by decide) ?_
  refine Z.eqσ (τ := (zuX (zuX σ 65 (upd (zX σ 65) (r) (nI 12))) 45 (upd (zX σ 45) 31 (nI (r + 1))))) rfl ?_
  refine Z.aload_n B dX12_sums_47 (v := .ref 45) rfl rfl ?_
  refine Z.iload_n B dX12_sums_48 (x := nI w) rfl ?_
  refine Z.iload_n B dX12_sums_49 (x := x) rfl ?_
  refine Z.callVI (σ := (zuX (zuX σ 65 (upd (zX σ 65) (r) (nI 12))) 45 (upd (zX σ 45) 31 (nI (r + 1))))) B (M' := mX12_asks) (as := [.int (nI w), .int x]) (st := []) (v := .int ((x + nI w) * nI 2)) dX12_sums_50 wX12_asks iX12_asks sX12_asks kX12_236 (hl.n (k := 45) (by decide)) (hl.k (k := 45) (by decide)) (by decide) rfl rfl (t_X12_asks_0 (σ := (zuX (zuX σ 65 (upd (zX σ 65) (r) (nI 12))) 45 (upd (zX σ 45) 31 (nI (r + 1))))) hl (w := w) (pa := pa) (r := r + 1) (x := x) hw2 rfl (by omega)) rfl rfl (by decide) (by decide) (Nat.le_of_ble_eq_true rfl) (by decide) (by decide) ?_
  refine Z.eqσ (τ := (zuX (zuX σ 65 (upd (upd (upd (zX σ 65) (r) (nI 12)) (r + 1) (nI 11)) (r + 2) (nI 10))) 45 (upd (zX σ 45) 31 (nI (r + 3))))) (by rw [show zX (zuX (zuX σ 65 (upd (zX σ 65) (r) (nI 12))) 45 (upd (zX σ 45) 31 (nI (r + 1)))) 65 = upd (zX σ 65) (r) (nI 12) from rfl, show zX (zuX (zuX σ 65 (upd (zX σ 65) (r) (nI 12))) 45 (upd (zX σ 45) 31 (nI (r + 1)))) 45 = upd (zX σ 45) 31 (nI (r + 1)) from rfl, upd_upd, zuX_sw (by decide), zuX_sw (by decide)]; try rfl) ?_
  refine Z.istore B dX12_sums_53 (by decide) (L' := [(0, .ref 45), (1, .int (nI w)), (2, .int x), (3, .int (nI 0)), (4, .int ((x + nI w) * nI 2))]) rfl ?_
  refine Z.iload B dX12_sums_55 (x := ((x + nI w) * nI 2)) rfl ?_
  refine Z.aload_n B dX12_sums_57 (v := .ref 45) rfl rfl ?_
  refine Z.iload_n B dX12_sums_58 (x := nI w) rfl ?_
  refine Z.iload_n B dX12_sums_59 (x := x) rfl ?_
  refine Z.aload_n B dX12_sums_60 (v := .ref 45) rfl rfl ?_
  refine Z.getR (σ := (zuX (zuX σ 65 (upd (upd (upd (zX σ 65) (r) (nI 12)) (r + 1) (nI 11)) (r + 2) (nI 10))) 45 (upd (zX σ 45) 31 (nI (r + 3))))) B fX12_38_12 dX12_sums_61 (hl.n (k := 45) (by decide)) (hl.k (k := 45) (by decide)) (by decide) (j := 53) (hl.r (k := 45) (f := 12) (by decide) (by decide)) ?_
  refine Z.iload_n B dX12_sums_64 (x := nI w) rfl ?_
  refine Z.iald (σ := (zuX (zuX σ 65 (upd (upd (upd (zX σ 65) (r) (nI 12)) (r + 1) (nI 11)) (r + 2) (nI 10))) 45 (upd (zX σ 45) 31 (nI (r + 3))))) B dX12_sums_65 (n := 8) (hl.n (k := 53) (by decide)) (hl.k (k := 53) (by decide)) (hl.l (k := 53) (by decide)) (by decide) (j := w) rfl (by omega) (v := nI pa) hp ?_
  refine Z.isub B dX12_sums_66 ?_
  refine Z.callVI (σ := (zuX (zuX σ 65 (upd (upd (upd (zX σ 65) (r) (nI 12)) (r + 1) (nI 11)) (r + 2) (nI 10))) 45 (upd (zX σ 45) 31 (nI (r + 3))))) B (M' := mX12_feels) (as := [.int (nI w), .int (x - (nI pa))]) (st := [.int ((x + nI w) * nI 2)]) (v := .int ((x - nI pa) + nI w)) dX12_sums_67 wX12_feels iX12_feels sX12_feels kX12_233 (hl.n (k := 45) (by decide)) (hl.k (k := 45) (by decide)) (by decide) rfl rfl (t_X12_feels_0 (σ := (zuX (zuX σ 65 (upd (upd (upd (zX σ 65) (r) (nI 12)) (r + 1) (nI 11)) (r + 2) (nI 10))) 45 (upd (zX σ 45) 31 (nI (r + 3))))) hl (w := w) (pa := pa) (r := r + 3) (x := (x - nI pa)) hw2 rfl (by omega)) rfl rfl (by decide) (by decide) (Nat.le_of_ble_eq_true rfl) (by decide) (by decide) ?_
  refine Z.eqσ (τ := (zuX (zuX σ 65 (upd (upd (upd (upd (zX σ 65) (r) (nI 12)) (r + 1) (nI 11)) (r + 2) (nI 10)) (r + 3) (nI 10))) 45 (upd (zX σ 45) 31 (nI (r + 4))))) (by rw [show zX (zuX (zuX σ 65 (upd (upd (upd (zX σ 65) (r) (nI 12)) (r + 1) (nI 11)) (r + 2) (nI 10))) 45 (upd (zX σ 45) 31 (nI (r + 3)))) 65 = upd (upd (upd (zX σ 65) (r) (nI 12)) (r + 1) (nI 11)) (r + 2) (nI 10) from rfl, show zX (zuX (zuX σ 65 (upd (upd (upd (zX σ 65) (r) (nI 12)) (r + 1) (nI 11)) (r + 2) (nI 10))) 45 (upd (zX σ 45) 31 (nI (r + 3)))) 45 = upd (zX σ 45) 31 (nI (r + 3)) from rfl, upd_upd, zuX_sw (by decide), zuX_sw (by decide)]; try rfl) ?_
  refine Z.ixor B dX12_sums_70 ?_
  refine Z.istore B dX12_sums_71 (by decide) (L' := [(0, .ref 45), (1, .int (nI w)), (2, .int x), (3, .int (nI 0)), (4, .int (((x + nI w) * nI 2) ^^^ ((x - nI pa) + nI w)))]) rfl ?_
  refine Z.iload_n B dX12_sums_73 (x := nI 0) rfl ?_
  refine Z.iconst B dX12_sums_74 (v := nI 3) rfl ?_
  refine Z.icmp_neN B dX12_sums_75 (tgt := 85) rfl (by omega) (by omega) (fun h75 => ?_) (fun h75 => by exfalso; first | omega | contradiction | simp_all)
  refine Z.iload_n B dX12_sums_85 (x := nI 0) rfl ?_
  refine Z.iconst B dX12_sums_86 (v := nI 4) rfl ?_
  refine Z.icmp_neN B dX12_sums_87 (tgt := 96) rfl (by omega) (by omega) (fun h87 => ?_) (fun h87 => by exfalso; first | omega | contradiction | simp_all)
  refine Z.iload_n B dX12_sums_96 (x := nI 0) rfl ?_
  refine Z.bipush B dX12_sums_97 (v := nI 6) rfl ?_
  refine Z.icmp_neN B dX12_sums_99 (tgt := 109) rfl (by omega) (by omega) (fun h99 => ?_) (fun h99 => by exfalso; first | omega | contradiction | simp_all)
  refine Z.iload B dX12_sums_109 (x := (((x + nI w) * nI 2) ^^^ ((x - nI pa) + nI w))) rfl ?_
  refine Z.iret B Rt dX12_sums_111 (ty := .int) rfl rfl (by decide) (by decide) ?_
  exact ⟨rfl, rfl⟩

theorem t_X12_sums_1 {σ : zSt} (hl : Lay σ) {w pa r : Nat} {x : Int32} (hw : zMy σ w 1 pa) (hr : zX σ 45 31 = nI r) (hr20 : r + 6 ≤ 20) : Dt mX12_sums [.ref 45, .int (nI w), .int x] σ (some (.int (((x + nI w + nI pa) * nI 2) ^^^ ((x - nI pa) + nI w + nI pa)))) (zuX (zuX σ 65 (upd (upd (upd (upd (upd (upd (zX σ 65) (r) (nI 12)) (r + 1) (nI 11)) (r + 2) (nI 20)) (r + 3) (nI 10)) (r + 4) (nI 20)) (r + 5) (nI 10))) 45 (upd (zX σ 45) 31 (nI (r + 6)))) := by
  refine Dt.of (by decide) (Nat.le_of_ble_eq_true rfl) fun κ B Rt => ?_
  show Z κ 0 0 σ 0 [(0, .ref 45), (1, .int (nI w)), (2, .int x)] []
  have hw2 := hw
  obtain ⟨hk, hp, hkd, hpa, hw8⟩ := hw
  refine Z.aload_n B dX12_sums_0 (v := .ref 45) rfl rfl ?_
  refine Z.getR (σ := σ) B fX12_35_12 dX12_sums_1 (hl.n (k := 45) (by decide)) (hl.k (k := 45) (by decide)) (by decide) (j := 52) (hl.r (k := 45) (f := 11) (by decide) (by decide)) ?_
  refine Z.iload_n B dX12_sums_4 (x := nI w) rfl ?_
  refine Z.iald (σ := σ) B dX12_sums_5 (n := 8) (hl.n (k := 52) (by decide)) (hl.k (k := 52) (by decide)) (hl.l (k := 52) (by decide)) (by decide) (j := w) rfl (by omega) (v := nI 1) hk ?_
  refine Z.istore_n B dX12_sums_6 (by decide) (L' := [(0, .ref 45), (1, .int (nI w)), (2, .int x), (3, .int (nI 1))]) rfl ?_
  refine Z.iload_n B dX12_sums_7 (x := nI 1) rfl ?_
  refine Z.iconst B dX12_sums_8 (v := nI 3) rfl ?_
  refine Z.icmp_neN B dX12_sums_9 (tgt := 18) rfl (by omega) (by omega) (fun h9 => ?_) (fun h9 => by exfalso; first | omega | contradiction | simp_all)
  refine Z.iload_n B dX12_sums_18 (x := nI 1) rfl ?_
  refine Z.iconst B dX12_sums_19 (v := nI 4) rfl ?_
  refine Z.icmp_neN B dX12_sums_20 (tgt := 29) rfl (by omega) (by omega) (fun h20 => ?_) (fun h20 => by exfalso; first | omega | contradiction | simp_all)
  refine Z.iload_n B dX12_sums_29 (x := nI 1) rfl ?_
  refine Z.bipush B dX12_sums_30 (v := nI 6) rfl ?_
  refine Z.icmp_neN B dX12_sums_32 (tgt := 41) rfl (by omega) (by omega) (fun h32 => ?_) (fun h32 => by exfalso; first | omega | contradiction | simp_all)
  refine Z.aload_n B dX12_sums_41 (v := .ref 45) rfl rfl ?_
  refine Z.bipush B dX12_sums_42 (v := nI 12) rfl ?_
  refine Z.callVN (σ := σ) B (M' := mX12_body) (as := [.int (nI 12)]) (st := []) dX12_sums_44 wX12_body iX12_body sX12_body kX12_229 (hl.n (k := 45) (by decide)) (hl.k (k := 45) (by decide)) (by decide) rfl rfl (t_X12_body (σ := σ) hl (r := r) hr (by omega) (b := nI 12)) rfl rfl (by decide) (by decide) (Nat.le_of_ble_eq_true rfl) (by decide) (by decide) ?_
  refine Z.eqσ (τ := (zuX (zuX σ 65 (upd (zX σ 65) (r) (nI 12))) 45 (upd (zX σ 45) 31 (nI (r + 1))))) rfl ?_
  refine Z.aload_n B dX12_sums_47 (v := .ref 45) rfl rfl ?_
  refine Z.iload_n B dX12_sums_48 (x := nI w) rfl ?_
  refine Z.iload_n B dX12_sums_49 (x := x) rfl ?_
  refine Z.callVI (σ := (zuX (zuX σ 65 (upd (zX σ 65) (r) (nI 12))) 45 (upd (zX σ 45) 31 (nI (r + 1))))) B (M' := mX12_asks) (as := [.int (nI w), .int x]) (st := []) (v := .int ((x + nI w + nI pa) * nI 2)) dX12_sums_50 wX12_asks iX12_asks sX12_asks kX12_236 (hl.n (k := 45) (by decide)) (hl.k (k := 45) (by decide)) (by decide) rfl rfl (t_X12_asks_1 (σ := (zuX (zuX σ 65 (upd (zX σ 65) (r) (nI 12))) 45 (upd (zX σ 45) 31 (nI (r + 1))))) hl (w := w) (pa := pa) (r := r + 1) (x := x) hw2 rfl (by omega)) rfl rfl (by decide) (by decide) (Nat.le_of_ble_eq_true rfl) (by decide) (by decide) ?_
  refine Z.eqσ (τ := (zuX (zuX σ 65 (upd (upd (upd (upd (zX σ 65) (r) (nI 12)) (r + 1) (nI 11)) (r + 2) (nI 20)) (r + 3) (nI 10))) 45 (upd (zX σ 45) 31 (nI (r + 4))))) (by rw [show zX (zuX (zuX σ 65 (upd (zX σ 65) (r) (nI 12))) 45 (upd (zX σ 45) 31 (nI (r + 1)))) 65 = upd (zX σ 65) (r) (nI 12) from rfl, show zX (zuX (zuX σ 65 (upd (zX σ 65) (r) (nI 12))) 45 (upd (zX σ 45) 31 (nI (r + 1)))) 45 = upd (zX σ 45) 31 (nI (r + 1)) from rfl, upd_upd, zuX_sw (by decide), zuX_sw (by decide)]; try rfl) ?_
  refine Z.istore B dX12_sums_53 (by decide) (L' := [(0, .ref 45), (1, .int (nI w)), (2, .int x), (3, .int (nI 1)), (4, .int ((x + nI w + nI pa) * nI 2))]) rfl ?_
  refine Z.iload B dX12_sums_55 (x := ((x + nI w + nI pa) * nI 2)) rfl ?_
  refine Z.aload_n B dX12_sums_57 (v := .ref 45) rfl rfl ?_
  refine Z.iload_n B dX12_sums_58 (x := nI w) rfl ?_
  refine Z.iload_n B dX12_sums_59 (x := x) rfl ?_
  refine Z.aload_n B dX12_sums_60 (v := .ref 45) rfl rfl ?_
  refine Z.getR (σ := (zuX (zuX σ 65 (upd (upd (upd (upd (zX σ 65) (r) (nI 12)) (r + 1) (nI 11)) (r + 2) (nI 20)) (r + 3) (nI 10))) 45 (upd (zX σ 45) 31 (nI (r + 4))))) B fX12_38_12 dX12_sums_61 (hl.n (k := 45) (by decide)) (hl.k (k := 45) (by decide)) (by decide) (j := 53) (hl.r (k := 45) (f := 12) (by decide) (by decide)) ?_
  refine Z.iload_n B dX12_sums_64 (x := nI w) rfl ?_
  refine Z.iald (σ := (zuX (zuX σ 65 (upd (upd (upd (upd (zX σ 65) (r) (nI 12)) (r + 1) (nI 11)) (r + 2) (nI 20)) (r + 3) (nI 10))) 45 (upd (zX σ 45) 31 (nI (r + 4))))) B dX12_sums_65 (n := 8) (hl.n (k := 53) (by decide)) (hl.k (k := 53) (by decide)) (hl.l (k := 53) (by decide)) (by decide) (j := w) rfl (by omega) (v := nI pa) hp ?_
  refine Z.isub B dX12_sums_66 ?_
  refine Z.callVI (σ := (zuX (zuX σ 65 (upd (upd (upd (upd (zX σ 65) (r) (nI 12)) (r + 1) (nI 11)) (r + 2) (nI 20)) (r + 3) (nI 10))) 45 (upd (zX σ 45) 31 (nI (r + 4))))) B (M' := mX12_feels) (as := [.int (nI w), .int (x - (nI pa))]) (st := [.int ((x + nI w + nI pa) * nI 2)]) (v := .int ((x - nI pa) + nI w + nI pa)) dX12_sums_67 wX12_feels iX12_feels sX12_feels kX12_233 (hl.n (k := 45) (by decide)) (hl.k (k := 45) (by decide)) (by decide) rfl rfl (t_X12_feels_1 (σ := (zuX (zuX σ 65 (upd (upd (upd (upd (zX σ 65) (r) (nI 12)) (r + 1) (nI 11)) (r + 2) (nI 20)) (r + 3) (nI 10))) 45 (upd (zX σ 45) 31 (nI (r + 4))))) hl (w := w) (pa := pa) (r := r + 4) (x := (x - nI pa)) hw2 rfl (by omega)) rfl rfl (by decide) (by decide) (Nat.le_of_ble_eq_true rfl) (by decide) (by decide) ?_
  refine Z.eqσ (τ := (zuX (zuX σ 65 (upd (upd (upd (upd (upd (upd (zX σ 65) (r) (nI 12)) (r + 1) (nI 11)) (r + 2) (nI 20)) (r + 3) (nI 10)) (r + 4) (nI 20)) (r + 5) (nI 10))) 45 (upd (zX σ 45) 31 (nI (r + 6))))) (by rw [show zX (zuX (zuX σ 65 (upd (upd (upd (upd (zX σ 65) (r) (nI 12)) (r + 1) (nI 11)) (r + 2) (nI 20)) (r + 3) (nI 10))) 45 (upd (zX σ 45) 31 (nI (r + 4)))) 65 = upd (upd (upd (upd (zX σ 65) (r) (nI 12)) (r + 1) (nI 11)) (r + 2) (nI 20)) (r + 3) (nI 10) from rfl, show zX (zuX (zuX σ 65 (upd (upd (upd (upd (zX σ 65) (r) (nI 12)) (r + 1) (nI 11)) (r + 2) (nI 20)) (r + 3) (nI 10))) 45 (upd (zX σ 45) 31 (nI (r + 4)))) 45 = upd (zX σ 45) 31 (nI (r + 4)) from rfl, upd_upd, zuX_sw (by decide), zuX_sw (by decide)]; try rfl) ?_
  refine Z.ixor B dX12_sums_70 ?_
  refine Z.istore B dX12_sums_71 (by decide) (L' := [(0, .ref 45), (1, .int (nI w)), (2, .int x), (3, .int (nI 1)), (4, .int (((x + nI w + nI pa) * nI 2) ^^^ ((x - nI pa) + nI w + nI pa)))]) rfl ?_
  refine Z.iload_n B dX12_sums_73 (x := nI 1) rfl ?_
  refine Z.iconst B dX12_sums_74 (v := nI 3) rfl ?_
  refine Z.icmp_neN B dX12_sums_75 (tgt := 85) rfl (by omega) (by omega) (fun h75 => ?_) (fun h75 => by exfalso; first | omega | contradiction | simp_all)
  refine Z.iload_n B dX12_sums_85 (x := nI 1) rfl ?_
  refine Z.iconst B dX12_sums_86 (v := nI 4) rfl ?_
  refine Z.icmp_neN B dX12_sums_87 (tgt := 96) rfl (by omega) (by omega) (fun h87 => ?_) (fun h87 => by exfalso; first | omega | contradiction | simp_all)
  refine Z.iload_n B dX12_sums_96 (x := nI 1) rfl ?_
  refine Z.bipush B dX12_sums_97 (v := nI 6) rfl ?_
  refine Z.icmp_neN B dX12_sums_99 (tgt := 109) rfl (by omega) (by omega) (fun h99 => ?_) (fun h99 => by exfalso; first | omega | contradiction | simp_all)
  refine Z.iload B dX12_sums_109 (x := (((x + nI w + nI pa) * nI 2) ^^^ ((x - nI pa) + nI w + nI pa))) rfl ?_
  refine Z.iret B Rt dX12_sums_111 (ty := .int) rfl rfl (by decide) (by decide) ?_
  exact ⟨rfl, rfl⟩

theorem t_X12_sums_2 {σ : zSt} (hl : Lay σ) {w pa r : Nat} {x : Int32} (hw : zMy σ w 2 pa) (hr : zX σ 45 31 = nI r) (hr20 : r + 7 ≤ 20) : Dt mX12_sums [.ref 45, .int (nI w), .int x] σ (some (.int ((((x + nI w + nI pa) * nI 2) * nI 3) ^^^ ((x - nI pa) + nI w + nI pa)))) (zuX (zuX σ 65 (upd (upd (upd (upd (upd (upd (upd (zX σ 65) (r) (nI 12)) (r + 1) (nI 30)) (r + 2) (nI 11)) (r + 3) (nI 20)) (r + 4) (nI 10)) (r + 5) (nI 20)) (r + 6) (nI 10))) 45 (upd (zX σ 45) 31 (nI (r + 7)))) := by
  refine Dt.of (by decide) (Nat.le_of_ble_eq_true rfl) fun κ B Rt => ?_
  show Z κ 0 0 σ 0 [(0, .ref 45), (1, .int (nI w)), (2, .int x)] []
  have hw2 := hw
  obtain ⟨hk, hp, hkd, hpa, hw8⟩ := hw
  refine Z.aload_n B dX12_sums_0 (v := .ref 45) rfl rfl ?_
  refine Z.getR (σ := σ) B fX12_35_12 dX12_sums_1 (hl.n (k := 45) (by decide)) (hl.k (k := 45) (by decide)) (by decide) (j := 52) (hl.r (k := 45) (f := 11) (by decide) (by decide)) ?_
  refine Z.iload_n B dX12_sums_4 (x := nI w) rfl ?_
  refine Z.iald (σ := σ) B dX12_sums_5 (n := 8) (hl.n (k := 52) (by decide)) (hl.k (k := 52) (by decide)) (hl.l (k := 52) (by decide)) (by decide) (j := w) rfl (by omega) (v := nI 2) hk ?_
  refine Z.istore_n B dX12_sums_6 (by decide) (L' := [(0, .ref 45), (1, .int (nI w)), (2, .int x), (3, .int (nI 2))]) rfl ?_
  refine Z.iload_n B dX12_sums_7 (x := nI 2) rfl ?_
  refine Z.iconst B dX12_sums_8 (v := nI 3) rfl ?_
  refine Z.icmp_neN B dX12_sums_9 (tgt := 18) rfl (by omega) (by omega) (fun h9 => ?_) (fun h9 => by exfalso; first | omega | contradiction | simp_all)
  refine Z.iload_n B dX12_sums_18 (x := nI 2) rfl ?_
  refine Z.iconst B dX12_sums_19 (v := nI 4) rfl ?_
  refine Z.icmp_neN B dX12_sums_20 (tgt := 29) rfl (by omega) (by omega) (fun h20 => ?_) (fun h20 => by exfalso; first | omega | contradiction | simp_all)
  refine Z.iload_n B dX12_sums_29 (x := nI 2) rfl ?_
  refine Z.bipush B dX12_sums_30 (v := nI 6) rfl ?_
  refine Z.icmp_neN B dX12_sums_32 (tgt := 41) rfl (by omega) (by omega) (fun h32 => ?_) (fun h32 => by exfalso; first | omega | contradiction | simp_all)
  refine Z.aload_n B dX12_sums_41 (v := .ref 45) rfl rfl ?_
  refine Z.bipush B dX12_sums_42 (v := nI 12) rfl ?_
  refine Z.callVN (σ := σ) B (M' := mX12_body) (as := [.int (nI 12)]) (st := []) dX12_sums_44 wX12_body iX12_body sX12_body kX12_229 (hl.n (k := 45) (by decide)) (hl.k (k := 45) (by decide)) (by decide) rfl rfl (t_X12_body (σ := σ) hl (r := r) hr (by omega) (b := nI 12)) rfl rfl (by decide) (by decide) (Nat.le_of_ble_eq_true rfl) (by decide) (by decide) ?_
  refine Z.eqσ (τ := (zuX (zuX σ 65 (upd (zX σ 65) (r) (nI 12))) 45 (upd (zX σ 45) 31 (nI (r + 1))))) rfl ?_
  refine Z.aload_n B dX12_sums_47 (v := .ref 45) rfl rfl ?_
  refine Z.iload_n B dX12_sums_48 (x := nI w) rfl ?_
  refine Z.iload_n B dX12_sums_49 (x := x) rfl ?_
  refine Z.callVI (σ := (zuX (zuX σ 65 (upd (zX σ 65) (r) (nI 12))) 45 (upd (zX σ 45) 31 (nI (r + 1))))) B (M' := mX12_asks) (as := [.int (nI w), .int x]) (st := []) (v := .int (((x + nI w + nI pa) * nI 2) * nI 3)) dX12_sums_50 wX12_asks iX12_asks sX12_asks kX12_236 (hl.n (k := 45) (by decide)) (hl.k (k := 45) (by decide)) (by decide) rfl rfl (t_X12_asks_2 (σ := (zuX (zuX σ 65 (upd (zX σ 65) (r) (nI 12))) 45 (upd (zX σ 45) 31 (nI (r + 1))))) hl (w := w) (pa := pa) (r := r + 1) (x := x) hw2 rfl (by omega)) rfl rfl (by decide) (by decide) (Nat.le_of_ble_eq_true rfl) (by decide) (by decide) ?_
  refine Z.eqσ (τ := (zuX (zuX σ 65 (upd (upd (upd (upd (upd (zX σ 65) (r) (nI 12)) (r + 1) (nI 30)) (r + 2) (nI 11)) (r + 3) (nI 20)) (r + 4) (nI 10))) 45 (upd (zX σ 45) 31 (nI (r + 5))))) (by rw [show zX (zuX (zuX σ 65 (upd (zX σ 65) (r) (nI 12))) 45 (upd (zX σ 45) 31 (nI (r + 1)))) 65 = upd (zX σ 65) (r) (nI 12) from rfl, show zX (zuX (zuX σ 65 (upd (zX σ 65) (r) (nI 12))) 45 (upd (zX σ 45) 31 (nI (r + 1)))) 45 = upd (zX σ 45) 31 (nI (r + 1)) from rfl, upd_upd, zuX_sw (by decide), zuX_sw (by decide)]; try rfl) ?_
  refine Z.istore B dX12_sums_53 (by decide) (L' := [(0, .ref 45), (1, .int (nI w)), (2, .int x), (3, .int (nI 2)), (4, .int (((x + nI w + nI pa) * nI 2) * nI 3))]) rfl ?_
  refine Z.iload B dX12_sums_55 (x := (((x + nI w + nI pa) * nI 2) * nI 3)) rfl ?_
  refine Z.aload_n B dX12_sums_57 (v := .ref 45) rfl rfl ?_
  refine Z.iload_n B dX12_sums_58 (x := nI w) rfl ?_
  refine Z.iload_n B dX12_sums_59 (x := x) rfl ?_
  refine Z.aload_n B dX12_sums_60 (v := .ref 45) rfl rfl ?_
  refine Z.getR (σ := (zuX (zuX σ 65 (upd (upd (upd (upd (upd (zX σ 65) (r) (nI 12)) (r + 1) (nI 30)) (r + 2) (nI 11)) (r + 3) (nI 20)) (r + 4) (nI 10))) 45 (upd (zX σ 45) 31 (nI (r + 5))))) B fX12_38_12 dX12_sums_61 (hl.n (k := 45) (by decide)) (hl.k (k := 45) (by decide)) (by decide) (j := 53) (hl.r (k := 45) (f := 12) (by decide) (by decide)) ?_
  refine Z.iload_n B dX12_sums_64 (x := nI w) rfl ?_
  refine Z.iald (σ := (zuX (zuX σ 65 (upd (upd (upd (upd (upd (zX σ 65) (r) (nI 12)) (r + 1) (nI 30)) (r + 2) (nI 11)) (r + 3) (nI 20)) (r + 4) (nI 10))) 45 (upd (zX σ 45) 31 (nI (r + 5))))) B dX12_sums_65 (n := 8) (hl.n (k := 53) (by decide)) (hl.k (k := 53) (by decide)) (hl.l (k := 53) (by decide)) (by decide) (j := w) rfl (by omega) (v := nI pa) hp ?_
  refine Z.isub B dX12_sums_66 ?_
  refine Z.callVI (σ := (zuX (zuX σ 65 (upd (upd (upd (upd (upd (zX σ 65) (r) (nI 12)) (r + 1) (nI 30)) (r + 2) (nI 11)) (r + 3) (nI 20)) (r + 4) (nI 10))) 45 (upd (zX σ 45) 31 (nI (r + 5))))) B (M' := mX12_feels) (as := [.int (nI w), .int (x - (nI pa))]) (st := [.int (((x + nI w + nI pa) * nI 2) * nI 3)]) (v := .int ((x - nI pa) + nI w + nI pa)) dX12_sums_67 wX12_feels iX12_feels sX12_feels kX12_233 (hl.n (k := 45) (by decide)) (hl.k (k := 45) (by decide)) (by decide) rfl rfl (t_X12_feels_2 (σ := (zuX (zuX σ 65 (upd (upd (upd (upd (upd (zX σ 65) (r) (nI 12)) (r + 1) (nI 30)) (r + 2) (nI 11)) (r + 3) (nI 20)) (r + 4) (nI 10))) 45 (upd (zX σ 45) 31 (nI (r + 5))))) hl (w := w) (pa := pa) (r := r + 5) (x := (x - nI pa)) hw2 rfl (by omega)) rfl rfl (by decide) (by decide) (Nat.le_of_ble_eq_true rfl) (by decide) (by decide) ?_
  refine Z.eqσ (τ := (zuX (zuX σ 65 (upd (upd (upd (upd (upd (upd (upd (zX σ 65) (r) (nI 12)) (r + 1) (nI 30)) (r + 2) (nI 11)) (r + 3) (nI 20)) (r + 4) (nI 10)) (r + 5) (nI 20)) (r + 6) (nI 10))) 45 (upd (zX σ 45) 31 (nI (r + 7))))) (by rw [show zX (zuX (zuX σ 65 (upd (upd (upd (upd (upd (zX σ 65) (r) (nI 12)) (r + 1) (nI 30)) (r + 2) (nI 11)) (r + 3) (nI 20)) (r + 4) (nI 10))) 45 (upd (zX σ 45) 31 (nI (r + 5)))) 65 = upd (upd (upd (upd (upd (zX σ 65) (r) (nI 12)) (r + 1) (nI 30)) (r + 2) (nI 11)) (r + 3) (nI 20)) (r + 4) (nI 10) from rfl, show zX (zuX (zuX σ 65 (upd (upd (upd (upd (upd (zX σ 65) (r) (nI 12)) (r + 1) (nI 30)) (r + 2) (nI 11)) (r + 3) (nI 20)) (r + 4) (nI 10))) 45 (upd (zX σ 45) 31 (nI (r + 5)))) 45 = upd (zX σ 45) 31 (nI (r + 5)) from rfl, upd_upd, zuX_sw (by decide), zuX_sw (by decide)]; try rfl) ?_
  refine Z.ixor B dX12_sums_70 ?_
  refine Z.istore B dX12_sums_71 (by decide) (L' := [(0, .ref 45), (1, .int (nI w)), (2, .int x), (3, .int (nI 2)), (4, .int ((((x + nI w + nI pa) * nI 2) * nI 3) ^^^ ((x - nI pa) + nI w + nI pa)))]) rfl ?_
  refine Z.iload_n B dX12_sums_73 (x := nI 2) rfl ?_
  refine Z.iconst B dX12_sums_74 (v := nI 3) rfl ?_
  refine Z.icmp_neN B dX12_sums_75 (tgt := 85) rfl (by omega) (by omega) (fun h75 => ?_) (fun h75 => by exfalso; first | omega | contradiction | simp_all)
  refine Z.iload_n B dX12_sums_85 (x := nI 2) rfl ?_
  refine Z.iconst B dX12_sums_86 (v := nI 4) rfl ?_
  refine Z.icmp_neN B dX12_sums_87 (tgt := 96) rfl (by omega) (by omega) (fun h87 => ?_) (fun h87 => by exfalso; first | omega | contradiction | simp_all)
  refine Z.iload_n B dX12_sums_96 (x := nI 2) rfl ?_
  refine Z.bipush B dX12_sums_97 (v := nI 6) rfl ?_
  refine Z.icmp_neN B dX12_sums_99 (tgt := 109) rfl (by omega) (by omega) (fun h99 => ?_) (fun h99 => by exfalso; first | omega | contradiction | simp_all)
  refine Z.iload B dX12_sums_109 (x := ((((x + nI w + nI pa) * nI 2) * nI 3) ^^^ ((x - nI pa) + nI w + nI pa))) rfl ?_
  refine Z.iret B Rt dX12_sums_111 (ty := .int) rfl rfl (by decide) (by decide) ?_
  exact ⟨rfl, rfl⟩

theorem t_X12_sums_3 {σ : zSt} (hl : Lay σ) {w pa r : Nat} {x : Int32} (hw : zMy σ w 3 pa) (hr : zX σ 45 31 = nI r) (hr20 : r + 6 ≤ 20) : Dt mX12_sums [.ref 45, .int (nI w), .int x] σ (some (.int (((((x + nI 1) + nI w) * nI 2) ^^^ ((x - nI pa) + nI w)) - nI w))) (zuX (zuX σ 65 (upd (upd (upd (upd (upd (upd (zX σ 65) (r) (nI 41)) (r + 1) (nI 12)) (r + 2) (nI 40)) (r + 3) (nI 11)) (r + 4) (nI 10)) (r + 5) (nI 10))) 45 (upd (zX σ 45) 31 (nI (r + 6)))) := by
  refine Dt.of (by decide) (Nat.le_of_ble_eq_true rfl) fun κ B Rt => ?_
  show Z κ 0 0 σ 0 [(0, .ref 45), (1, .int (nI w)), (2, .int x)] []
  have hw2 := hw
  obtain ⟨hk, hp, hkd, hpa, hw8⟩ := hw
  refine Z.aload_n B dX12_sums_0 (v := .ref 45) rfl rfl ?_
  refine Z.getR (σ := σ) B fX12_35_12 dX12_sums_1 (hl.n (k := 45) (by decide)) (hl.k (k := 45) (by decide)) (by decide) (j := 52) (hl.r (k := 45) (f := 11) (by decide) (by decide)) ?_
  refine Z.iload_n B dX12_sums_4 (x := nI w) rfl ?_
  refine Z.iald (σ := σ) B dX12_sums_5 (n := 8) (hl.n (k := 52) (by decide)) (hl.k (k := 52) (by decide)) (hl.l (k := 52) (by decide)) (by decide) (j := w) rfl (by omega) (v := nI 3) hk ?_
  refine Z.istore_n B dX12_sums_6 (by decide) (L' := [(0, .ref 45), (1, .int (nI w)), (2, .int x), (3, .int (nI 3))]) rfl ?_
  refine Z.iload_n B dX12_sums_7 (x := nI 3) rfl ?_
  refine Z.iconst B dX12_sums_8 (v := nI 3) rfl ?_
  refine Z.icmp_neN B dX12_sums_9 (tgt := 18) rfl (by omega) (by omega) (fun h9 => by exfalso; first | omega | contradiction | simp_all) (fun h9 => ?_)
  refine Z.aload_n B dX12_sums_12 (v := .ref 45) rfl rfl ?_
  refine Z.bipush B dX12_sums_13 (v := nI 41) rfl ?_
  refine Z.callVN (σ := σ) B (M' := mX12_body) (as := [.int (nI 41)]) (st := []) dX12_sums_15 wX12_body iX12_body sX12_body kX12_229 (hl.n (k := 45) (by decide)) (hl.k (k := 45) (by decide)) (by decide) rfl rfl (t_X12_body (σ := σ) hl (r := r) hr (by omega) (b := nI 41)) rfl rfl (by decide) (by decide) (Nat.le_of_ble_eq_true rfl) (by decide) (by decide) ?_
  refine Z.eqσ (τ := (zuX (zuX σ 65 (upd (zX σ 65) (r) (nI 41))) 45 (upd (zX σ 45) 31 (nI (r + 1))))) rfl ?_
  refine Z.iload_n B dX12_sums_18 (x := nI 3) rfl ?_
  refine Z.iconst B dX12_sums_19 (v := nI 4) rfl ?_
  refine Z.icmp_neN B dX12_sums_20 (tgt := 29) rfl (by omega) (by omega) (fun h20 => ?_) (fun h20 => by exfalso; first | omega | contradiction | simp_all)
  refine Z.iload_n B dX12_sums_29 (x := nI 3) rfl ?_
  refine Z.bipush B dX12_sums_30 (v := nI 6) rfl ?_
  refine Z.icmp_neN B dX12_sums_32 (tgt := 41) rfl (by omega) (by omega) (fun h32 => ?_) (fun h32 => by exfalso; first | omega | contradiction | simp_all)
  refine Z.aload_n B dX12_sums_41 (v := .ref 45) rfl rfl ?_
  refine Z.bipush B dX12_sums_42 (v := nI 12) rfl ?_
  refine Z.callVN (σ := (zuX (zuX σ 65 (upd (zX σ 65) (r) (nI 41))) 45 (upd (zX σ 45) 31 (nI (r + 1))))) B (M' := mX12_body) (as := [.int (nI 12)]) (st := []) dX12_sums_44 wX12_body iX12_body sX12_body kX12_229 (hl.n (k := 45) (by decide)) (hl.k (k := 45) (by decide)) (by decide) rfl rfl (t_X12_body (σ := (zuX (zuX σ 65 (upd (zX σ 65) (r) (nI 41))) 45 (upd (zX σ 45) 31 (nI (r + 1))))) hl (r := r + 1) rfl (by omega) (b := nI 12)) rfl rfl (by decide) (by decide) (Nat.le_of_ble_eq_true rfl) (by decide) (by decide) ?_
  refine Z.eqσ (τ := (zuX (zuX σ 65 (upd (upd (zX σ 65) (r) (nI 41)) (r + 1) (nI 12))) 45 (upd (zX σ 45) 31 (nI (r + 2))))) (by rw [show zX (zuX (zuX σ 65 (upd (zX σ 65) (r) (nI 41))) 45 (upd (zX σ 45) 31 (nI (r + 1)))) 65 = upd (zX σ 65) (r) (nI 41) from rfl, show zX (zuX (zuX σ 65 (upd (zX σ 65) (r) (nI 41))) 45 (upd (zX σ 45) 31 (nI (r + 1)))) 45 = upd (zX σ 45) 31 (nI (r + 1)) from rfl, upd_upd, zuX_sw (by decide), zuX_sw (by decide)]; try rfl) ?_
  refine Z.aload_n B dX12_sums_47 (v := .ref 45) rfl rfl ?_
  refine Z.iload_n B dX12_sums_48 (x := nI w) rfl ?_
  refine Z.iload_n B dX12_sums_49 (x := x) rfl ?_
  refine Z.callVI (σ := (zuX (zuX σ 65 (upd (upd (zX σ 65) (r) (nI 41)) (r + 1) (nI 12))) 45 (upd (zX σ 45) 31 (nI (r + 2))))) B (M' := mX12_asks) (as := [.int (nI w), .int x]) (st := []) (v := .int (((x + nI 1) + nI w) * nI 2)) dX12_sums_50 wX12_asks iX12_asks sX12_asks kX12_236 (hl.n (k := 45) (by decide)) (hl.k (k := 45) (by decide)) (by decide) rfl rfl (t_X12_asks_3 (σ := (zuX (zuX σ 65 (upd (upd (zX σ 65) (r) (nI 41)) (r + 1) (nI 12))) 45 (upd (zX σ 45) 31 (nI (r + 2))))) hl (w := w) (pa := pa) (r := r + 2) (x := x) hw2 rfl (by omega)) rfl rfl (by decide) (by decide) (Nat.le_of_ble_eq_true rfl) (by decide) (by decide) ?_
  refine Z.eqσ (τ := (zuX (zuX σ 65 (upd (upd (upd (upd (upd (zX σ 65) (r) (nI 41)) (r + 1) (nI 12)) (r + 2) (nI 40)) (r + 3) (nI 11)) (r + 4) (nI 10))) 45 (upd (zX σ 45) 31 (nI (r + 5))))) (by rw [show zX (zuX (zuX σ 65 (upd (upd (zX σ 65) (r) (nI 41)) (r + 1) (nI 12))) 45 (upd (zX σ 45) 31 (nI (r + 2)))) 65 = upd (upd (zX σ 65) (r) (nI 41)) (r + 1) (nI 12) from rfl, show zX (zuX (zuX σ 65 (upd (upd (zX σ 65) (r) (nI 41)) (r + 1) (nI 12))) 45 (upd (zX σ 45) 31 (nI (r + 2)))) 45 = upd (zX σ 45) 31 (nI (r + 2)) from rfl, upd_upd, zuX_sw (by decide), zuX_sw (by decide)]; try rfl) ?_
  refine Z.istore B dX12_sums_53 (by decide) (L' := [(0, .ref 45), (1, .int (nI w)), (2, .int x), (3, .int (nI 3)), (4, .int (((x + nI 1) + nI w) * nI 2))]) rfl ?_
  refine Z.iload B dX12_sums_55 (x := (((x + nI 1) + nI w) * nI 2)) rfl ?_
  refine Z.aload_n B dX12_sums_57 (v := .ref 45) rfl rfl ?_
  refine Z.iload_n B dX12_sums_58 (x := nI w) rfl ?_
  refine Z.iload_n B dX12_sums_59 (x := x) rfl ?_
  refine Z.aload_n B dX12_sums_60 (v := .ref 45) rfl rfl ?_
  refine Z.getR (σ := (zuX (zuX σ 65 (upd (upd (upd (upd (upd (zX σ 65) (r) (nI 41)) (r + 1) (nI 12)) (r + 2) (nI 40)) (r + 3) (nI 11)) (r + 4) (nI 10))) 45 (upd (zX σ 45) 31 (nI (r + 5))))) B fX12_38_12 dX12_sums_61 (hl.n (k := 45) (by decide)) (hl.k (k := 45) (by decide)) (by decide) (j := 53) (hl.r (k := 45) (f := 12) (by decide) (by decide)) ?_
  refine Z.iload_n B dX12_sums_64 (x := nI w) rfl ?_
  refine Z.iald (σ := (zuX (zuX σ 65 (upd (upd (upd (upd (upd (zX σ 65) (r) (nI 41)) (r + 1) (nI 12)) (r + 2) (nI 40)) (r + 3) (nI 11)) (r + 4) (nI 10))) 45 (upd (zX σ 45) 31 (nI (r + 5))))) B dX12_sums_65 (n := 8) (hl.n (k := 53) (by decide)) (hl.k (k := 53) (by decide)) (hl.l (k := 53) (by decide)) (by decide) (j := w) rfl (by omega) (v := nI pa) hp ?_
  refine Z.isub B dX12_sums_66 ?_
  refine Z.callVI (σ := (zuX (zuX σ 65 (upd (upd (upd (upd (upd (zX σ 65) (r) (nI 41)) (r + 1) (nI 12)) (r + 2) (nI 40)) (r + 3) (nI 11)) (r + 4) (nI 10))) 45 (upd (zX σ 45) 31 (nI (r + 5))))) B (M' := mX12_feels) (as := [.int (nI w), .int (x - (nI pa))]) (st := [.int (((x + nI 1) + nI w) * nI 2)]) (v := .int ((x - nI pa) + nI w)) dX12_sums_67 wX12_feels iX12_feels sX12_feels kX12_233 (hl.n (k := 45) (by decide)) (hl.k (k := 45) (by decide)) (by decide) rfl rfl (t_X12_feels_3 (σ := (zuX (zuX σ 65 (upd (upd (upd (upd (upd (zX σ 65) (r) (nI 41)) (r + 1) (nI 12)) (r + 2) (nI 40)) (r + 3) (nI 11)) (r + 4) (nI 10))) 45 (upd (zX σ 45) 31 (nI (r + 5))))) hl (w := w) (pa := pa) (r := r + 5) (x := (x - nI pa)) hw2 rfl (by omega)) rfl rfl (by decide) (by decide) (Nat.le_of_ble_eq_true rfl) (by decide) (by decide) ?_
  refine Z.eqσ (τ := (zuX (zuX σ 65 (upd (upd (upd (upd (upd (upd (zX σ 65) (r) (nI 41)) (r + 1) (nI 12)) (r + 2) (nI 40)) (r + 3) (nI 11)) (r + 4) (nI 10)) (r + 5) (nI 10))) 45 (upd (zX σ 45) 31 (nI (r + 6))))) (by rw [show zX (zuX (zuX σ 65 (upd (upd (upd (upd (upd (zX σ 65) (r) (nI 41)) (r + 1) (nI 12)) (r + 2) (nI 40)) (r + 3) (nI 11)) (r + 4) (nI 10))) 45 (upd (zX σ 45) 31 (nI (r + 5)))) 65 = upd (upd (upd (upd (upd (zX σ 65) (r) (nI 41)) (r + 1) (nI 12)) (r + 2) (nI 40)) (r + 3) (nI 11)) (r + 4) (nI 10) from rfl, show zX (zuX (zuX σ 65 (upd (upd (upd (upd (upd (zX σ 65) (r) (nI 41)) (r + 1) (nI 12)) (r + 2) (nI 40)) (r + 3) (nI 11)) (r + 4) (nI 10))) 45 (upd (zX σ 45) 31 (nI (r + 5)))) 45 = upd (zX σ 45) 31 (nI (r + 5)) from rfl, upd_upd, zuX_sw (by decide), zuX_sw (by decide)]; try rfl) ?_
  refine Z.ixor B dX12_sums_70 ?_
  refine Z.istore B dX12_sums_71 (by decide) (L' := [(0, .ref 45), (1, .int (nI w)), (2, .int x), (3, .int (nI 3)), (4, .int ((((x + nI 1) + nI w) * nI 2) ^^^ ((x - nI pa) + nI w)))]) rfl ?_
  refine Z.iload_n B dX12_sums_73 (x := nI 3) rfl ?_
  refine Z.iconst B dX12_sums_74 (v := nI 3) rfl ?_
  refine Z.icmp_neN B dX12_sums_75 (tgt := 85) rfl (by omega) (by omega) (fun h75 => by exfalso; first | omega | contradiction | simp_all) (fun h75 => ?_)
  refine Z.iload B dX12_sums_78 (x := ((((x + nI 1) + nI w) * nI 2) ^^^ ((x - nI pa) + nI w))) rfl ?_
  refine Z.iload_n B dX12_sums_80 (x := nI w) rfl ?_
  refine Z.isub B dX12_sums_81 ?_
  refine Z.goto B dX12_sums_82 (tgt := 111) rfl ?_
  refine Z.iret B Rt dX12_sums_111 (ty := .int) rfl rfl (by decide) (by decide) ?_
  exact ⟨rfl, rfl⟩

theorem t_X12_sums_4 {σ : zSt} (hl : Lay σ) {w pa r : Nat} {x : Int32} (hw : zMy σ w 4 pa) (hr : zX σ 45 31 = nI r) (hr20 : r + 5 ≤ 20) : Dt mX12_sums [.ref 45, .int (nI w), .int x] σ (some (.int (-(((x + nI w) * nI 2) ^^^ ((x - nI pa) + nI w))))) (zuX (zuX σ 65 (upd (upd (upd (upd (upd (zX σ 65) (r) (nI 50)) (r + 1) (nI 12)) (r + 2) (nI 11)) (r + 3) (nI 10)) (r + 4) (nI 10))) 45 (upd (zX σ 45) 31 (nI (r + 5)))) := by
  refine Dt.of (by decide) (Nat.le_of_ble_eq_true rfl) fun κ B Rt => ?_
  show Z κ 0 0 σ 0 [(0, .ref 45), (1, .int (nI w)), (2, .int x)] []
  have hw2 := hw
  obtain ⟨hk, hp, hkd, hpa, hw8⟩ := hw
  refine Z.aload_n B dX12_sums_0 (v := .ref 45) rfl rfl ?_
  refine Z.getR (σ := σ) B fX12_35_12 dX12_sums_1 (hl.n (k := 45) (by decide)) (hl.k (k := 45) (by decide)) (by decide) (j := 52) (hl.r (k := 45) (f := 11) (by decide) (by decide)) ?_
  refine Z.iload_n B dX12_sums_4 (x := nI w) rfl ?_
  refine Z.iald (σ := σ) B dX12_sums_5 (n := 8) (hl.n (k := 52) (by decide)) (hl.k (k := 52) (by decide)) (hl.l (k := 52) (by decide)) (by decide) (j := w) rfl (by omega) (v := nI 4) hk ?_
  refine Z.istore_n B dX12_sums_6 (by decide) (L' := [(0, .ref 45), (1, .int (nI w)), (2, .int x), (3, .int (nI 4))]) rfl ?_
  refine Z.iload_n B dX12_sums_7 (x := nI 4) rfl ?_
  refine Z.iconst B dX12_sums_8 (v := nI 3) rfl ?_
  refine Z.icmp_neN B dX12_sums_9 (tgt := 18) rfl (by omega) (by omega) (fun h9 => ?_) (fun h9 => by exfalso; first | omega | contradiction | simp_all)
  refine Z.iload_n B dX12_sums_18 (x := nI 4) rfl ?_
  refine Z.iconst B dX12_sums_19 (v := nI 4) rfl ?_
  refine Z.icmp_neN B dX12_sums_20 (tgt := 29) rfl (by omega) (by omega) (fun h20 => by exfalso; first | omega | contradiction | simp_all) (fun h20 => ?_)
  refine Z.aload_n B dX12_sums_23 (v := .ref 45) rfl rfl ?_
  refine Z.bipush B dX12_sums_24 (v := nI 50) rfl ?_
  refine Z.callVN (σ := σ) B (M' := mX12_body) (as := [.int (nI 50)]) (st := []) dX12_sums_26 wX12_body iX12_body sX12_body kX12_229 (hl.n (k := 45) (by decide)) (hl.k (k := 45) (by decide)) (by decide) rfl rfl (t_X12_body (σ := σ) hl (r := r) hr (by omega) (b := nI 50)) rfl rfl (by decide) (by decide) (Nat.le_of_ble_eq_true rfl) (by decide) (by decide) ?_
  refine Z.eqσ (τ := (zuX (zuX σ 65 (upd (zX σ 65) (r) (nI 50))) 45 (upd (zX σ 45) 31 (nI (r + 1))))) rfl ?_
  refine Z.iload_n B dX12_sums_29 (x := nI 4) rfl ?_
  refine Z.bipush B dX12_sums_30 (v := nI 6) rfl ?_
  refine Z.icmp_neN B dX12_sums_32 (tgt := 41) rfl (by omega) (by omega) (fun h32 => ?_) (fun h32 => by exfalso; first | omega | contradiction | simp_all)
  refine Z.aload_n B dX12_sums_41 (v := .ref 45) rfl rfl ?_
  refine Z.bipush B dX12_sums_42 (v := nI 12) rfl ?_
  refine Z.callVN (σ := (zuX (zuX σ 65 (upd (zX σ 65) (r) (nI 50))) 45 (upd (zX σ 45) 31 (nI (r + 1))))) B (M' := mX12_body) (as := [.int (nI 12)]) (st := []) dX12_sums_44 wX12_body iX12_body sX12_body kX12_229 (hl.n (k := 45) (by decide)) (hl.k (k := 45) (by decide)) (by decide) rfl rfl (t_X12_body (σ := (zuX (zuX σ 65 (upd (zX σ 65) (r) (nI 50))) 45 (upd (zX σ 45) 31 (nI (r + 1))))) hl (r := r + 1) rfl (by omega) (b := nI 12)) rfl rfl (by decide) (by decide) (Nat.le_of_ble_eq_true rfl) (by decide) (by decide) ?_
  refine Z.eqσ (τ := (zuX (zuX σ 65 (upd (upd (zX σ 65) (r) (nI 50)) (r + 1) (nI 12))) 45 (upd (zX σ 45) 31 (nI (r + 2))))) (by rw [show zX (zuX (zuX σ 65 (upd (zX σ 65) (r) (nI 50))) 45 (upd (zX σ 45) 31 (nI (r + 1)))) 65 = upd (zX σ 65) (r) (nI 50) from rfl, show zX (zuX (zuX σ 65 (upd (zX σ 65) (r) (nI 50))) 45 (upd (zX σ 45) 31 (nI (r + 1)))) 45 = upd (zX σ 45) 31 (nI (r + 1)) from rfl, upd_upd, zuX_sw (by decide), zuX_sw (by decide)]; try rfl) ?_
  refine Z.aload_n B dX12_sums_47 (v := .ref 45) rfl rfl ?_
  refine Z.iload_n B dX12_sums_48 (x := nI w) rfl ?_
  refine Z.iload_n B dX12_sums_49 (x := x) rfl ?_
  refine Z.callVI (σ := (zuX (zuX σ 65 (upd (upd (zX σ 65) (r) (nI 50)) (r + 1) (nI 12))) 45 (upd (zX σ 45) 31 (nI (r + 2))))) B (M' := mX12_asks) (as := [.int (nI w), .int x]) (st := []) (v := .int ((x + nI w) * nI 2)) dX12_sums_50 wX12_asks iX12_asks sX12_asks kX12_236 (hl.n (k := 45) (by decide)) (hl.k (k := 45) (by decide)) (by decide) rfl rfl (t_X12_asks_4 (σ := (zuX (zuX σ 65 (upd (upd (zX σ 65) (r) (nI 50)) (r + 1) (nI 12))) 45 (upd (zX σ 45) 31 (nI (r + 2))))) hl (w := w) (pa := pa) (r := r + 2) (x := x) hw2 rfl (by omega)) rfl rfl (by decide) (by decide) (Nat.le_of_ble_eq_true rfl) (by decide) (by decide) ?_
  refine Z.eqσ (τ := (zuX (zuX σ 65 (upd (upd (upd (upd (zX σ 65) (r) (nI 50)) (r + 1) (nI 12)) (r + 2) (nI 11)) (r + 3) (nI 10))) 45 (upd (zX σ 45) 31 (nI (r + 4))))) (by rw [show zX (zuX (zuX σ 65 (upd (upd (zX σ 65) (r) (nI 50)) (r + 1) (nI 12))) 45 (upd (zX σ 45) 31 (nI (r + 2)))) 65 = upd (upd (zX σ 65) (r) (nI 50)) (r + 1) (nI 12) from rfl, show zX (zuX (zuX σ 65 (upd (upd (zX σ 65) (r) (nI 50)) (r + 1) (nI 12))) 45 (upd (zX σ 45) 31 (nI (r + 2)))) 45 = upd (zX σ 45) 31 (nI (r + 2)) from rfl, upd_upd, zuX_sw (by decide), zuX_sw (by decide)]; try rfl) ?_
  refine Z.istore B dX12_sums_53 (by decide) (L' := [(0, .ref 45), (1, .int (nI w)), (2, .int x), (3, .int (nI 4)), (4, .int ((x + nI w) * nI 2))]) rfl ?_
  refine Z.iload B dX12_sums_55 (x := ((x + nI w) * nI 2)) rfl ?_
  refine Z.aload_n B dX12_sums_57 (v := .ref 45) rfl rfl ?_
  refine Z.iload_n B dX12_sums_58 (x := nI w) rfl ?_
  refine Z.iload_n B dX12_sums_59 (x := x) rfl ?_
  refine Z.aload_n B dX12_sums_60 (v := .ref 45) rfl rfl ?_
  refine Z.getR (σ := (zuX (zuX σ 65 (upd (upd (upd (upd (zX σ 65) (r) (nI 50)) (r + 1) (nI 12)) (r + 2) (nI 11)) (r + 3) (nI 10))) 45 (upd (zX σ 45) 31 (nI (r + 4))))) B fX12_38_12 dX12_sums_61 (hl.n (k := 45) (by decide)) (hl.k (k := 45) (by decide)) (by decide) (j := 53) (hl.r (k := 45) (f := 12) (by decide) (by decide)) ?_
  refine Z.iload_n B dX12_sums_64 (x := nI w) rfl ?_
  refine Z.iald (σ := (zuX (zuX σ 65 (upd (upd (upd (upd (zX σ 65) (r) (nI 50)) (r + 1) (nI 12)) (r + 2) (nI 11)) (r + 3) (nI 10))) 45 (upd (zX σ 45) 31 (nI (r + 4))))) B dX12_sums_65 (n := 8) (hl.n (k := 53) (by decide)) (hl.k (k := 53) (by decide)) (hl.l (k := 53) (by decide)) (by decide) (j := w) rfl (by omega) (v := nI pa) hp ?_
  refine Z.isub B dX12_sums_66 ?_
  refine Z.callVI (σ := (zuX (zuX σ 65 (upd (upd (upd (upd (zX σ 65) (r) (nI 50)) (r + 1) (nI 12)) (r + 2) (nI 11)) (r + 3) (nI 10))) 45 (upd (zX σ 45) 31 (nI (r + 4))))) B (M' := mX12_feels) (as := [.int (nI w), .int (x - (nI pa))]) (st := [.int ((x + nI w) * nI 2)]) (v := .int ((x - nI pa) + nI w)) dX12_sums_67 wX12_feels iX12_feels sX12_feels kX12_233 (hl.n (k := 45) (by decide)) (hl.k (k := 45) (by decide)) (by decide) rfl rfl (t_X12_feels_4 (σ := (zuX (zuX σ 65 (upd (upd (upd (upd (zX σ 65) (r) (nI 50)) (r + 1) (nI 12)) (r + 2) (nI 11)) (r + 3) (nI 10))) 45 (upd (zX σ 45) 31 (nI (r + 4))))) hl (w := w) (pa := pa) (r := r + 4) (x := (x - nI pa)) hw2 rfl (by omega)) rfl rfl (by decide) (by decide) (Nat.le_of_ble_eq_true rfl) (by decide) (by decide) ?_
  refine Z.eqσ (τ := (zuX (zuX σ 65 (upd (upd (upd (upd (upd (zX σ 65) (r) (nI 50)) (r + 1) (nI 12)) (r + 2) (nI 11)) (r + 3) (nI 10)) (r + 4) (nI 10))) 45 (upd (zX σ 45) 31 (nI (r + 5))))) (by rw [show zX (zuX (zuX σ 65 (upd (upd (upd (upd (zX σ 65) (r) (nI 50)) (r + 1) (nI 12)) (r + 2) (nI 11)) (r + 3) (nI 10))) 45 (upd (zX σ 45) 31 (nI (r + 4)))) 65 = upd (upd (upd (upd (zX σ 65) (r) (nI 50)) (r + 1) (nI 12)) (r + 2) (nI 11)) (r + 3) (nI 10) from rfl, show zX (zuX (zuX σ 65 (upd (upd (upd (upd (zX σ 65) (r) (nI 50)) (r + 1) (nI 12)) (r + 2) (nI 11)) (r + 3) (nI 10))) 45 (upd (zX σ 45) 31 (nI (r + 4)))) 45 = upd (zX σ 45) 31 (nI (r + 4)) from rfl, upd_upd, zuX_sw (by decide), zuX_sw (by decide)]; try rfl) ?_
  refine Z.ixor B dX12_sums_70 ?_
  refine Z.istore B dX12_sums_71 (by decide) (L' := [(0, .ref 45), (1, .int (nI w)), (2, .int x), (3, .int (nI 4)), (4, .int (((x + nI w) * nI 2) ^^^ ((x - nI pa) + nI w)))]) rfl ?_
  refine Z.iload_n B dX12_sums_73 (x := nI 4) rfl ?_
  refine Z.iconst B dX12_sums_74 (v := nI 3) rfl ?_
  refine Z.icmp_neN B dX12_sums_75 (tgt := 85) rfl (by omega) (by omega) (fun h75 => ?_) (fun h75 => by exfalso; first | omega | contradiction | simp_all)
  refine Z.iload_n B dX12_sums_85 (x := nI 4) rfl ?_
  refine Z.iconst B dX12_sums_86 (v := nI 4) rfl ?_
  refine Z.icmp_neN B dX12_sums_87 (tgt := 96) rfl (by omega) (by omega) (fun h87 => by exfalso; first | omega | contradiction | simp_all) (fun h87 => ?_)
  refine Z.iload B dX12_sums_90 (x := (((x + nI w) * nI 2) ^^^ ((x - nI pa) + nI w))) rfl ?_
  refine Z.ineg B dX12_sums_92 ?_
  refine Z.goto B dX12_sums_93 (tgt := 111) rfl ?_
  refine Z.iret B Rt dX12_sums_111 (ty := .int) rfl rfl (by decide) (by decide) ?_
  exact ⟨rfl, rfl⟩

theorem t_X12_sums_5 {σ : zSt} (hl : Lay σ) {w pa r : Nat} {x : Int32} (hw : zMy σ w 5 pa) (hr : zX σ 45 31 = nI r) (hr20 : r + 6 ≤ 20) : Dt mX12_sums [.ref 45, .int (nI w), .int x] σ (some (.int ((((x + nI w) * nI 2) * nI 2) ^^^ (((x - nI pa) + nI w) * nI 2)))) (zuX (zuX σ 65 (upd (upd (upd (upd (upd (upd (zX σ 65) (r) (nI 12)) (r + 1) (nI 11)) (r + 2) (nI 60)) (r + 3) (nI 10)) (r + 4) (nI 60)) (r + 5) (nI 10))) 45 (upd (zX σ 45) 31 (nI (r + 6)))) := by
  refine Dt.of (by decide) (Nat.le_of_ble_eq_true rfl) fun κ B Rt => ?_
  show Z κ 0 0 σ 0 [(0, .ref 45), (1, .int (nI w)), (2, .int x)] []
  have hw2 := hw
  obtain ⟨hk, hp, hkd, hpa, hw8⟩ := hw
  refine Z.aload_n B dX12_sums_0 (v := .ref 45) rfl rfl ?_
  refine Z.getR (σ := σ) B fX12_35_12 dX12_sums_1 (hl.n (k := 45) (by decide)) (hl.k (k := 45) (by decide)) (by decide) (j := 52) (hl.r (k := 45) (f := 11) (by decide) (by decide)) ?_
  refine Z.iload_n B dX12_sums_4 (x := nI w) rfl ?_
  refine Z.iald (σ := σ) B dX12_sums_5 (n := 8) (hl.n (k := 52) (by decide)) (hl.k (k := 52) (by decide)) (hl.l (k := 52) (by decide)) (by decide) (j := w) rfl (by omega) (v := nI 5) hk ?_
  refine Z.istore_n B dX12_sums_6 (by decide) (L' := [(0, .ref 45), (1, .int (nI w)), (2, .int x), (3, .int (nI 5))]) rfl ?_
  refine Z.iload_n B dX12_sums_7 (x := nI 5) rfl ?_
  refine Z.iconst B dX12_sums_8 (v := nI 3) rfl ?_
  refine Z.icmp_neN B dX12_sums_9 (tgt := 18) rfl (by omega) (by omega) (fun h9 => ?_) (fun h9 => by exfalso; first | omega | contradiction | simp_all)
  refine Z.iload_n B dX12_sums_18 (x := nI 5) rfl ?_
  refine Z.iconst B dX12_sums_19 (v := nI 4) rfl ?_
  refine Z.icmp_neN B dX12_sums_20 (tgt := 29) rfl (by omega) (by omega) (fun h20 => ?_) (fun h20 => by exfalso; first | omega | contradiction | simp_all)
  refine Z.iload_n B dX12_sums_29 (x := nI 5) rfl ?_
  refine Z.bipush B dX12_sums_30 (v := nI 6) rfl ?_
  refine Z.icmp_neN B dX12_sums_32 (tgt := 41) rfl (by omega) (by omega) (fun h32 => ?_) (fun h32 => by exfalso; first | omega | contradiction | simp_all)
  refine Z.aload_n B dX12_sums_41 (v := .ref 45) rfl rfl ?_
  refine Z.bipush B dX12_sums_42 (v := nI 12) rfl ?_
  refine Z.callVN (σ := σ) B (M' := mX12_body) (as := [.int (nI 12)]) (st := []) dX12_sums_44 wX12_body iX12_body sX12_body kX12_229 (hl.n (k := 45) (by decide)) (hl.k (k := 45) (by decide)) (by decide) rfl rfl (t_X12_body (σ := σ) hl (r := r) hr (by omega) (b := nI 12)) rfl rfl (by decide) (by decide) (Nat.le_of_ble_eq_true rfl) (by decide) (by decide) ?_
  refine Z.eqσ (τ := (zuX (zuX σ 65 (upd (zX σ 65) (r) (nI 12))) 45 (upd (zX σ 45) 31 (nI (r + 1))))) rfl ?_
  refine Z.aload_n B dX12_sums_47 (v := .ref 45) rfl rfl ?_
  refine Z.iload_n B dX12_sums_48 (x := nI w) rfl ?_
  refine Z.iload_n B dX12_sums_49 (x := x) rfl ?_
  refine Z.callVI (σ := (zuX (zuX σ 65 (upd (zX σ 65) (r) (nI 12))) 45 (upd (zX σ 45) 31 (nI (r + 1))))) B (M' := mX12_asks) (as := [.int (nI w), .int x]) (st := []) (v := .int (((x + nI w) * nI 2) * nI 2)) dX12_sums_50 wX12_asks iX12_asks sX12_asks kX12_236 (hl.n (k := 45) (by decide)) (hl.k (k := 45) (by decide)) (by decide) rfl rfl (t_X12_asks_5 (σ := (zuX (zuX σ 65 (upd (zX σ 65) (r) (nI 12))) 45 (upd (zX σ 45) 31 (nI (r + 1))))) hl (w := w) (pa := pa) (r := r + 1) (x := x) hw2 rfl (by omega)) rfl rfl (by decide) (by decide) (Nat.le_of_ble_eq_true rfl) (by decide) (by decide) ?_
  refine Z.eqσ (τ := (zuX (zuX σ 65 (upd (upd (upd (upd (zX σ 65) (r) (nI 12)) (r + 1) (nI 11)) (r + 2) (nI 60)) (r + 3) (nI 10))) 45 (upd (zX σ 45) 31 (nI (r + 4))))) (by rw [show zX (zuX (zuX σ 65 (upd (zX σ 65) (r) (nI 12))) 45 (upd (zX σ 45) 31 (nI (r + 1)))) 65 = upd (zX σ 65) (r) (nI 12) from rfl, show zX (zuX (zuX σ 65 (upd (zX σ 65) (r) (nI 12))) 45 (upd (zX σ 45) 31 (nI (r + 1)))) 45 = upd (zX σ 45) 31 (nI (r + 1)) from rfl, upd_upd, zuX_sw (by decide), zuX_sw (by decide)]; try rfl) ?_
  refine Z.istore B dX12_sums_53 (by decide) (L' := [(0, .ref 45), (1, .int (nI w)), (2, .int x), (3, .int (nI 5)), (4, .int (((x + nI w) * nI 2) * nI 2))]) rfl ?_
  refine Z.iload B dX12_sums_55 (x := (((x + nI w) * nI 2) * nI 2)) rfl ?_
  refine Z.aload_n B dX12_sums_57 (v := .ref 45) rfl rfl ?_
  refine Z.iload_n B dX12_sums_58 (x := nI w) rfl ?_
  refine Z.iload_n B dX12_sums_59 (x := x) rfl ?_
  refine Z.aload_n B dX12_sums_60 (v := .ref 45) rfl rfl ?_
  refine Z.getR (σ := (zuX (zuX σ 65 (upd (upd (upd (upd (zX σ 65) (r) (nI 12)) (r + 1) (nI 11)) (r + 2) (nI 60)) (r + 3) (nI 10))) 45 (upd (zX σ 45) 31 (nI (r + 4))))) B fX12_38_12 dX12_sums_61 (hl.n (k := 45) (by decide)) (hl.k (k := 45) (by decide)) (by decide) (j := 53) (hl.r (k := 45) (f := 12) (by decide) (by decide)) ?_
  refine Z.iload_n B dX12_sums_64 (x := nI w) rfl ?_
  refine Z.iald (σ := (zuX (zuX σ 65 (upd (upd (upd (upd (zX σ 65) (r) (nI 12)) (r + 1) (nI 11)) (r + 2) (nI 60)) (r + 3) (nI 10))) 45 (upd (zX σ 45) 31 (nI (r + 4))))) B dX12_sums_65 (n := 8) (hl.n (k := 53) (by decide)) (hl.k (k := 53) (by decide)) (hl.l (k := 53) (by decide)) (by decide) (j := w) rfl (by omega) (v := nI pa) hp ?_
  refine Z.isub B dX12_sums_66 ?_
  refine Z.callVI (σ := (zuX (zuX σ 65 (upd (upd (upd (upd (zX σ 65) (r) (nI 12)) (r + 1) (nI 11)) (r + 2) (nI 60)) (r + 3) (nI 10))) 45 (upd (zX σ 45) 31 (nI (r + 4))))) B (M' := mX12_feels) (as := [.int (nI w), .int (x - (nI pa))]) (st := [.int (((x + nI w) * nI 2) * nI 2)]) (v := .int (((x - nI pa) + nI w) * nI 2)) dX12_sums_67 wX12_feels iX12_feels sX12_feels kX12_233 (hl.n (k := 45) (by decide)) (hl.k (k := 45) (by decide)) (by decide) rfl rfl (t_X12_feels_5 (σ := (zuX (zuX σ 65 (upd (upd (upd (upd (zX σ 65) (r) (nI 12)) (r + 1) (nI 11)) (r + 2) (nI 60)) (r + 3) (nI 10))) 45 (upd (zX σ 45) 31 (nI (r + 4))))) hl (w := w) (pa := pa) (r := r + 4) (x := (x - nI pa)) hw2 rfl (by omega)) rfl rfl (by decide) (by decide) (Nat.le_of_ble_eq_true rfl) (by decide) (by decide) ?_
  refine Z.eqσ (τ := (zuX (zuX σ 65 (upd (upd (upd (upd (upd (upd (zX σ 65) (r) (nI 12)) (r + 1) (nI 11)) (r + 2) (nI 60)) (r + 3) (nI 10)) (r + 4) (nI 60)) (r + 5) (nI 10))) 45 (upd (zX σ 45) 31 (nI (r + 6))))) (by rw [show zX (zuX (zuX σ 65 (upd (upd (upd (upd (zX σ 65) (r) (nI 12)) (r + 1) (nI 11)) (r + 2) (nI 60)) (r + 3) (nI 10))) 45 (upd (zX σ 45) 31 (nI (r + 4)))) 65 = upd (upd (upd (upd (zX σ 65) (r) (nI 12)) (r + 1) (nI 11)) (r + 2) (nI 60)) (r + 3) (nI 10) from rfl, show zX (zuX (zuX σ 65 (upd (upd (upd (upd (zX σ 65) (r) (nI 12)) (r + 1) (nI 11)) (r + 2) (nI 60)) (r + 3) (nI 10))) 45 (upd (zX σ 45) 31 (nI (r + 4)))) 45 = upd (zX σ 45) 31 (nI (r + 4)) from rfl, upd_upd, zuX_sw (by decide), zuX_sw (by decide)]; try rfl) ?_
  refine Z.ixor B dX12_sums_70 ?_
  refine Z.istore B dX12_sums_71 (by decide) (L' := [(0, .ref 45), (1, .int (nI w)), (2, .int x), (3, .int (nI 5)), (4, .int ((((x + nI w) * nI 2) * nI 2) ^^^ (((x - nI pa) + nI w) * nI 2)))]) rfl ?_
  refine Z.iload_n B dX12_sums_73 (x := nI 5) rfl ?_
  refine Z.iconst B dX12_sums_74 (v := nI 3) rfl ?_
  refine Z.icmp_neN B dX12_sums_75 (tgt := 85) rfl (by omega) (by omega) (fun h75 => ?_) (fun h75 => by exfalso; first | omega | contradiction | simp_all)
  refine Z.iload_n B dX12_sums_85 (x := nI 5) rfl ?_
  refine Z.iconst B dX12_sums_86 (v := nI 4) rfl ?_
  refine Z.icmp_neN B dX12_sums_87 (tgt := 96) rfl (by omega) (by omega) (fun h87 => ?_) (fun h87 => by exfalso; first | omega | contradiction | simp_all)
  refine Z.iload_n B dX12_sums_96 (x := nI 5) rfl ?_
  refine Z.bipush B dX12_sums_97 (v := nI 6) rfl ?_
  refine Z.icmp_neN B dX12_sums_99 (tgt := 109) rfl (by omega) (by omega) (fun h99 => ?_) (fun h99 => by exfalso; first | omega | contradiction | simp_all)
  refine Z.iload B dX12_sums_109 (x := ((((x + nI w) * nI 2) * nI 2) ^^^ (((x - nI pa) + nI w) * nI 2))) rfl ?_
  refine Z.iret B Rt dX12_sums_111 (ty := .int) rfl rfl (by decide) (by decide) ?_
  exact ⟨rfl, rfl⟩

theorem t_X12_sums_6 {σ : zSt} (hl : Lay σ) {w pa r : Nat} {x : Int32} (hw : zMy σ w 6 pa) (hr : zX σ 45 31 = nI r) (hr20 : r + 8 ≤ 20) : Dt mX12_sums [.ref 45, .int (nI w), .int x] σ (some (.int ((((((x - nI pa) + nI w) * nI 2) * nI 2) ^^^ (((x - nI pa) + nI w) * nI 2)) ^^^ nI 5))) (zuX (zuX σ 65 (upd (upd (upd (upd (upd (upd (upd (upd (zX σ 65) (r) (nI 70)) (r + 1) (nI 12)) (r + 2) (nI 71)) (r + 3) (nI 11)) (r + 4) (nI 60)) (r + 5) (nI 10)) (r + 6) (nI 60)) (r + 7) (nI 10))) 45 (upd (zX σ 45) 31 (nI (r + 8)))) := by
  refine Dt.of (by decide) (Nat.le_of_ble_eq_true rfl) fun κ B Rt => ?_
  show Z κ 0 0 σ 0 [(0, .ref 45), (1, .int (nI w)), (2, .int x)] []
  have hw2 := hw
  obtain ⟨hk, hp, hkd, hpa, hw8⟩ := hw
  refine Z.aload_n B dX12_sums_0 (v := .ref 45) rfl rfl ?_
  refine Z.getR (σ := σ) B fX12_35_12 dX12_sums_1 (hl.n (k := 45) (by decide)) (hl.k (k := 45) (by decide)) (by decide) (j := 52) (hl.r (k := 45) (f := 11) (by decide) (by decide)) ?_
  refine Z.iload_n B dX12_sums_4 (x := nI w) rfl ?_
  refine Z.iald (σ := σ) B dX12_sums_5 (n := 8) (hl.n (k := 52) (by decide)) (hl.k (k := 52) (by decide)) (hl.l (k := 52) (by decide)) (by decide) (j := w) rfl (by omega) (v := nI 6) hk ?_
  refine Z.istore_n B dX12_sums_6 (by decide) (L' := [(0, .ref 45), (1, .int (nI w)), (2, .int x), (3, .int (nI 6))]) rfl ?_
  refine Z.iload_n B dX12_sums_7 (x := nI 6) rfl ?_
  refine Z.iconst B dX12_sums_8 (v := nI 3) rfl ?_
  refine Z.icmp_neN B dX12_sums_9 (tgt := 18) rfl (by omega) (by omega) (fun h9 => ?_) (fun h9 => by exfalso; first | omega | contradiction | simp_all)
  refine Z.iload_n B dX12_sums_18 (x := nI 6) rfl ?_
  refine Z.iconst B dX12_sums_19 (v := nI 4) rfl ?_
  refine Z.icmp_neN B dX12_sums_20 (tgt := 29) rfl (by omega) (by omega) (fun h20 => ?_) (fun h20 => by exfalso; first | omega | contradiction | simp_all)
  refine Z.iload_n B dX12_sums_29 (x := nI 6) rfl ?_
  refine Z.bipush B dX12_sums_30 (v := nI 6) rfl ?_
  refine Z.icmp_neN B dX12_sums_32 (tgt := 41) rfl (by omega) (by omega) (fun h32 => by exfalso; first | omega | contradiction | simp_all) (fun h32 => ?_)
  refine Z.aload_n B dX12_sums_35 (v := .ref 45) rfl rfl ?_
  refine Z.bipush B dX12_sums_36 (v := nI 70) rfl ?_
  refine Z.callVN (σ := σ) B (M' := mX12_body) (as := [.int (nI 70)]) (st := []) dX12_sums_38 wX12_body iX12_body sX12_body kX12_229 (hl.n (k := 45) (by decide)) (hl.k (k := 45) (by decide)) (by decide) rfl rfl (t_X12_body (σ := σ) hl (r := r) hr (by omega) (b := nI 70)) rfl rfl (by decide) (by decide) (Nat.le_of_ble_eq_true rfl) (by decide) (by decide) ?_
  refine Z.eqσ (τ := (zuX (zuX σ 65 (upd (zX σ 65) (r) (nI 70))) 45 (upd (zX σ 45) 31 (nI (r + 1))))) rfl ?_
  refine Z.aload_n B dX12_sums_41 (v := .ref 45) rfl rfl ?_
  refine Z.bipush B dX12_sums_42 (v := nI 12) rfl ?_
  refine Z.callVN (σ := (zuX (zuX σ 65 (upd (zX σ 65) (r) (nI 70))) 45 (upd (zX σ 45) 31 (nI (r + 1))))) B (M' := mX12_body) (as := [.int (nI 12)]) (st := []) dX12_sums_44 wX12_body iX12_body sX12_body kX12_229 (hl.n (k := 45) (by decide)) (hl.k (k := 45) (by decide)) (by decide) rfl rfl (t_X12_body (σ := (zuX (zuX σ 65 (upd (zX σ 65) (r) (nI 70))) 45 (upd (zX σ 45) 31 (nI (r + 1))))) hl (r := r + 1) rfl (by omega) (b := nI 12)) rfl rfl (by decide) (by decide) (Nat.le_of_ble_eq_true rfl) (by decide) (by decide) ?_
  refine Z.eqσ (τ := (zuX (zuX σ 65 (upd (upd (zX σ 65) (r) (nI 70)) (r + 1) (nI 12))) 45 (upd (zX σ 45) 31 (nI (r + 2))))) (by rw [show zX (zuX (zuX σ 65 (upd (zX σ 65) (r) (nI 70))) 45 (upd (zX σ 45) 31 (nI (r + 1)))) 65 = upd (zX σ 65) (r) (nI 70) from rfl, show zX (zuX (zuX σ 65 (upd (zX σ 65) (r) (nI 70))) 45 (upd (zX σ 45) 31 (nI (r + 1)))) 45 = upd (zX σ 45) 31 (nI (r + 1)) from rfl, upd_upd, zuX_sw (by decide), zuX_sw (by decide)]; try rfl) ?_
  refine Z.aload_n B dX12_sums_47 (v := .ref 45) rfl rfl ?_
  refine Z.iload_n B dX12_sums_48 (x := nI w) rfl ?_
  refine Z.iload_n B dX12_sums_49 (x := x) rfl ?_
  refine Z.callVI (σ := (zuX (zuX σ 65 (upd (upd (zX σ 65) (r) (nI 70)) (r + 1) (nI 12))) 45 (upd (zX σ 45) 31 (nI (r + 2))))) B (M' := mX12_asks) (as := [.int (nI w), .int x]) (st := []) (v := .int ((((x - nI pa) + nI w) * nI 2) * nI 2)) dX12_sums_50 wX12_asks iX12_asks sX12_asks kX12_236 (hl.n (k := 45) (by decide)) (hl.k (k := 45) (by decide)) (by decide) rfl rfl (t_X12_asks_6 (σ := (zuX (zuX σ 65 (upd (upd (zX σ 65) (r) (nI 70)) (r + 1) (nI 12))) 45 (upd (zX σ 45) 31 (nI (r + 2))))) hl (w := w) (pa := pa) (r := r + 2) (x := x) hw2 rfl (by omega)) rfl rfl (by decide) (by decide) (Nat.le_of_ble_eq_true rfl) (by decide) (by decide) ?_
  refine Z.eqσ (τ := (zuX (zuX σ 65 (upd (upd (upd (upd (upd (upd (zX σ 65) (r) (nI 70)) (r + 1) (nI 12)) (r + 2) (nI 71)) (r + 3) (nI 11)) (r + 4) (nI 60)) (r + 5) (nI 10))) 45 (upd (zX σ 45) 31 (nI (r + 6))))) (by rw [show zX (zuX (zuX σ 65 (upd (upd (zX σ 65) (r) (nI 70)) (r + 1) (nI 12))) 45 (upd (zX σ 45) 31 (nI (r + 2)))) 65 = upd (upd (zX σ 65) (r) (nI 70)) (r + 1) (nI 12) from rfl, show zX (zuX (zuX σ 65 (upd (upd (zX σ 65) (r) (nI 70)) (r + 1) (nI 12))) 45 (upd (zX σ 45) 31 (nI (r + 2)))) 45 = upd (zX σ 45) 31 (nI (r + 2)) from rfl, upd_upd, zuX_sw (by decide), zuX_sw (by decide)]; try rfl) ?_
  refine Z.istore B dX12_sums_53 (by decide) (L' := [(0, .ref 45), (1, .int (nI w)), (2, .int x), (3, .int (nI 6)), (4, .int ((((x - nI pa) + nI w) * nI 2) * nI 2))]) rfl ?_
  refine Z.iload B dX12_sums_55 (x := ((((x - nI pa) + nI w) * nI 2) * nI 2)) rfl ?_
  refine Z.aload_n B dX12_sums_57 (v := .ref 45) rfl rfl ?_
  refine Z.iload_n B dX12_sums_58 (x := nI w) rfl ?_
  refine Z.iload_n B dX12_sums_59 (x := x) rfl ?_
  refine Z.aload_n B dX12_sums_60 (v := .ref 45) rfl rfl ?_
  refine Z.getR (σ := (zuX (zuX σ 65 (upd (upd (upd (upd (upd (upd (zX σ 65) (r) (nI 70)) (r + 1) (nI 12)) (r + 2) (nI 71)) (r + 3) (nI 11)) (r + 4) (nI 60)) (r + 5) (nI 10))) 45 (upd (zX σ 45) 31 (nI (r + 6))))) B fX12_38_12 dX12_sums_61 (hl.n (k := 45) (by decide)) (hl.k (k := 45) (by decide)) (by decide) (j := 53) (hl.r (k := 45) (f := 12) (by decide) (by decide)) ?_
  refine Z.iload_n B dX12_sums_64 (x := nI w) rfl ?_
  refine Z.iald (σ := (zuX (zuX σ 65 (upd (upd (upd (upd (upd (upd (zX σ 65) (r) (nI 70)) (r + 1) (nI 12)) (r + 2) (nI 71)) (r + 3) (nI 11)) (r + 4) (nI 60)) (r + 5) (nI 10))) 45 (upd (zX σ 45) 31 (nI (r + 6))))) B dX12_sums_65 (n := 8) (hl.n (k := 53) (by decide)) (hl.k (k := 53) (by decide)) (hl.l (k := 53) (by decide)) (by decide) (j := w) rfl (by omega) (v := nI pa) hp ?_
  refine Z.isub B dX12_sums_66 ?_
  refine Z.callVI (σ := (zuX (zuX σ 65 (upd (upd (upd (upd (upd (upd (zX σ 65) (r) (nI 70)) (r + 1) (nI 12)) (r + 2) (nI 71)) (r + 3) (nI 11)) (r + 4) (nI 60)) (r + 5) (nI 10))) 45 (upd (zX σ 45) 31 (nI (r + 6))))) B (M' := mX12_feels) (as := [.int (nI w), .int (x - (nI pa))]) (st := [.int ((((x - nI pa) + nI w) * nI 2) * nI 2)]) (v := .int (((x - nI pa) + nI w) * nI 2)) dX12_sums_67 wX12_feels iX12_feels sX12_feels kX12_233 (hl.n (k := 45) (by decide)) (hl.k (k := 45) (by decide)) (by decide) rfl rfl (t_X12_feels_6 (σ := (zuX (zuX σ 65 (upd (upd (upd (upd (upd (upd (zX σ 65) (r) (nI 70)) (r + 1) (nI 12)) (r + 2) (nI 71)) (r + 3) (nI 11)) (r + 4) (nI 60)) (r + 5) (nI 10))) 45 (upd (zX σ 45) 31 (nI (r + 6))))) hl (w := w) (pa := pa) (r := r + 6) (x := (x - nI pa)) hw2 rfl (by omega)) rfl rfl (by decide) (by decide) (Nat.le_of_ble_eq_true rfl) (by decide) (by decide) ?_
  refine Z.eqσ (τ := (zuX (zuX σ 65 (upd (upd (upd (upd (upd (upd (upd (upd (zX σ 65) (r) (nI 70)) (r + 1) (nI 12)) (r + 2) (nI 71)) (r + 3) (nI 11)) (r + 4) (nI 60)) (r + 5) (nI 10)) (r + 6) (nI 60)) (r + 7) (nI 10))) 45 (upd (zX σ 45) 31 (nI (r + 8))))) (by rw [show zX (zuX (zuX σ 65 (upd (upd (upd (upd (upd (upd (zX σ 65) (r) (nI 70)) (r + 1) (nI 12)) (r + 2) (nI 71)) (r + 3) (nI 11)) (r + 4) (nI 60)) (r + 5) (nI 10))) 45 (upd (zX σ 45) 31 (nI (r + 6)))) 65 = upd (upd (upd (upd (upd (upd (zX σ 65) (r) (nI 70)) (r + 1) (nI 12)) (r + 2) (nI 71)) (r + 3) (nI 11)) (r + 4) (nI 60)) (r + 5) (nI 10) from rfl, show zX (zuX (zuX σ 65 (upd (upd (upd (upd (upd (upd (zX σ 65) (r) (nI 70)) (r + 1) (nI 12)) (r + 2) (nI 71)) (r + 3) (nI 11)) (r + 4) (nI 60)) (r + 5) (nI 10))) 45 (upd (zX σ 45) 31 (nI (r + 6)))) 45 = upd (zX σ 45) 31 (nI (r + 6)) from rfl, upd_upd, zuX_sw (by decide), zuX_sw (by decide)]; try rfl) ?_
  refine Z.ixor B dX12_sums_70 ?_
  refine Z.istore B dX12_sums_71 (by decide) (L' := [(0, .ref 45), (1, .int (nI w)), (2, .int x), (3, .int (nI 6)), (4, .int (((((x - nI pa) + nI w) * nI 2) * nI 2) ^^^ (((x - nI pa) + nI w) * nI 2)))]) rfl ?_
  refine Z.iload_n B dX12_sums_73 (x := nI 6) rfl ?_
  refine Z.iconst B dX12_sums_74 (v := nI 3) rfl ?_
  refine Z.icmp_neN B dX12_sums_75 (tgt := 85) rfl (by omega) (by omega) (fun h75 => ?_) (fun h75 => by exfalso; first | omega | contradiction | simp_all)
  refine Z.iload_n B dX12_sums_85 (x := nI 6) rfl ?_
  refine Z.iconst B dX12_sums_86 (v := nI 4) rfl ?_
  refine Z.icmp_neN B dX12_sums_87 (tgt := 96) rfl (by omega) (by omega) (fun h87 => ?_) (fun h87 => by exfalso; first | omega | contradiction | simp_all)
  refine Z.iload_n B dX12_sums_96 (x := nI 6) rfl ?_
  refine Z.bipush B dX12_sums_97 (v := nI 6) rfl ?_
  refine Z.icmp_neN B dX12_sums_99 (tgt := 109) rfl (by omega) (by omega) (fun h99 => by exfalso; first | omega | contradiction | simp_all) (fun h99 => ?_)
  refine Z.iload B dX12_sums_102 (x := (((((x - nI pa) + nI w) * nI 2) * nI 2) ^^^ (((x - nI pa) + nI w) * nI 2))) rfl ?_
  refine Z.iconst B dX12_sums_104 (v := nI 5) rfl ?_
  refine Z.ixor B dX12_sums_105 ?_
  refine Z.goto B dX12_sums_106 (tgt := 111) rfl ?_
  refine Z.iret B Rt dX12_sums_111 (ty := .int) rfl rfl (by decide) (by decide) ?_
  exact ⟨rfl, rfl⟩
