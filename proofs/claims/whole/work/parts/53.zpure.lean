/-! sums, orders, ranks: what the class reckons and what the model reckons -/
theorem nz_add (x : Int32) : nI 0 + x = x := Int32.zero_add x
theorem add_nz (x : Int32) : x + nI 0 = x := Int32.add_zero x
theorem i4_add (a b c d : Int32) : a + b + (c + d) = a + c + (b + d) := by
  rw [Int32.add_assoc, Int32.add_assoc, ← Int32.add_assoc b c d, Int32.add_comm b c, Int32.add_assoc c b d]
theorem smE_cong {f g : Nat → Int32} : ∀ n, (∀ i, i < n → f i = g i) → sm f n = sm g n
  | 0, _ => rfl
  | n + 1, h => by simp only [sm]; rw [smE_cong n (fun i hi => h i (by omega)), h n (by omega)]
theorem smE_zero {f : Nat → Int32} : ∀ n, (∀ i, i < n → f i = nI 0) → sm f n = nI 0
  | 0, _ => rfl
  | n + 1, h => by simp only [sm]; rw [smE_zero n (fun i hi => h i (by omega)), h n (by omega), add_nz]
theorem smE_add {f g : Nat → Int32} : ∀ n, sm (fun i => f i + g i) n = sm f n + sm g n
  | 0 => (nz_add _).symm
  | n + 1 => by simp only [sm]; rw [smE_add n, i4_add]
theorem smE_swap {F : Nat → Nat → Int32} {m : Nat} : ∀ n, sm (fun i => sm (fun j => F i j) m) n = sm (fun j => sm (fun i => F i j) n) m
  | 0 => (smE_zero m (fun _ _ => rfl)).symm
  | n + 1 => by
    show sm (fun i => sm (fun j => F i j) m) n + sm (fun j => F n j) m = sm (fun j => sm (fun i => F i j) n + F n j) m
    rw [smE_swap n, smE_add]
theorem smE_one {k : Nat} {g : Nat → Int32} : ∀ n, k < n → sm (fun i => if i = k then g i else nI 0) n = g k
  | 0, h => by omega
  | n + 1, h => by
    show sm (fun i => if i = k then g i else nI 0) n + (if n = k then g n else nI 0) = g k
    by_cases e : n = k
    · subst e
      rw [if_pos rfl, smE_zero n (fun i hi => if_neg (by omega)), nz_add]
    · rw [if_neg e, add_nz]
      exact smE_one n (by omega)
/-- a sum in another order -/
theorem smE_perm {a : Nat} {od pos : Nat → Nat} {g : Nat → Int32} (hp : zPo a od pos) (hi : ∀ i j, i < a → j < a → od i = od j → i = j) (ho : ∀ i, i < a → od i < a) : sm (fun b => g (pos b)) a = sm g a := by
  have h1 : sm (fun b => g (pos b)) a = sm (fun b => sm (fun p => if p = pos b then g p else nI 0) a) a := smE_cong a fun b hb => (smE_one a (hp b hb).1).symm
  rw [h1, smE_swap]
  refine smE_cong a fun p hpa => ?_
  have h2 : sm (fun b => if p = pos b then g p else nI 0) a = sm (fun b => if b = od p then g p else nI 0) a := by
    refine smE_cong a fun b hb => ?_
    by_cases e : p = pos b
    · rw [if_pos e, if_pos (by rw [e]; exact (hp b hb).2.1.symm)]
    · rw [if_neg e, if_neg (fun h => e (by rw [h]; exact hi _ _ hpa (hp _ (ho p hpa)).1 (hp _ (ho p hpa)).2.1.symm))]
  rw [h2]
  exact smE_one (g := fun _ => g p) a (ho p hpa)
theorem nI_div {x y : Nat} (hx : x < 2 ^ 31) (hy : y < 2 ^ 31) : nI x / nI y = nI (x / y) := (Int32.ofNat_div hx hy).symm
theorem nI_mul (x y : Nat) : nI x * nI y = nI (x * y) := (Int32.ofNat_mul x y).symm
theorem ten_x {x : Nat} (h : x < 2 ^ 27) : nI 10 * nI x / nI 10 = nI x := by
  rw [nI_mul, nI_div (by omega) (by decide), show 10 * x / 10 = x by omega]
theorem sd_sm {sl : Bool} {d s : Nat → Int32} {p : Nat} (hs : ∀ p, ∃ x, x < 2 ^ 27 ∧ s p = nI x) : sd sl d s (p + 1) = if sl = true then s p else msd d s (p + 1) := by
  have t0 : ∀ p q : Nat, ((nI 10 - nI 0) * s p + nI 0 * sd sl d s q) / nI 10 = s p := by
    intro p q
    obtain ⟨x, h1, h2⟩ := hs p
    have e1 : nI 10 - nI 0 = nI 10 := by decide
    have e2 : nI 0 * sd sl d s q = nI 0 := Int32.zero_mul
    rw [e1, e2, add_nz, h2, ten_x h1]
  cases sl with
  | true =>
    rw [if_pos rfl]
    show ((nI 10 - (if true = true ∨ p = 0 then nI 0 else d p)) * s p + (if true = true ∨ p = 0 then nI 0 else d p) * sd true d s p) / nI 10 = s p
    rw [if_pos (Or.inl rfl)]
    exact t0 p p
  | false =>
    rw [if_neg (by decide)]
    induction p with
    | zero =>
      show ((nI 10 - (if false = true ∨ 0 = 0 then nI 0 else d 0)) * s 0 + (if false = true ∨ 0 = 0 then nI 0 else d 0) * sd false d s 0) / nI 10 = (if 0 = 0 then s 0 else _)
      rw [if_pos (Or.inr rfl), if_pos rfl]
      exact t0 0 0
    | succ p ih =>
      show ((nI 10 - (if false = true ∨ p + 1 = 0 then nI 0 else d (p + 1))) * s (p + 1) + (if false = true ∨ p + 1 = 0 then nI 0 else d (p + 1)) * sd false d s (p + 1)) / nI 10 = (if p + 1 = 0 then s (p + 1) else ((nI 10 - d (p + 1)) * s (p + 1) + d (p + 1) * msd d s (p + 1)) / nI 10)
      rw [if_neg (by rintro (h | h) <;> cases h), if_neg (by omega), ih]
theorem st_sm {sl : Bool} {d s : Nat → Int32} : ∀ m, st_ sl d s m = sm (fun p => sd sl d s (p + 1)) m
  | 0 => rfl
  | m + 1 => by
    show st_ sl d s m + sd sl d s (m + 1) = _
    rw [st_sm m]; rfl
/-- the totals are the same -/
theorem tf_mtf {F S K Dr : Nat → Int32} {sl : Bool} {kd pa a c : Nat} {od pos : Nat → Nat} (hp : zPo a od pos) (hi : ∀ i j, i < a → j < a → od i = od j → i = j) (ho : ∀ i, i < a → od i < a) (hs : ∀ b, b < a → ∃ x, x < 2 ^ 27 ∧ shW F S K kd pa b c = nI x) : tf F S K Dr sl kd pa od a c = mtf F S K Dr sl kd pa od pos a c := by
  have key : ∀ (s' : Nat → Int32), (∀ p, p < a → s' p = ss F S K kd pa od c p) → (∀ p, ∃ x, x < 2 ^ 27 ∧ s' p = nI x) → tf F S K Dr sl kd pa od a c = mtf F S K Dr sl kd pa od pos a c := by
    intro s' e1 e2
    have hsd : ∀ p, p ≤ a → sd sl (dd Dr od) s' p = sd sl (dd Dr od) (ss F S K kd pa od c) p := by
      intro p
      induction p with
      | zero => intro _; rfl
      | succ p ih => intro h; simp only [sd]; rw [ih (by omega), e1 p (by omega)]
    have hmsd : ∀ p, p ≤ a → msd (dd Dr od) s' p = msd (dd Dr od) (ss F S K kd pa od c) p := by
      intro p
      induction p with
      | zero => intro _; rfl
      | succ p ih => intro h; simp only [msd]; rw [ih (by omega), e1 p (by omega)]
    show st_ sl (dd Dr od) (ss F S K kd pa od c) a = sm (fun b => msv F S K Dr sl kd pa od pos b c) a
    rw [st_sm, ← smE_perm (g := fun p => sd sl (dd Dr od) (ss F S K kd pa od c) (p + 1)) hp hi ho]
    refine smE_cong a fun b hb => ?_
    obtain ⟨q1, q2, q3⟩ := hp b hb
    show sd sl (dd Dr od) (ss F S K kd pa od c) (pos b + 1) = _
    rw [← hsd _ (by omega), sd_sm e2]
    unfold msv
    cases sl with
    | true =>
      rw [if_pos rfl, if_pos rfl, e1 _ q1]
      show shW F S K kd pa (od (pos b)) c = _
      rw [q2]
    | false => rw [if_neg (by decide), if_neg (by decide), hmsd _ (by omega)]
  refine key (fun p => if p < a then ss F S K kd pa od c p else nI 0) (fun p h => if_pos h) (fun p => ?_)
  by_cases h : p < a
  · rw [if_pos h]; exact hs _ (ho p h)
  · rw [if_neg h]; exact ⟨0, by decide, rfl⟩
/-- said: a difference of totals is what one says -/
theorem tt_msv {F S K Dr : Nat → Int32} {sl : Bool} {kd pa a c b : Nat} {od pos : Nat → Nat} (hp : zPo a od pos) (ho : ∀ i, i < a → od i < a) (hs : ∀ b, b < a → ∃ x, x < 2 ^ 27 ∧ shW F S K kd pa b c = nI x) (hb : b < a) : tt F S K Dr sl kd pa od c (pos b + 1) - tt F S K Dr sl kd pa od c (pos b) = msv F S K Dr sl kd pa od pos b c := by
  obtain ⟨q1, q2, q3⟩ := hp b hb
  have e0 : tt F S K Dr sl kd pa od c (pos b + 1) - tt F S K Dr sl kd pa od c (pos b) = sd sl (dd Dr od) (ss F S K kd pa od c) (pos b + 1) := by
    show st_ sl (dd Dr od) (ss F S K kd pa od c) (pos b) + sd sl (dd Dr od) (ss F S K kd pa od c) (pos b + 1) - st_ sl (dd Dr od) (ss F S K kd pa od c) (pos b) = _
    rw [Int32.add_comm, Int32.add_sub_cancel]
  rw [e0]
  let s' : Nat → Int32 := fun p => if p < a then ss F S K kd pa od c p else nI 0
  have e1 : ∀ p, p < a → s' p = ss F S K kd pa od c p := fun p h => if_pos h
  have e2 : ∀ p, ∃ x, x < 2 ^ 27 ∧ s' p = nI x := fun p => by
    by_cases h : p < a
    · rw [e1 p h]; exact hs _ (ho p h)
    · exact ⟨0, by decide, if_neg h⟩
  have hsd : ∀ p, p ≤ a → sd sl (dd Dr od) s' p = sd sl (dd Dr od) (ss F S K kd pa od c) p := by
    intro p
    induction p with
    | zero => intro _; rfl
    | succ p ih => intro h; simp only [sd]; rw [ih (by omega), e1 p (by omega)]
  have hmsd : ∀ p, p ≤ a → msd (dd Dr od) s' p = msd (dd Dr od) (ss F S K kd pa od c) p := by
    intro p
    induction p with
    | zero => intro _; rfl
    | succ p ih => intro h; simp only [msd]; rw [ih (by omega), e1 p (by omega)]
  rw [← hsd _ (by omega), sd_sm e2]
  unfold msv
  cases sl with
  | true =>
    rw [if_pos rfl, if_pos rfl, e1 _ q1]
    show shW F S K kd pa (od (pos b)) c = _
    rw [q2]
  | false => rw [if_neg (by decide), if_neg (by decide), hmsd _ (by omega)]
/-- turned: all but one -/
theorem smg_sub {g : Nat} {f : Nat → Int32} : ∀ n, g < n → smg g f n = sm f n - f g
  | 0, h => by omega
  | n + 1, h => by
    have hlow : ∀ m, m ≤ g → smg g f m = sm f m := by
      intro m
      induction m with
      | zero => intro _; rfl
      | succ m ih => intro h; simp only [smg, sm]; rw [if_neg (by omega), ih (by omega)]
    show (if n = g then smg g f n else smg g f n + f n) = sm f n + f n - f g
    by_cases e : n = g
    · subst e
      rw [if_pos rfl, hlow n (Nat.le_refl _), Int32.add_sub_cancel]
    · rw [if_neg e, smg_sub n (by omega), Int32.sub_eq_add_neg, Int32.sub_eq_add_neg, Int32.add_assoc, Int32.add_assoc, Int32.add_comm (-f g) (f n)]
theorem tf_mtg {F S K Dr : Nat → Int32} {kd pa a c g : Nat} {od pos : Nat → Nat} (hp : zPo a od pos) (hi : ∀ i j, i < a → j < a → od i = od j → i = j) (ho : ∀ i, i < a → od i < a) (hs : ∀ b, b < a → ∃ x, x < 2 ^ 27 ∧ shW F S K kd pa b c = nI x) (hg : g < a) : tf F S K Dr true kd pa od a c - shW F S K kd pa g c = mtg F S K Dr kd pa od pos a g c := by
  rw [tf_mtf hp hi ho hs]
  unfold mtf mtg
  rw [smg_sub a hg]
  rfl
theorem tn_0 {G : Nat → Nat → Int32} : ∀ b, tn 0 G b = nI 0
  | 0 => rfl
  | b + 1 => by
    show tn 0 G b ||| (if gI (G b) 0 = (-1) then nI 0 else nI 1 <<< (gI (G b) 0 &&& 31)) = nI 0
    have e : gI (G b) 0 = (-1) := rfl
    rw [tn_0 b, if_pos e]; decide
theorem tn_tnM {n : Nat} {G H : Nat → Nat → Int32} (hn : 0 < n) (hn8 : n ≤ 8) : ∀ a, (∀ b c, b < a → c < n → G b c = H b c) → tn n G a = tnM n H a
  | 0, _ => rfl
  | b + 1, h => by
    show tn n G b ||| (if gI (G b) n = (-1) then nI 0 else nI 1 <<< (gI (G b) n &&& 31)) = tnM n H b ||| (nI 1 <<< (gI (H b) n &&& 31))
    have e : gI (G b) n = gI (H b) n := gI_cong fun c hc => h b c (by omega) hc
    rw [tn_tnM hn hn8 b (fun x c hx hc => h x c (by omega) hc), e, if_neg]
    rw [gI_pos hn]
    exact fun h1 => zm1 (by have := ga_lt (f := H b) hn; omega) h1
/-- how well a row tells -/
theorem am_255 : ∀ i, i < 8 → am_ 255 i = true := by decide
theorem sg_v {x y : Int32} (h : ¬ x = y) : (y < x ∧ ¬ x < y ∧ sg x y = nI 1) ∨ (x < y ∧ ¬ y < x ∧ sg x y = (-1)) := by
  unfold sg
  rw [if_neg h]
  have hne : ¬ x.toInt = y.toInt := fun e => h (Int32.toInt_inj.mp e)
  by_cases h1 : y < x
  · refine Or.inl ⟨h1, ?_, if_pos h1⟩
    rw [zlt_iff] at h1 ⊢; omega
  · refine Or.inr ⟨?_, h1, if_neg h1⟩
    rw [zlt_iff] at h1 ⊢; omega
theorem pt_mt {am : Nat → Bool} {F X : Nat → Int32} {i j : Nat} : (if am i = true ∧ am j = true then pt F X i j else nI 0) = mt am F X i j := by
  unfold mt
  by_cases ha : am i = true ∧ am j = true
  · rw [if_pos ha]
    unfold pt
    by_cases hx : X i = X j
    · rw [if_neg (fun h => h.2.2.1 hx.symm)]
      have : sg (X i) (X j) = nI 0 := if_pos hx
      rw [this]; exact Int32.mul_zero
    by_cases hf : cn F i 6 = cn F j 6
    · rw [if_neg (fun h => h.2.2.2 hf.symm)]
      have : sg (cn F i 6) (cn F j 6) = nI 0 := if_pos hf
      rw [this]; exact Int32.zero_mul
    rw [if_pos ⟨ha.2, ha.1, fun h => hx h.symm, fun h => hf h.symm⟩]
    rcases sg_v hx with ⟨a1, a2, a3⟩ | ⟨a1, a2, a3⟩ <;> rcases sg_v hf with ⟨b1, b2, b3⟩ | ⟨b1, b2, b3⟩ <;> rw [a3, b3]
    · rw [if_pos ⟨fun h => absurd h b2, fun h => absurd h a2⟩]; decide
    · rw [if_neg (fun h => a2 (h.mp b1))]; decide
    · rw [if_neg (fun h => b2 (h.mpr a1))]; decide
    · rw [if_pos ⟨fun _ => a1, fun _ => b1⟩]; decide
  · rw [if_neg ha, if_neg (fun h => ha ⟨h.2.1, h.1⟩)]
theorem tO_mt {F X : Nat → Int32} {n : Nat} (hn : n ≤ 8) : tO (pt F X) n = tO (mt (am_ 255) F X) n := by
  refine tO_cong n fun i j hi hj => ?_
  rw [← pt_mt, if_pos ⟨am_255 i (by omega), am_255 j (by omega)⟩]
theorem pt_cong {F X Y : Nat → Int32} {i j : Nat} (h1 : X i = Y i) (h2 : X j = Y j) : pt F X i j = pt F Y i j := by unfold pt; rw [h1, h2]
theorem tO_ptc {F X Y : Nat → Int32} {n : Nat} (h : ∀ c, c < n → X c = Y c) : tO (pt F X) n = tO (pt F Y) n := tO_cong n fun i j hi hj => pt_cong (h i (by omega)) (h j hj)
theorem rkN_lt {X : Nat → Int32} {n c : Nat} (hc : c < n) : rkN X n c < n := by
  have h1 : cN (ah X c) n < cN (fun _ => true) n := cN_lt n (fun _ _ _ => rfl) hc ah_irr rfl
  exact Nat.lt_of_lt_of_le h1 (cN_le _ n)
/-- righted -/
theorem tO_rg {F X : Nat → Int32} {n m : Nat} (hn : n ≤ 8) : tO (rgF F X n m) n = tO (mt (am_ (mkr (slK (fun c => cn F c 5) n) (min m n))) F X) n := by
  refine tO_cong n fun i j hi hj => ?_
  have e : ∀ c, c < n → (am_ (mkr (slK (fun c => cn F c 5) n) (min m n)) c = true ↔ rkN (fun c => cn F c 5) n c < m) := by
    intro c hc
    rw [slK_m (Nat.min_le_right m n) hn hc, decide_eq_true_iff]
    have := rkN_lt (X := fun c => cn F c 5) hc
    omega
  rw [← pt_mt]
  unfold rgF
  have hi2 := e i (by omega)
  have hj2 := e j hj
  by_cases h : rkN (fun c => cn F c 5) n i < m ∧ rkN (fun c => cn F c 5) n j < m
  · rw [if_pos h, if_pos ⟨hi2.mpr h.1, hj2.mpr h.2⟩]
  · rw [if_neg h, if_neg (fun h2 => h ⟨hi2.mp h2.1, hj2.mp h2.2⟩)]
/-- ranks differ -/
theorem rkN_ah {X : Nat → Int32} {n c d : Nat} (hc : c < n) (h : ah X d c = true) : rkN X n c < rkN X n d := cN_lt (p := ah X c) (q := ah X d) n (fun i _ hi => ah_tr h hi) hc ah_irr h
theorem rkN_inj {X : Nat → Int32} {n c d : Nat} (hc : c < n) (hd : d < n) (h : rkN X n c = rkN X n d) : c = d := by
  rcases Nat.decEq c d with hne | he
  · rcases ah_to (X := X) hne with h1 | h1
    · have := rkN_ah hd h1; omega
    · have := rkN_ah hc h1; omega
  · exact he
theorem smm_sm {z : Int32} {f : Nat → Int32} : ∀ n, smm z f n = z - sm f n
  | 0 => (Int32.sub_zero z).symm
  | n + 1 => by
    show smm z f n - f n = z - (sm f n + f n)
    rw [smm_sm n, Int32.sub_eq_add_neg, Int32.sub_eq_add_neg, Int32.sub_eq_add_neg, Int32.neg_add, Int32.add_assoc, Int32.sub_eq_add_neg]
/-- lost -/
theorem lo_sm {F g : Nat → Int32} {n k : Nat} (hk : k ≤ n) : sm (loF F g n k) n = sm (fun t => cn F (slK g n t) 6) k := by
  obtain ⟨-, hsl⟩ := slK_all (X := g) (n := n) k hk
  have h1 : sm (loF F g n k) n = sm (fun c => sm (fun t => if t = rkN g n c then cn F c 6 else nI 0) k) n := by
    refine smE_cong n fun c hc => ?_
    unfold loF
    by_cases h : rkN g n c < k
    · rw [if_pos h, smE_one (g := fun _ => cn F c 6) k h]
    · rw [if_neg h, smE_zero k (fun t ht => if_neg (by omega))]
  rw [h1, smE_swap]
  refine smE_cong k fun t ht => ?_
  obtain ⟨a1, a2, -⟩ := hsl t ht
  have h2 : sm (fun c => if t = rkN g n c then cn F c 6 else nI 0) n = sm (fun c => if c = slK g n t then cn F c 6 else nI 0) n := by
    refine smE_cong n fun c hc => ?_
    by_cases e : c = slK g n t
    · rw [if_pos e, if_pos (by rw [e, a2])]
    · rw [if_neg e, if_neg (fun h => e (rkN_inj hc a1 (by rw [a2, ← h])))]
  rw [h2]
  exact smE_one (g := fun c => cn F c 6) n a1
theorem rkN_cong {X Y : Nat → Int32} {n c : Nat} (hc : c < n) (h : ∀ i, i < n → X i = Y i) : rkN X n c = rkN Y n c := cN_cong n fun i hi => by unfold ah; rw [h i hi, h c hc]
theorem lo_cong {F X Y : Nat → Int32} {n k : Nat} (h : ∀ i, i < n → X i = Y i) : sm (loF F X n k) n = sm (loF F Y n k) n := smE_cong n fun c hc => by unfold loF; rw [rkN_cong hc h]
