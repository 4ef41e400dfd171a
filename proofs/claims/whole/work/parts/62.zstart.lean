/-! the store behind the constructors -/
def okX (k : Nat) : Bool := ([0, 2, 4, 6, 8, 10, 12, 14, 16, 18, 20, 27, 34, 35, 45, 60] : List Nat).contains k
def okR (k : Nat) : Bool := ([0, 1, 2, 4, 6, 8, 10, 12, 14, 16, 18, 20, 27, 34, 35, 45] : List Nat).contains k
/-- where nothing was written all is 0 -/
def zo (σ : zSt) : Prop := (∀ k, okX k = false → zX σ k = fun _ => 0) ∧ (∀ k, zY σ k = fun _ => 0) ∧ ∀ k, okR k = false → zR σ k = fun _ => none
theorem zo.new {σ : zSt} {c n : Nat} (h : zo σ) : zo (zNew σ c n) := by
  refine ⟨fun k hk => ?_, fun k => ?_, fun k hk => ?_⟩
  · by_cases e : k = zN σ
    · subst e; exact zNew_n.2.2.2.1
    · exact (zNew_o e).2.2.1.trans (h.1 k hk)
  · by_cases e : k = zN σ
    · subst e; exact zNew_n.2.2.2.2.1
    · exact (zNew_o e).2.2.2.1.trans (h.2.1 k)
  · by_cases e : k = zN σ
    · subst e; exact zNew_n.2.2.2.2.2
    · exact (zNew_o e).2.2.2.2.trans (h.2.2 k hk)
theorem zo.x {σ : zSt} {j : Nat} {f : Nat → Int32} (h : zo σ) (hj : okX j = true) : zo (zuX σ j f) :=
  ⟨fun k hk => (zX_n (fun e => by rw [e, hj] at hk; cases hk)).trans (h.1 k hk), h.2.1, h.2.2⟩
theorem zo.r {σ : zSt} {j : Nat} {f : Nat → Option Nat} (h : zo σ) (hj : okR j = true) : zo (zuR σ j f) :=
  ⟨h.1, h.2.1, fun k hk => (stRo (fun e => by rw [e, hj] at hk; cases hk)).trans (h.2.2 k hk)⟩
theorem zo_e : zo zEmp := ⟨fun _ _ => rfl, fun _ => rfl, fun _ _ => rfl⟩
theorem zo_0 : zo cS0 := zo_e.new
theorem zo_1 : zo cS1 := zo_0.new
theorem zo_2 : zo cS2 := zo_1.r rfl
theorem zo_3 : zo cS3 := zo_2.new
theorem zo_4 : zo cS4 := zo_3.new
theorem zo_5 : zo cS5 := zo_4.r rfl
theorem zo_6 : zo cS6 := zo_5.x rfl
theorem zo_7 : zo cS7 := zo_6.x rfl
theorem zo_8 : zo cS8 := zo_7.x rfl
theorem zo_9 : zo cS9 := zo_8.r rfl
theorem zo_10 : zo cS10 := zo_9.new
theorem zo_11 : zo cS11 := zo_10.new
theorem zo_12 : zo cS12 := zo_11.r rfl
theorem zo_13 : zo cS13 := zo_12.x rfl
theorem zo_14 : zo cS14 := zo_13.x rfl
theorem zo_15 : zo cS15 := zo_14.x rfl
theorem zo_16 : zo cS16 := zo_15.r rfl
theorem zo_17 : zo cS17 := zo_16.new
theorem zo_18 : zo cS18 := zo_17.new
theorem zo_19 : zo cS19 := zo_18.r rfl
theorem zo_20 : zo cS20 := zo_19.x rfl
theorem zo_21 : zo cS21 := zo_20.x rfl
theorem zo_22 : zo cS22 := zo_21.x rfl
theorem zo_23 : zo cS23 := zo_22.r rfl
theorem zo_24 : zo cS24 := zo_23.new
theorem zo_25 : zo cS25 := zo_24.new
theorem zo_26 : zo cS26 := zo_25.r rfl
theorem zo_27 : zo cS27 := zo_26.x rfl
theorem zo_28 : zo cS28 := zo_27.x rfl
theorem zo_29 : zo cS29 := zo_28.x rfl
theorem zo_30 : zo cS30 := zo_29.r rfl
theorem zo_31 : zo cS31 := zo_30.new
theorem zo_32 : zo cS32 := zo_31.new
theorem zo_33 : zo cS33 := zo_32.r rfl
theorem zo_34 : zo cS34 := zo_33.x rfl
theorem zo_35 : zo cS35 := zo_34.x rfl
theorem zo_36 : zo cS36 := zo_35.x rfl
theorem zo_37 : zo cS37 := zo_36.r rfl
theorem zo_38 : zo cS38 := zo_37.new
theorem zo_39 : zo cS39 := zo_38.new
theorem zo_40 : zo cS40 := zo_39.r rfl
theorem zo_41 : zo cS41 := zo_40.x rfl
theorem zo_42 : zo cS42 := zo_41.x rfl
theorem zo_43 : zo cS43 := zo_42.x rfl
theorem zo_44 : zo cS44 := zo_43.r rfl
theorem zo_45 : zo cS45 := zo_44.new
theorem zo_46 : zo cS46 := zo_45.new
theorem zo_47 : zo cS47 := zo_46.r rfl
theorem zo_48 : zo cS48 := zo_47.x rfl
theorem zo_49 : zo cS49 := zo_48.x rfl
theorem zo_50 : zo cS50 := zo_49.x rfl
theorem zo_51 : zo cS51 := zo_50.r rfl
theorem zo_52 : zo cS52 := zo_51.new
theorem zo_53 : zo cS53 := zo_52.new
theorem zo_54 : zo cS54 := zo_53.r rfl
theorem zo_55 : zo cS55 := zo_54.x rfl
theorem zo_56 : zo cS56 := zo_55.x rfl
theorem zo_57 : zo cS57 := zo_56.x rfl
theorem zo_58 : zo cS58 := zo_57.r rfl
theorem zo_59 : zo cS59 := zo_58.new
theorem zo_60 : zo cS60 := zo_59.new
theorem zo_61 : zo cS61 := zo_60.r rfl
theorem zo_62 : zo cS62 := zo_61.x rfl
theorem zo_63 : zo cS63 := zo_62.r rfl
theorem zo_64 : zo cS64 := zo_63.new
theorem zo_65 : zo cS65 := zo_64.r rfl
theorem zo_66 : zo cS66 := zo_65.new
theorem zo_67 : zo cS67 := zo_66.r rfl
theorem zo_68 : zo cS68 := zo_67.new
theorem zo_69 : zo cS69 := zo_68.r rfl
theorem zo_70 : zo cS70 := zo_69.new
theorem zo_71 : zo cS71 := zo_70.r rfl
theorem zo_72 : zo cS72 := zo_71.new
theorem zo_73 : zo cS73 := zo_72.r rfl
theorem zo_74 : zo cS74 := zo_73.new
theorem zo_75 : zo cS75 := zo_74.r rfl
theorem zo_76 : zo cS76 := zo_75.new
theorem zo_77 : zo cS77 := zo_76.r rfl
theorem zo_78 : zo cS78 := zo_77.x rfl
theorem zo_79 : zo cS79 := zo_78.x rfl
theorem zo_80 : zo cS80 := zo_79.x rfl
theorem zo_81 : zo cS81 := zo_80.x rfl
theorem zo_82 : zo cS82 := zo_81.r rfl
theorem zo_83 : zo cS83 := zo_82.new
theorem zo_84 : zo cS84 := zo_83.r rfl
theorem zo_85 : zo cS85 := zo_84.new
theorem zo_86 : zo cS86 := zo_85.r rfl
theorem zo_87 : zo cS87 := zo_86.new
theorem zo_88 : zo cS88 := zo_87.r rfl
theorem zo_89 : zo cS89 := zo_88.new
theorem zo_90 : zo cS90 := zo_89.r rfl
theorem zo_91 : zo cS91 := zo_90.new
theorem zo_92 : zo cS92 := zo_91.r rfl
theorem zo_93 : zo cS93 := zo_92.new
theorem zo_94 : zo cS94 := zo_93.r rfl
theorem zo_95 : zo cS95 := zo_94.new
theorem zo_96 : zo cS96 := zo_95.r rfl
theorem zo_97 : zo cS97 := zo_96.x rfl
theorem zo_98 : zo cS98 := zo_97.x rfl
theorem zo_99 : zo cS99 := zo_98.x rfl
theorem zo_100 : zo cS100 := zo_99.x rfl
theorem zo_101 : zo cS101 := zo_100.r rfl
theorem zo_102 : zo cS102 := zo_101.new
theorem zo_103 : zo cS103 := zo_102.new
theorem zo_104 : zo cS104 := zo_103.r rfl
theorem zo_105 : zo cS105 := zo_104.new
theorem zo_106 : zo cS106 := zo_105.r rfl
theorem zo_107 : zo cS107 := zo_106.new
theorem zo_108 : zo cS108 := zo_107.r rfl
theorem zo_109 : zo cS109 := zo_108.new
theorem zo_110 : zo cS110 := zo_109.r rfl
theorem zo_111 : zo cS111 := zo_110.new
theorem zo_112 : zo cS112 := zo_111.r rfl
theorem zo_113 : zo cS113 := zo_112.new
theorem zo_114 : zo cS114 := zo_113.r rfl
theorem zo_115 : zo cS115 := zo_114.new
theorem zo_116 : zo cS116 := zo_115.r rfl
theorem zo_117 : zo cS117 := zo_116.x rfl
theorem zo_118 : zo cS118 := zo_117.x rfl
theorem zo_119 : zo cS119 := zo_118.x rfl
theorem zo_120 : zo cS120 := zo_119.x rfl
theorem zo_121 : zo cS121 := zo_120.r rfl
theorem zo_122 : zo cS122 := zo_121.new
theorem zo_123 : zo cS123 := zo_122.r rfl
theorem zo_124 : zo cS124 := zo_123.x rfl
theorem zo_125 : zo cS125 := zo_124.x rfl
theorem zo_126 : zo cS126 := zo_125.r rfl
theorem zo_127 : zo cS127 := zo_126.new
theorem zo_128 : zo cS128 := zo_127.r rfl
theorem zo_129 : zo cS129 := zo_128.new
theorem zo_130 : zo cS130 := zo_129.r rfl
theorem zo_131 : zo cS131 := zo_130.x rfl
theorem zo_132 : zo cS132 := zo_131.x rfl
theorem zo_133 : zo cS133 := zo_132.new
theorem zo_134 : zo cS134 := zo_133.x rfl
theorem zo_135 : zo cS135 := zo_134.x rfl
theorem zo_136 : zo cS136 := zo_135.new
theorem zo_137 : zo cS137 := zo_136.r rfl
theorem zo_138 : zo cS138 := zo_137.new
theorem zo_139 : zo cS139 := zo_138.r rfl
theorem zo_140 : zo cS140 := zo_139.new
theorem zo_141 : zo cS141 := zo_140.r rfl
theorem zo_142 : zo cS142 := zo_141.new
theorem zo_143 : zo cS143 := zo_142.r rfl
theorem zo_144 : zo cS144 := zo_143.new
theorem zo_145 : zo cS145 := zo_144.r rfl
theorem zo_146 : zo cS146 := zo_145.new
theorem zo_147 : zo cS147 := zo_146.r rfl
theorem zo_148 : zo cS148 := zo_147.new
theorem zo_149 : zo cS149 := zo_148.r rfl
theorem zo_150 : zo cS150 := zo_149.new
theorem zo_151 : zo cS151 := zo_150.r rfl
theorem zo_152 : zo cS152 := zo_151.new
theorem zo_153 : zo cS153 := zo_152.r rfl
theorem zo_154 : zo cS154 := zo_153.new
theorem zo_155 : zo cS155 := zo_154.r rfl
theorem zo_156 : zo cS156 := zo_155.new
theorem zo_157 : zo cS157 := zo_156.r rfl
theorem zo_158 : zo cS158 := zo_157.new
theorem zo_159 : zo cS159 := zo_158.r rfl
theorem zo_160 : zo cS160 := zo_159.new
theorem zo_161 : zo cS161 := zo_160.r rfl
theorem zo_162 : zo cS162 := zo_161.new
theorem zo_163 : zo cS163 := zo_162.r rfl
theorem zo_164 : zo cS164 := zo_163.new
theorem zo_165 : zo cS165 := zo_164.x rfl
theorem zo_166 : zo cS166 := zo_165.x rfl
theorem zo_167 : zo cS167 := zo_166.x rfl
theorem zo_168 : zo cS168 := zo_167.x rfl
theorem zo_169 : zo cS169 := zo_168.x rfl
theorem zo_170 : zo cS170 := zo_169.x rfl
theorem zo_171 : zo cS171 := zo_170.x rfl
theorem zo_172 : zo cS172 := zo_171.x rfl
theorem zo_173 : zo cS173 := zo_172.x rfl
theorem zo_174 : zo cS174 := zo_173.x rfl
theorem zo_175 : zo cS175 := zo_174.x rfl
theorem zo_176 : zo cS176 := zo_175.x rfl
theorem zo_177 : zo cS177 := zo_176.x rfl
theorem zo_178 : zo cS178 := zo_177.x rfl
theorem zo_179 : zo cS179 := zo_178.x rfl
theorem zo_180 : zo cS180 := zo_179.x rfl
theorem zo_181 : zo cS181 := zo_180.x rfl
theorem zo_182 : zo cS182 := zo_181.x rfl
theorem zo_183 : zo cS183 := zo_182.x rfl
theorem zo_184 : zo cS184 := zo_183.x rfl
theorem zo_185 : zo cS185 := zo_184.x rfl
theorem zo_186 : zo cS186 := zo_185.x rfl
theorem zo_187 : zo cS187 := zo_186.x rfl
theorem zo_188 : zo cS188 := zo_187.x rfl
theorem zo_189 : zo cS189 := zo_188.x rfl
theorem zo_190 : zo cS190 := zo_189.x rfl
theorem zo_191 : zo cS191 := zo_190.r rfl
theorem zo_192 : zo cS192 := zo_191.new
theorem zo_193 : zo cS193 := zo_192.r rfl
theorem zo_194 : zo cS194 := zo_193.new
theorem zo_195 : zo cS195 := zo_194.r rfl
theorem zo_196 : zo cS196 := zo_195.new
theorem zo_197 : zo cS197 := zo_196.r rfl
theorem zo_198 : zo cS198 := zo_197.x rfl
theorem zo_199 : zo cS199 := zo_198.new
theorem zo_200 : zo cS200 := zo_199.r rfl
theorem zo_201 : zo cS201 := zo_200.new
theorem zo_202 : zo cS202 := zo_201.r rfl
def hd0 : HD := ((0, 0, 0, nI 1), (fun _ => 0, fun _ => 0, fun _ => 0), fun _ => 0, fun _ => 0)
theorem hd0_w : HW hd0 := by
  refine ⟨⟨Nat.zero_le _, Nat.zero_le _, Nat.zero_le _⟩, fun c w hc => absurd hc (Nat.not_lt_zero _), fun _ _ => rfl, fun b hb => absurd hb (Nat.not_lt_zero _), fun _ _ => rfl, ⟨fun _ => 0, fun _ => 0, fun i hi => absurd hi (Nat.not_lt_zero _), fun i hi => absurd hi (Nat.not_lt_zero _), fun i j hi => absurd hi (Nat.not_lt_zero _)⟩, fun _ _ => rfl, fun w hw => absurd hw (Nat.not_lt_zero _)⟩
theorem cSM_r : ∀ k, k < 66 → ∀ f, f < 34 → layR k f ≠ 0 → zR cSM k f = some (layR k f) := by decide +kernel
theorem layR_hi {k f : Nat} (h : 34 ≤ f) : layR k f = 0 := by
  unfold layR
  split <;> (rw [List.getD_eq_getElem?_getD, List.getElem?_eq_none (Nat.le_trans (by decide) h)]; rfl)
theorem cSM_lay : Lay cSM := ⟨Nat.le_of_eq cSM_n.symm, cSM_k, cSM_l, fun k f hk hf => by
  rcases Nat.lt_or_ge f 34 with h | h
  · exact cSM_r k hk f h hf
  · exact absurd (layR_hi h) hf⟩
theorem cSM_sh : ∀ s, s < 8 → (zX cSM (2 + 2 * s) 1 = (-1) ∧ zX cSM (2 + 2 * s) 2 = nI 0 ∧ zX cSM (2 + 2 * s) 3 = (-1)) ∧ zX cSM 54 s = nI 0 := by decide +kernel
theorem cSM_20 : zX cSM 20 2 = nI 0 ∧ zX cSM 20 5 = nI 0 ∧ zX cSM 20 7 = nI 0 ∧ zX cSM 20 8 = nI 1 := by decide +kernel
theorem cSM_45 : zX cSM 45 0 = nI 0 ∧ zX cSM 45 1 = nI 0 ∧ zX cSM 45 2 = nI 0 ∧ zX cSM 45 3 = nI 1 := by decide +kernel
theorem cSM_v : zX cSM 0 8 = zX cSM 45 4 ∧ zX cSM 18 1 = nI 0 ∧ zX cSM 45 31 = nI 0 ∧ zX cSM 45 28 = (-1) ∧ zX cSM 0 7 = nI 0 ∧ zX cSM 45 32 = nI 0 := by decide +kernel
theorem cSM_wd : ∀ j, j < 26 → zX cSM 60 j = nI (wds j) := by decide +kernel
theorem zo.dz {σ : zSt} (h : zo σ) {k : Nat} (h1 : okX (k + 1) = false) (h2 : okX (k + 2) = false) (h3 : okX (k + 3) = false) (h4 : okR (k + 4) = false) : DZ σ k := by
  unfold DZ
  rw [h.1 _ h1, h.1 _ h2, h.1 _ h3, h.2.2 _ h4]
  exact ⟨fun _ _ => rfl, fun _ _ => rfl, fun _ _ => rfl, fun _ _ => rfl⟩
theorem rel0 : Rel cSM := by
  have h : zo cSM := zo_202
  refine ⟨hd0, hd0, 0, hd0_w, ⟨cSM_20, ⟨h.1 21 rfl, h.1 22 rfl, h.1 23 rfl⟩, fun w hw => absurd hw (Nat.not_lt_zero _), fun w _ => congrFun (h.2.2 24 rfl) w⟩, ⟨cSM_45, ⟨h.1 47 rfl, h.1 48 rfl, h.1 49 rfl, h.1 50 rfl, h.1 51 rfl⟩, fun w hw => absurd hw (Nat.not_lt_zero _)⟩, cSM_lay, cl202, fun s hs => ⟨Or.inr (Or.inr (cSM_sh s hs)), fun i _ => ?_⟩, cSM_v.1, (h.1 43 rfl).trans (h.1 46 rfl).symm, ⟨(h.1 19 rfl).trans (h.1 65 rfl).symm, 0, by decide, cSM_v.2.1, cSM_v.2.2.1⟩, cSM_v.2.2.2.1, h.dz rfl rfl rfl rfl, cSM_wd, h.dz rfl rfl rfl rfl, cSM_v.2.2.2.2.1, cSM_v.2.2.2.2.2, Nat.zero_le _, fun hb => absurd hb (by decide)⟩
  rw [h.2.1, h.2.1]

