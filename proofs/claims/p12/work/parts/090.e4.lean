abbrev P_X8_init6 : CpC := fun As σ => ∃ (p0 : Nat) (p1 : Int32) (p2 : Int32) (p3 : Int32) (p4 : Option Nat) (p5 : Int64), As = [.inr (.inr (some p0)), .inl p1, .inl p2, .inl p3, .inr (.inr p4), .inr (.inl p5)] ∧ HIC σ ∧ RawC σ p0 9 ∧ ZrC σ p0 ∧ 0 ≤ p2.toInt ∧ p2.toInt ≤ 502 ∧ 0 ≤ p3.toInt ∧ p3.toInt ≤ 22 ∧ OtC σ p4 9 ∧ cnC σ + 0 ≤ cpC σ ∧ slC σ + 0 ≤ spC σ ∧ p1.toInt = 6 ∧ (∀ b, p4 = some b → b < p0)
abbrev Q_X8_init6 : CqC := fun As σ w τ => match As with
  | [.inr (.inr (some p0)), .inl p1, .inl p2, .inl p3, .inr (.inr p4), .inr (.inl p5)] => w = none ∧ (HI0 τ ∧ LbC τ (some p0)) ∧ ExT p0 [] σ τ ∧ TyC τ p0 9 ∧ ghC τ p0 = ghC σ p0 ∧ cnC τ = cnC σ + 0 ∧ slC τ = slC σ + 0 ∧ GwC none σ τ ∧ (fIC τ p0 270 = p1) ∧ (fIC τ p0 272 = p3)
  | _ => False
set_option maxRecDepth 100000 in
set_option maxHeartbeats 4000000 in
theorem b_X8_init6 : TbC KX8_init [] P_X8_init6 Q_X8_init6 := by
  · rintro As σ0 ⟨p0, p1, p2, p3, p4, p5, rfl, H0, h_0_0, h_0_1, h_2_0, h_2_1, h_3_0, h_3_1, h_4_0, rm_0, rm_1, q_0, q_1⟩ hgr G hB hW
    change G 0 [(0, .inr (.inr (some p0))), (1, .inl p1), (2, .inl p2), (3, .inl p3), (4, .inr (.inr p4)), (5, .inr (.inl p5))] [] σ0
    refine hB _ _ _ _ (kgoC (is := KX8_init_0) rfl ?_)
    refine k_aload_n rfl ?_
    refine k_obj (Nat.le_of_ble_eq_true rfl) ?_
    refine k_aload_n rfl ?_
    refine k_iconst (m := (-1)) rfl (fun x1 h2 => ?_)
    refine k_putIW (c := 9) H0 h_0_0 rfl (Or.inl fk280) (fun σ3 H4 e5 r6 c7 f8 f9 l10 => ?_)
    have u11 : cpC σ3 = cpC σ0 := congrArg Prod.fst e5.2.1.1
    have u12 : spC σ3 = spC σ0 := congrArg Prod.snd e5.2.1.1
    have u13 : cnC σ3 = cnC σ0 := congrArg (fun z => z.1.1) (e5.2.1.2.1 (by decide))
    have u14 : slC σ3 = slC σ0 := congrArg (fun z => z.1.2) (e5.2.1.2.1 (by decide))
    refine k_aload_n rfl ?_
    refine k_ldc2_w ?_
    refine k_putLW (c := 9) H4 r6 rfl fk287 (fun σ15 H16 e17 r18 f20 f21 l22 => ?_)
    have u23 : cpC σ15 = cpC σ3 := congrArg Prod.fst e17.2.1.1
    have u24 : spC σ15 = spC σ3 := congrArg Prod.snd e17.2.1.1
    have u25 : cnC σ15 = cnC σ3 := congrArg (fun z => z.1.1) (e17.2.1.2.1 (by decide))
    have u26 : slC σ15 = slC σ3 := congrArg (fun z => z.1.2) (e17.2.1.2.1 (by decide))
    refine k_aload_n rfl ?_
    refine k_ldc2_w ?_
    refine k_putLW (c := 9) H16 r18 rfl fk288 (fun σ27 H28 e29 r30 f32 f33 l34 => ?_)
    have u35 : cpC σ27 = cpC σ15 := congrArg Prod.fst e29.2.1.1
    have u36 : spC σ27 = spC σ15 := congrArg Prod.snd e29.2.1.1
    have u37 : cnC σ27 = cnC σ15 := congrArg (fun z => z.1.1) (e29.2.1.2.1 (by decide))
    have u38 : slC σ27 = slC σ15 := congrArg (fun z => z.1.2) (e29.2.1.2.1 (by decide))
    refine k_aload_n rfl ?_
    refine k_iload_n rfl ?_
    refine k_putIW (c := 9) H28 r30 rfl (Or.inl fk270) (fun σ39 H40 e41 r42 c43 f44 f45 l46 => ?_)
    have u47 : cpC σ39 = cpC σ27 := congrArg Prod.fst e41.2.1.1
    have u48 : spC σ39 = spC σ27 := congrArg Prod.snd e41.2.1.1
    have u49 : cnC σ39 = cnC σ27 := congrArg (fun z => z.1.1) (e41.2.1.2.1 (by decide))
    have u50 : slC σ39 = slC σ27 := congrArg (fun z => z.1.2) (e41.2.1.2.1 (by decide))
    refine k_aload_n rfl ?_
    refine k_iload_n rfl ?_
    refine k_putIW (c := 9) H40 r42 rfl (Or.inl fk271) (fun σ51 H52 e53 r54 c55 f56 f57 l58 => ?_)
    have u59 : cpC σ51 = cpC σ39 := congrArg Prod.fst e53.2.1.1
    have u60 : spC σ51 = spC σ39 := congrArg Prod.snd e53.2.1.1
    have u61 : cnC σ51 = cnC σ39 := congrArg (fun z => z.1.1) (e53.2.1.2.1 (by decide))
    have u62 : slC σ51 = slC σ39 := congrArg (fun z => z.1.2) (e53.2.1.2.1 (by decide))
    refine k_aload_n rfl ?_
    refine k_iload_n rfl ?_
    refine k_putIW (c := 9) H52 r54 rfl (Or.inl fk272) (fun σ63 H64 e65 r66 c67 f68 f69 l70 => ?_)
    have u71 : cpC σ63 = cpC σ51 := congrArg Prod.fst e65.2.1.1
    have u72 : spC σ63 = spC σ51 := congrArg Prod.snd e65.2.1.1
    have u73 : cnC σ63 = cnC σ51 := congrArg (fun z => z.1.1) (e65.2.1.2.1 (by decide))
    have u74 : slC σ63 = slC σ51 := congrArg (fun z => z.1.2) (e65.2.1.2.1 (by decide))
    refine k_aload_n rfl ?_
    refine k_aload rfl ?_
    refine k_putRW (c := 9) H64 r66 rfl fk273 (fun σ75 H76 e77 r78 c79 f80 f81 l82 => ?_)
    have u83 : cpC σ75 = cpC σ63 := congrArg Prod.fst e77.2.1.1
    have u84 : spC σ75 = spC σ63 := congrArg Prod.snd e77.2.1.1
    have u85 : cnC σ75 = cnC σ63 := congrArg (fun z => z.1.1) (e77.2.1.2.1 (by decide))
    have u86 : slC σ75 = slC σ63 := congrArg (fun z => z.1.2) (e77.2.1.2.1 (by decide))
    refine k_aload_n rfl ?_
    refine k_lload rfl ?_
    refine k_putLW (c := 9) H76 r78 rfl fk274 (fun σ87 H88 e89 r90 f92 f93 l94 => ?_)
    have u95 : cpC σ87 = cpC σ75 := congrArg Prod.fst e89.2.1.1
    have u96 : spC σ87 = spC σ75 := congrArg Prod.snd e89.2.1.1
    have u97 : cnC σ87 = cnC σ75 := congrArg (fun z => z.1.1) (e89.2.1.2.1 (by decide))
    have u98 : slC σ87 = slC σ75 := congrArg (fun z => z.1.2) (e89.2.1.2.1 (by decide))
    have c99 := (f68 271 (by decide)).trans c55
    have c100 := (f80 271).trans c99
    have c101 := (f92 271).trans c100
    have F102 : IvC 271 (fIC σ87 p0 271) := by rw [c101]; exact ⟨by show (0 : Int) ≤ _; omega, by show _ ≤ (502 : Int); omega⟩
    have c103 := (f80 272).trans c67
    have c104 := (f92 272).trans c103
    have F105 : IvC 272 (fIC σ87 p0 272) := by rw [c104]; exact ⟨by show (0 : Int) ≤ _; omega, by show _ ≤ (22 : Int); omega⟩
    have c106 := (f93 273).trans c79
    have t108 := h_4_0.xt h_0_0 (by decide) e5
    have t109 := t108.xt r6 (by decide) e17
    have t110 := t109.xt r18 (by decide) e29
    have t111 := t110.xt r30 (by decide) e41
    have t112 := t111.xt r42 (by decide) e53
    have t113 := t112.xt r54 (by decide) e65
    have t114 := t113.xt r66 (by decide) e77
    have t115 := t114.xt r78 (by decide) e89
    have F107 : RfC σ87 p0 273 (fRC σ87 p0 273) := by rw [c106]; exact rfo273 (t115) q_1
    have c116 := (f9 275).trans (h_0_1 275).2
    have c117 := (f21 275).trans c116
    have c118 := (f33 275).trans c117
    have c119 := (f45 275).trans c118
    have c120 := (f57 275).trans c119
    have c121 := (f69 275).trans c120
    have c122 := (f81 275 (by decide)).trans c121
    have c123 := (f93 275).trans c122
    have F124 : RfC σ87 p0 275 (fRC σ87 p0 275) := by rw [c123]; exact (rfl : (rfC 275).1 = 1)
    have c125 := (f9 276).trans (h_0_1 276).2
    have c126 := (f21 276).trans c125
    have c127 := (f33 276).trans c126
    have c128 := (f45 276).trans c127
    have c129 := (f57 276).trans c128
    have c130 := (f69 276).trans c129
    have c131 := (f81 276 (by decide)).trans c130
    have c132 := (f93 276).trans c131
    have F133 : RfC σ87 p0 276 (fRC σ87 p0 276) := by rw [c132]; exact (rfl : (rfC 276).1 = 1)
    have c134 := (f9 277).trans (h_0_1 277).2
    have c135 := (f21 277).trans c134
    have c136 := (f33 277).trans c135
    have c137 := (f45 277).trans c136
    have c138 := (f57 277).trans c137
    have c139 := (f69 277).trans c138
    have c140 := (f81 277 (by decide)).trans c139
    have c141 := (f93 277).trans c140
    have F142 : RfC σ87 p0 277 (fRC σ87 p0 277) := by rw [c141]; exact (rfl : (rfC 277).1 = 1)
    have c143 := (f9 278).trans (h_0_1 278).2
    have c144 := (f21 278).trans c143
    have c145 := (f33 278).trans c144
    have c146 := (f45 278).trans c145
    have c147 := (f57 278).trans c146
    have c148 := (f69 278).trans c147
    have c149 := (f81 278 (by decide)).trans c148
    have c150 := (f93 278).trans c149
    have F151 : RfC σ87 p0 278 (fRC σ87 p0 278) := by rw [c150]; exact (rfl : (rfC 278).1 = 1)
    have c152 := (f9 279).trans (h_0_1 279).2
    have c153 := (f21 279).trans c152
    have c154 := (f33 279).trans c153
    have c155 := (f45 279).trans c154
    have c156 := (f57 279).trans c155
    have c157 := (f69 279).trans c156
    have c158 := (f81 279 (by decide)).trans c157
    have c159 := (f93 279).trans c158
    have F160 : RfC σ87 p0 279 (fRC σ87 p0 279) := by rw [c159]; exact (rfl : (rfC 279).1 = 1)
    have c161 := (f20 280).trans c7
    have c162 := (f32 280).trans c161
    have c163 := (f44 280 (by decide)).trans c162
    have c164 := (f56 280 (by decide)).trans c163
    have c165 := (f68 280 (by decide)).trans c164
    have c166 := (f80 280).trans c165
    have c167 := (f92 280).trans c166
    have F168 : IvC 280 (fIC σ87 p0 280) := by rw [c167]; exact ⟨by show (-1 : Int) ≤ _; omega, by show _ ≤ (502 : Int); omega⟩
    have c169 := (f9 281).trans (h_0_1 281).2
    have c170 := (f21 281).trans c169
    have c171 := (f33 281).trans c170
    have c172 := (f45 281).trans c171
    have c173 := (f57 281).trans c172
    have c174 := (f69 281).trans c173
    have c175 := (f81 281 (by decide)).trans c174
    have c176 := (f93 281).trans c175
    have F177 : RfC σ87 p0 281 (fRC σ87 p0 281) := by rw [c176]; exact (rfl : (rfC 281).1 = 1)
    have c178 := (f8 282 (by decide)).trans (h_0_1 282).1
    have c179 := (f20 282).trans c178
    have c180 := (f32 282).trans c179
    have c181 := (f44 282 (by decide)).trans c180
    have c182 := (f56 282 (by decide)).trans c181
    have c183 := (f68 282 (by decide)).trans c182
    have c184 := (f80 282).trans c183
    have c185 := (f92 282).trans c184
    have F186 : IvC 282 (fIC σ87 p0 282) := by rw [c185]; exact ⟨by show (0 : Int) ≤ _; decide, by show _ ≤ (1 : Int); decide⟩
    have c187 := (f8 283 (by decide)).trans (h_0_1 283).1
    have c188 := (f20 283).trans c187
    have c189 := (f32 283).trans c188
    have c190 := (f44 283 (by decide)).trans c189
    have c191 := (f56 283 (by decide)).trans c190
    have c192 := (f68 283 (by decide)).trans c191
    have c193 := (f80 283).trans c192
    have c194 := (f92 283).trans c193
    have F195 : IvC 283 (fIC σ87 p0 283) := by rw [c194]; exact ⟨by show (0 : Int) ≤ _; decide, by show _ ≤ (1 : Int); decide⟩
    have c196 := (f8 284 (by decide)).trans (h_0_1 284).1
    have c197 := (f20 284).trans c196
    have c198 := (f32 284).trans c197
    have c199 := (f44 284 (by decide)).trans c198
    have c200 := (f56 284 (by decide)).trans c199
    have c201 := (f68 284 (by decide)).trans c200
    have c202 := (f80 284).trans c201
    have c203 := (f92 284).trans c202
    have F204 : IvC 284 (fIC σ87 p0 284) := by rw [c203]; exact ⟨by show (0 : Int) ≤ _; decide, by show _ ≤ (1 : Int); decide⟩
    have X205 : XaC (rTC σ87 p0 9 (ghC σ87 p0)) p0 := XaC.of9 rT_tg ⟨(fun b hb => by have hb : fRC σ87 p0 275 = some b := hb; rw [c123] at hb; cases hb), (fun b hb => by have hb : fRC σ87 p0 276 = some b := hb; rw [c132] at hb; cases hb), (fun b hb => by have hb : fRC σ87 p0 277 = some b := hb; rw [c141] at hb; cases hb), (fun b hb => by have hb : fRC σ87 p0 278 = some b := hb; rw [c150] at hb; cases hb)⟩
    have c206 := (f56 270 (by decide)).trans c43
    have c207 := (f68 270 (by decide)).trans c206
    have c208 := (f80 270).trans c207
    have c209 := (f92 270).trans c208
    have H210 : HI0 (rTC σ87 p0 9 (ghC σ87 p0)) ∧ LbC (rTC σ87 p0 9 (ghC σ87 p0)) (some p0) := HIC.fin6 H88 r90 rfl (fn9 F102 F105 F107 F124 F133 F142 F151 F160 F168 F177 F186 F195 F204) X205
    have u211 : cnC (rTC σ87 p0 9 (ghC σ87 p0)) = cnC σ87 := rfl
    have u212 : slC (rTC σ87 p0 9 (ghC σ87 p0)) = slC σ87 := rfl
    refine k_returnW (r90.we (g := ghC σ87 p0)) ?_
    have X213 : ExT p0 [] σ0 σ3 := (ExC.rf).t.tr (e5.mo (by decide))
    have X214 : ExT p0 [] σ0 σ15 := X213.tr (e17.mo (by decide))
    have X215 : ExT p0 [] σ0 σ27 := X214.tr (e29.mo (by decide))
    have X216 : ExT p0 [] σ0 σ39 := X215.tr (e41.mo (by decide))
    have X217 : ExT p0 [] σ0 σ51 := X216.tr (e53.mo (by decide))
    have X218 : ExT p0 [] σ0 σ63 := X217.tr (e65.mo (by decide))
    have X219 : ExT p0 [] σ0 σ75 := X218.tr (e77.mo (by decide))
    have X220 : ExT p0 [] σ0 σ87 := X219.tr (e89.mo (by decide))
    have X221 : ExT p0 [] σ0 (rTC σ87 p0 9 (ghC σ87 p0)) := X220.tr ((ExT.rT : ExT p0 [] σ87 (rTC σ87 p0 9 (ghC σ87 p0))).mo (by decide))
    have g222 : GwC none σ0 σ3 := (GwC.rf : GwC none σ0 σ0).tr (e5.gw H0.1 h_0_0 r6.n0)
    have g223 : GwC none σ0 σ15 := g222.tr (e17.gw H4.1 r6 r18.n0)
    have g224 : GwC none σ0 σ27 := g223.tr (e29.gw H16.1 r18 r30.n0)
    have g225 : GwC none σ0 σ39 := g224.tr (e41.gw H28.1 r30 r42.n0)
    have g226 : GwC none σ0 σ51 := g225.tr (e53.gw H40.1 r42 r54.n0)
    have g227 : GwC none σ0 σ63 := g226.tr (e65.gw H52.1 r54 r66.n0)
    have g228 : GwC none σ0 σ75 := g227.tr (e77.gw H64.1 r66 r78.n0)
    have g229 : GwC none σ0 σ87 := g228.tr (e89.gw H76.1 r78 r90.n0)
    have g230 : GwC none σ0 (rTC σ87 p0 9 (ghC σ87 p0)) := g229.tr (ExT.gw H88.1 r90 (ExT.rT : ExT p0 [] σ87 (rTC σ87 p0 9 (ghC σ87 p0))) (by rw [rT_tg]; decide))
    exact ⟨rfl, H210, X221, ⟨r90.1, rT_tg, fun q => absurd q (by decide)⟩, ((((((((rT_gh.trans l94).trans l82).trans l70).trans l58).trans l46).trans l34).trans l22).trans l10), (by omega), (by omega), g230, (show fIC σ87 p0 270 = _ from c209), (show fIC σ87 p0 272 = _ from c104)⟩
theorem lg_X8_init6 : ∀ (As : List AvC) (σ : CsC), P_X8_init6 As σ → lgC As ≤ rX8_init.2.2.1 := by
  rintro As σ ⟨p0, p1, p2, p3, p4, p5, rfl, -⟩
  exact Nat.le_of_ble_eq_true rfl
theorem m_X8_init6 (l : Launch) : CMetC l 1 178 P_X8_init6 Q_X8_init6 :=
  CMetC.of KX8_init [] hX8_init (by decide) (by decide) okX8_init cc0C (lg_X8_init6) (b_X8_init6)
abbrev P_X7_begin6 : CpC := fun As σ => ∃ (p0 : Nat) (p1 : Int32) (p2 : Int32), As = [.inr (.inr (some p0)), .inl p1, .inl p2] ∧ HIC σ ∧ TyC σ p0 8 ∧ 0 ≤ p2.toInt ∧ p2.toInt ≤ 22 ∧ CdC σ p0 ∧ (fIC σ p0 242).toInt ≤ CtC σ p0 ∧ BgC σ p0 (2) (2) ∧ p1.toInt = 6
abbrev Q_X7_begin6 : CqC := fun As σ w τ => match As with
  | [.inr (.inr (some p0)), .inl p1, .inl p2] => ∃ r : Nat, w = some (.inr (.inr (some r))) ∧ (HI0 τ ∧ LbC τ (some r)) ∧ ExC [0, 1, 2, 270, 271, 272, 273, 280, 999] σ τ ∧ TyC τ r 9 ∧ RdC p0 none (2) (2) (2) σ τ ∧ (cnC σ ≤ r) ∧ (fIC τ r 270 = p1) ∧ (fIC τ r 272 = p2) ∧ (∀ s, ReC σ p0 s → ReC τ p0 ( s))
  | _ => False
set_option maxRecDepth 100000 in
set_option maxHeartbeats 4000000 in
theorem b_X7_begin6 : TbC KX7_begin [(178, P_X8_init6, Q_X8_init6), (236, P_add6, Q_add6)] P_X7_begin6 Q_X7_begin6 := by
  · rintro As σ0 ⟨p0, p1, p2, rfl, H0, h_0_0, h_2_0, h_2_1, rd_cd, rd_at, rd_bg, q_0⟩ hgr G hB hW
    change G 0 [(0, .inr (.inr (some p0))), (1, .inl p1), (2, .inl p2)] [] σ0
    obtain ⟨x1, e2, c3, h4, h5⟩ := cg242 H0.1 h_0_0
    obtain ⟨x6, e7, c8, h9, h10⟩ := cg243 H0.1 h_0_0
    have z11 := congrArg Int32.toInt c3
    have z12 := congrArg Int32.toInt c8
    refine hB _ _ _ _ (kgoC (is := KX7_begin_0) rfl ?_)
    have B13 : BgC σ0 p0 1 1 := rd_bg.st H0 h_0_0 (ExC.rf : ExC [0, 1, 2, 270, 271, 272, 273, 280, 999] σ0 σ0) (RdC.rf : RdC p0 none 0 0 0 σ0 σ0) (by decide) (by omega) (by omega) (by omega)
    obtain ⟨h14, h15⟩ := B13.new H0.1 h_0_0 (u := 1) (by omega) (by omega)
    have z16 := (RdC.rf : RdC p0 none 0 0 0 σ0 σ0).1.1
    refine k_new (c := 9) (g := 0) H0 (by decide) rfl (by omega) (by have hn : nfC 9 = 21 := rfl; omega) (fun a17 σ18 q19 H20 e21 r22 z23 l24 u25 u26 => ?_)
    rw [show nfC 9 = 21 from rfl] at u26
    have u27 : cpC σ18 = cpC σ0 := congrArg Prod.fst e21.2.1.1
    have u28 : spC σ18 = spC σ0 := congrArg Prod.snd e21.2.1.1
    refine k_dupR ?_
    refine k_iload_n rfl ?_
    refine k_aload_n rfl ?_
    have t29 := h_0_0.x e21
    have c30 := (h_0_0.mi e21 (by decide)).trans c3
    refine k_get kg242 t29 (congrArg (Sum.inl : Int32 → AvC) c30) ?_
    refine k_iload_n rfl ?_
    refine k_aload_n rfl ?_
    obtain ⟨o33, e31, c32, t34⟩ := cg246 H20.1 t29
    refine k_get kg246 t29 e31 ?_
    refine k_aload_n rfl ?_
    obtain ⟨y37, e35, c36⟩ := cg245 (σ := σ18) (a := p0)
    refine k_get kg245 t29 e35 ?_
    refine k_spec (P := P_X8_init6) (Q := Q_X8_init6) rfl rfl rfl rfl (Nat.le_of_ble_eq_true rfl) ⟨_, _, _, _, o33, _, rfl, H20, r22, z23, (by omega), (by omega), (by omega), (by omega), t34, (by omega), (by omega), (by omega), (fun b hb => by have z := t34 b hb; have z1 := z.1; have z2 := r22.ne z (by decide); omega)⟩ (fun w38 σ39 q40 => ?_)
    obtain ⟨rfl, H41, e42, t43, l44, u45, u46, g47, q49, q50⟩ := q40
    have l48 := l44.trans l24
    have c51 := (t29.mit r22 (by decide) e42 (by decide)).trans c30
    have c52 := (h_0_0.mi e21 (by decide)).trans c8
    have c53 := (t29.mit r22 (by decide) e42 (by decide)).trans c52
    have z54 := congrArg Int32.toInt c51
    have z55 := congrArg Int32.toInt c53
    refine k_st (st' := [.inr (.inr (some a17))]) rfl ?_
    refine k_astore_n (ls' := [(3, .inr (.inr (some a17))), (0, .inr (.inr (some p0))), (1, .inl p1), (2, .inl p2)]) rfl ?_
    refine k_aload_n rfl ?_
    have t56 := t29.xt r22 (by decide) e42
    obtain ⟨a59, e57, c58, t60⟩ := cg240 H41.1 t56
    refine k_get kg240 t56 e57 ?_
    obtain ⟨a63, e61, c62, t64, l65⟩ := cg214 H41.1 t60
    refine k_get kg214 t60 e61 ?_
    refine k_aload_n rfl ?_
    have R66 : RdC p0 none (1) (1) (1) σ0 σ18 := (RdC.rf : RdC p0 none 0 0 0 σ0 σ0).tr ⟨(e21.gwn H0.1 u25 u26 (by decide) (by rw [← q19]; exact r22.n0)), (e21.cou (u := 1) H0.1 h_0_0 (by decide) (by omega))⟩ (by omega) (by omega) (by omega) (by omega)
    have R67 : RdC p0 none (1) (1) (1) σ0 σ39 := R66.tr ⟨g47, (e42.co (u := 0) H20.1 t29 r22 (by decide) (by omega))⟩ (by omega) (by omega) (by omega) (by omega)
    have X68 : ExC [0, 1, 2, 270, 271, 272, 273, 280, 999] σ0 σ18 := ExC.rf.tr (e21.mo (by decide))
    have X69 : ExC [0, 1, 2, 270, 271, 272, 273, 280, 999] σ0 σ39 := (X68 : ExC [0, 1, 2, 270, 271, 272, 273, 280, 999] σ0 σ18).nt (Nat.le_of_eq q19.symm) (e42.mo (by decide))
    have X70 : ExC [0, 1, 2, 270, 271, 272, 273, 280, 999] σ0 σ39 := ExC.rf.tr X69
    have B71 : BgC σ39 p0 1 1 := rd_bg.st H0 h_0_0 X70 R67 (by decide) (by omega) (by omega) (by omega)
    obtain ⟨h72, h73⟩ := B71.new H41.1 t56 (u := 1) (by omega) (by omega)
    refine k_inv (P := P_add6) (Q := Q_add6) rfl rfl rfl rfl (Nat.le_of_ble_eq_true rfl) (t64.rc (by decide)) ⟨_, _, rfl, H41, t64, (by rw [l65]; exact ⟨t43, by decide, fun hz => absurd hz (by decide)⟩), (B71.sz H41.1 t56 (by omega) (by omega) c58 (by decide) c62), h72, (by omega), (fun hz => absurd (l65.symm.trans hz) (by decide))⟩ (fun w74 σ75 q76 => ?_)
    obtain ⟨x77, rfl, H78, e79, h81, h82, g80, q83, q84, q85, q86, q87⟩ := q76
    have c88 := (t56.mi e79 (by decide)).trans c51
    have c89 := (t56.mi e79 (by decide)).trans c53
    have z90 := congrArg Int32.toInt c88
    have z91 := congrArg Int32.toInt c89
    refine k_st (st' := [.inl x77]) rfl ?_
    refine k_popI ?_
    refine k_aload_n rfl ?_
    refine k_areturn ?_
    have X92 : ExC [0, 1, 2, 270, 271, 272, 273, 280, 999] σ0 σ75 := X70.tr (e79.mo (by decide))
    have t93 := t43.x e79
    have R94 : RdC p0 none (2) (2) (2) σ0 σ75 := R67.tr ⟨g80, (e79.cou2 (u := 1) H41.1 t56 (by decide) (by omega) q84)⟩ (by omega) (by omega) (by omega) (by omega)
    have c95 := (t43.mi e79 (by decide)).trans q49
    have c96 := (t43.mi e79 (by decide)).trans q50
    have S101 : ∀ s, ReC σ0 p0 s → ReC σ75 p0 ( s) := by
      intro s hs
      have y97 := hs.x H0.1 h_0_0 e21 (by decide)
      have f98 := y97.at_ c30
      have y99 := y97.xt H20.1 t29 r22 e42 (by decide)
      have y100 := y99.ad0 H41.1 t56 e79 q86 (by rw [l65]; decide) q87
      refine y100.eq ?_
      try unfold tkY
      repeat (split <;> try (exfalso; omega))
      try unfold dpY
      repeat (split <;> try (exfalso; omega))
      all_goals rfl
    exact ⟨_, rfl, H78, X92, t93, (R94.mo (by omega) (by omega) (by omega)), (by omega), c95, c96, S101⟩
theorem lg_X7_begin6 : ∀ (As : List AvC) (σ : CsC), P_X7_begin6 As σ → lgC As ≤ rX7_begin.2.2.1 := by
  rintro As σ ⟨p0, p1, p2, rfl, -⟩
  exact Nat.le_of_ble_eq_true rfl
theorem m_X7_begin6 (l : Launch) : CMetC l 11 142 P_X7_begin6 Q_X7_begin6 :=
  CMetC.of KX7_begin [(178, P_X8_init6, Q_X8_init6), (236, P_add6, Q_add6)] hX7_begin (by decide) (by decide) okX7_begin (cc1C (m_X8_init6 l) (by decide) (cc1C (m_add6 l) (by decide) cc0C)) (lg_X7_begin6) (b_X7_begin6)
