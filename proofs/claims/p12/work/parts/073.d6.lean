abbrev P_X1_init : CpC := fun As σ => ∃ (p0 : Nat) (p1 : Int32) (p2 : Int32) (p3 : Int32) (p4 : Int32), As = [.inr (.inr (some p0)), .inl p1, .inl p2, .inl p3, .inl p4] ∧ HIC σ ∧ RawC σ p0 2 ∧ ZrC σ p0 ∧ 0 ≤ p3.toInt ∧ p3.toInt ≤ 502 ∧ 0 ≤ p4.toInt ∧ cnC σ + 0 ≤ cpC σ ∧ slC σ + 0 ≤ spC σ
abbrev Q_X1_init : CqC := fun As σ w τ => match As with
  | [.inr (.inr (some p0)), .inl p1, .inl p2, .inl p3, .inl p4] => w = none ∧ HIC τ ∧ ExT p0 [] σ τ ∧ p0 < cnC τ ∧ tgC τ p0 = 2 ∧ ghC τ p0 = ghC σ p0 ∧ cnC τ = cnC σ + 0 ∧ slC τ = slC σ + 0 ∧ GwC none σ τ ∧ (fIC τ p0 60 = p1) ∧ (fRC τ p0 73 = none) ∧ (fIC τ p0 62 = p3) ∧ (fIC τ p0 63 = p4)
  | _ => False
set_option maxRecDepth 100000 in
set_option maxHeartbeats 4000000 in
theorem b_X1_init : TbC KX1_init [] P_X1_init Q_X1_init := by
  · rintro As σ0 ⟨p0, p1, p2, p3, p4, rfl, H0, h_0_0, h_0_1, h_3_0, h_3_1, h_4_0, rm_0, rm_1⟩ hgr G hB hW
    change G 0 [(0, .inr (.inr (some p0))), (1, .inl p1), (2, .inl p2), (3, .inl p3), (4, .inl p4)] [] σ0
    refine hB _ _ _ _ (kgoC (is := KX1_init_0) rfl ?_)
    refine k_aload_n rfl ?_
    refine k_obj (Nat.le_of_ble_eq_true rfl) ?_
    refine k_aload_n rfl ?_
    refine k_iconst (m := (-1)) rfl (fun x1 h2 => ?_)
    refine k_putIW (c := 2) H0 h_0_0 rfl (Or.inl fk67) (fun σ3 H4 e5 r6 c7 f8 f9 l10 => ?_)
    have u11 : cpC σ3 = cpC σ0 := congrArg Prod.fst e5.2.1.1
    have u12 : spC σ3 = spC σ0 := congrArg Prod.snd e5.2.1.1
    have u13 : cnC σ3 = cnC σ0 := congrArg (fun z => z.1.1) (e5.2.1.2.1 (by decide))
    have u14 : slC σ3 = slC σ0 := congrArg (fun z => z.1.2) (e5.2.1.2.1 (by decide))
    refine k_aload_n rfl ?_
    refine k_iconst (m := (-1)) rfl (fun x15 h16 => ?_)
    refine k_putIW (c := 2) H4 r6 rfl (Or.inl fk68) (fun σ17 H18 e19 r20 c21 f22 f23 l24 => ?_)
    have u25 : cpC σ17 = cpC σ3 := congrArg Prod.fst e19.2.1.1
    have u26 : spC σ17 = spC σ3 := congrArg Prod.snd e19.2.1.1
    have u27 : cnC σ17 = cnC σ3 := congrArg (fun z => z.1.1) (e19.2.1.2.1 (by decide))
    have u28 : slC σ17 = slC σ3 := congrArg (fun z => z.1.2) (e19.2.1.2.1 (by decide))
    refine k_aload_n rfl ?_
    refine k_iload_n rfl ?_
    refine k_putIW (c := 2) H18 r20 rfl (Or.inl fk60) (fun σ29 H30 e31 r32 c33 f34 f35 l36 => ?_)
    have u37 : cpC σ29 = cpC σ17 := congrArg Prod.fst e31.2.1.1
    have u38 : spC σ29 = spC σ17 := congrArg Prod.snd e31.2.1.1
    have u39 : cnC σ29 = cnC σ17 := congrArg (fun z => z.1.1) (e31.2.1.2.1 (by decide))
    have u40 : slC σ29 = slC σ17 := congrArg (fun z => z.1.2) (e31.2.1.2.1 (by decide))
    refine k_aload_n rfl ?_
    refine k_iload_n rfl ?_
    refine k_putIW (c := 2) H30 r32 rfl (Or.inl fk61) (fun σ41 H42 e43 r44 c45 f46 f47 l48 => ?_)
    have u49 : cpC σ41 = cpC σ29 := congrArg Prod.fst e43.2.1.1
    have u50 : spC σ41 = spC σ29 := congrArg Prod.snd e43.2.1.1
    have u51 : cnC σ41 = cnC σ29 := congrArg (fun z => z.1.1) (e43.2.1.2.1 (by decide))
    have u52 : slC σ41 = slC σ29 := congrArg (fun z => z.1.2) (e43.2.1.2.1 (by decide))
    refine k_aload_n rfl ?_
    refine k_iload_n rfl ?_
    refine k_putIW (c := 2) H42 r44 rfl (Or.inl fk62) (fun σ53 H54 e55 r56 c57 f58 f59 l60 => ?_)
    have u61 : cpC σ53 = cpC σ41 := congrArg Prod.fst e55.2.1.1
    have u62 : spC σ53 = spC σ41 := congrArg Prod.snd e55.2.1.1
    have u63 : cnC σ53 = cnC σ41 := congrArg (fun z => z.1.1) (e55.2.1.2.1 (by decide))
    have u64 : slC σ53 = slC σ41 := congrArg (fun z => z.1.2) (e55.2.1.2.1 (by decide))
    refine k_aload_n rfl ?_
    refine k_iload rfl ?_
    refine k_putIW (c := 2) H54 r56 rfl (Or.inl fk63) (fun σ65 H66 e67 r68 c69 f70 f71 l72 => ?_)
    have u73 : cpC σ65 = cpC σ53 := congrArg Prod.fst e67.2.1.1
    have u74 : spC σ65 = spC σ53 := congrArg Prod.snd e67.2.1.1
    have u75 : cnC σ65 = cnC σ53 := congrArg (fun z => z.1.1) (e67.2.1.2.1 (by decide))
    have u76 : slC σ65 = slC σ53 := congrArg (fun z => z.1.2) (e67.2.1.2.1 (by decide))
    refine k_aload_n rfl ?_
    refine k_iload_n rfl ?_
    refine k_putIW (c := 2) H66 r68 rfl (Or.inl fk66) (fun σ77 H78 e79 r80 c81 f82 f83 l84 => ?_)
    have u85 : cpC σ77 = cpC σ65 := congrArg Prod.fst e79.2.1.1
    have u86 : spC σ77 = spC σ65 := congrArg Prod.snd e79.2.1.1
    have u87 : cnC σ77 = cnC σ65 := congrArg (fun z => z.1.1) (e79.2.1.2.1 (by decide))
    have u88 : slC σ77 = slC σ65 := congrArg (fun z => z.1.2) (e79.2.1.2.1 (by decide))
    have c89 := (f70 62 (by decide)).trans c57
    have c90 := (f82 62 (by decide)).trans c89
    have F91 : IvC 62 (fIC σ77 p0 62) := by rw [c90]; exact ⟨by show (0 : Int) ≤ _; omega, by show _ ≤ (502 : Int); omega⟩
    have c92 := (f82 63 (by decide)).trans c69
    have z94 := tiC p4
    have F93 : IvC 63 (fIC σ77 p0 63) := by rw [c92]; exact ⟨by show (0 : Int) ≤ _; omega, by show _ ≤ (2147483647 : Int); omega⟩
    have F95 : IvC 66 (fIC σ77 p0 66) := by rw [c81]; exact ⟨by show (0 : Int) ≤ _; omega, by show _ ≤ (502 : Int); omega⟩
    have c96 := (f8 70 (by decide)).trans (h_0_1 70).1
    have c97 := (f22 70 (by decide)).trans c96
    have c98 := (f34 70 (by decide)).trans c97
    have c99 := (f46 70 (by decide)).trans c98
    have c100 := (f58 70 (by decide)).trans c99
    have c101 := (f70 70 (by decide)).trans c100
    have c102 := (f82 70 (by decide)).trans c101
    have F103 : IvC 70 (fIC σ77 p0 70) := by rw [c102]; exact ⟨by show (0 : Int) ≤ _; decide, by show _ ≤ (1 : Int); decide⟩
    have c104 := (f9 72).trans (h_0_1 72).2
    have c105 := (f23 72).trans c104
    have c106 := (f35 72).trans c105
    have c107 := (f47 72).trans c106
    have c108 := (f59 72).trans c107
    have c109 := (f71 72).trans c108
    have c110 := (f83 72).trans c109
    have F111 : RfC σ77 p0 72 (fRC σ77 p0 72) := by rw [c110]; exact (rfl : (rfC 72).1 = 1)
    have c112 := (f9 73).trans (h_0_1 73).2
    have c113 := (f23 73).trans c112
    have c114 := (f35 73).trans c113
    have c115 := (f47 73).trans c114
    have c116 := (f59 73).trans c115
    have c117 := (f71 73).trans c116
    have c118 := (f83 73).trans c117
    have F119 : RfC σ77 p0 73 (fRC σ77 p0 73) := by rw [c118]; exact (rfl : (rfC 73).1 = 1)
    have c120 := (f9 74).trans (h_0_1 74).2
    have c121 := (f23 74).trans c120
    have c122 := (f35 74).trans c121
    have c123 := (f47 74).trans c122
    have c124 := (f59 74).trans c123
    have c125 := (f71 74).trans c124
    have c126 := (f83 74).trans c125
    have F127 : RfC σ77 p0 74 (fRC σ77 p0 74) := by rw [c126]; exact (rfl : (rfC 74).1 = 1)
    have c128 := (f9 76).trans (h_0_1 76).2
    have c129 := (f23 76).trans c128
    have c130 := (f35 76).trans c129
    have c131 := (f47 76).trans c130
    have c132 := (f59 76).trans c131
    have c133 := (f71 76).trans c132
    have c134 := (f83 76).trans c133
    have F135 : RfC σ77 p0 76 (fRC σ77 p0 76) := by rw [c134]; exact (rfl : (rfC 76).1 = 1)
    have c136 := (f8 77 (by decide)).trans (h_0_1 77).1
    have c137 := (f22 77 (by decide)).trans c136
    have c138 := (f34 77 (by decide)).trans c137
    have c139 := (f46 77 (by decide)).trans c138
    have c140 := (f58 77 (by decide)).trans c139
    have c141 := (f70 77 (by decide)).trans c140
    have c142 := (f82 77 (by decide)).trans c141
    have F143 : IvC 77 (fIC σ77 p0 77) := by rw [c142]; exact ⟨by show (0 : Int) ≤ _; decide, by show _ ≤ (999 : Int); decide⟩
    have c145 := (f9 75).trans (h_0_1 75).2
    have c146 := (f23 75).trans c145
    have c147 := (f35 75).trans c146
    have c148 := (f47 75).trans c147
    have c149 := (f59 75).trans c148
    have c150 := (f71 75).trans c149
    have c151 := (f83 75).trans c150
    have X144 : XaC (rTC σ77 p0 2 (ghC σ77 p0)) p0 := XaC.of2 rT_tg (fun b hb => by have hb : fRC σ77 p0 75 = some b := hb; rw [c151] at hb; cases hb)
    have H152 : HIC (rTC σ77 p0 2 (ghC σ77 p0)) := HIC.fin H78 r80 rfl (fn2 F91 F93 F95 F103 F111 F119 F127 F135 F143) X144 (fun z => absurd z (by decide))
    have u153 : cnC (rTC σ77 p0 2 (ghC σ77 p0)) = cnC σ77 := rfl
    have u154 : slC (rTC σ77 p0 2 (ghC σ77 p0)) = slC σ77 := rfl
    refine k_returnW (r80.we (g := ghC σ77 p0)) ?_
    have X155 : ExT p0 [] σ0 σ3 := (ExC.rf).t.tr (e5.mo (by decide))
    have X156 : ExT p0 [] σ0 σ17 := X155.tr (e19.mo (by decide))
    have X157 : ExT p0 [] σ0 σ29 := X156.tr (e31.mo (by decide))
    have X158 : ExT p0 [] σ0 σ41 := X157.tr (e43.mo (by decide))
    have X159 : ExT p0 [] σ0 σ53 := X158.tr (e55.mo (by decide))
    have X160 : ExT p0 [] σ0 σ65 := X159.tr (e67.mo (by decide))
    have X161 : ExT p0 [] σ0 σ77 := X160.tr (e79.mo (by decide))
    have X162 : ExT p0 [] σ0 (rTC σ77 p0 2 (ghC σ77 p0)) := X161.tr ((ExT.rT : ExT p0 [] σ77 (rTC σ77 p0 2 (ghC σ77 p0))).mo (by decide))
    have g163 : GwC none σ0 σ3 := (GwC.rf : GwC none σ0 σ0).tr (e5.gw H0.1 h_0_0 r6.n0)
    have g164 : GwC none σ0 σ17 := g163.tr (e19.gw H4.1 r6 r20.n0)
    have g165 : GwC none σ0 σ29 := g164.tr (e31.gw H18.1 r20 r32.n0)
    have g166 : GwC none σ0 σ41 := g165.tr (e43.gw H30.1 r32 r44.n0)
    have g167 : GwC none σ0 σ53 := g166.tr (e55.gw H42.1 r44 r56.n0)
    have g168 : GwC none σ0 σ65 := g167.tr (e67.gw H54.1 r56 r68.n0)
    have g169 : GwC none σ0 σ77 := g168.tr (e79.gw H66.1 r68 r80.n0)
    have g170 : GwC none σ0 (rTC σ77 p0 2 (ghC σ77 p0)) := g169.tr (ExT.gw H78.1 r80 (ExT.rT : ExT p0 [] σ77 (rTC σ77 p0 2 (ghC σ77 p0))) (by rw [rT_tg]; decide))
    have c171 := (f46 60 (by decide)).trans c33
    have c172 := (f58 60 (by decide)).trans c171
    have c173 := (f70 60 (by decide)).trans c172
    have c174 := (f82 60 (by decide)).trans c173
    exact ⟨rfl, H152, X162, r80.1, rT_tg, (((((((rT_gh.trans l84).trans l72).trans l60).trans l48).trans l36).trans l24).trans l10), (by omega), (by omega), g170, (show fIC σ77 p0 60 = _ from c174), (show fRC σ77 p0 73 = _ from c118), (show fIC σ77 p0 62 = _ from c90), (show fIC σ77 p0 63 = _ from c92)⟩
theorem lg_X1_init : ∀ (As : List AvC) (σ : CsC), P_X1_init As σ → lgC As ≤ rX1_init.2.2.1 := by
  rintro As σ ⟨p0, p1, p2, p3, p4, rfl, -⟩
  exact Nat.le_of_ble_eq_true rfl
theorem m_X1_init (l : Launch) : CMetC l 1 17 P_X1_init Q_X1_init :=
  CMetC.of KX1_init [] hX1_init (by decide) (by decide) okX1_init cc0C (lg_X1_init) (b_X1_init)

abbrev P_X8_init : CpC := fun As σ => ∃ (p0 : Nat) (p1 : Int32) (p2 : Int32) (p3 : Int32) (p4 : Option Nat) (p5 : Int64), As = [.inr (.inr (some p0)), .inl p1, .inl p2, .inl p3, .inr (.inr p4), .inr (.inl p5)] ∧ HIC σ ∧ RawC σ p0 9 ∧ ZrC σ p0 ∧ 0 ≤ p2.toInt ∧ p2.toInt ≤ 502 ∧ 0 ≤ p3.toInt ∧ p3.toInt ≤ 22 ∧ OtC σ p4 9 ∧ cnC σ + 0 ≤ cpC σ ∧ slC σ + 0 ≤ spC σ ∧ ¬ p1.toInt = 6 ∧ (∀ b, p4 = some b → b < p0)
abbrev Q_X8_init : CqC := fun As σ w τ => match As with
  | [.inr (.inr (some p0)), .inl p1, .inl p2, .inl p3, .inr (.inr p4), .inr (.inl p5)] => w = none ∧ HIC τ ∧ ExT p0 [] σ τ ∧ TyC τ p0 9 ∧ ghC τ p0 = ghC σ p0 ∧ cnC τ = cnC σ + 0 ∧ slC τ = slC σ + 0 ∧ GwC none σ τ ∧ (fIC τ p0 270 = p1) ∧ (fIC τ p0 272 = p3)
  | _ => False
set_option maxRecDepth 100000 in
set_option maxHeartbeats 4000000 in
theorem b_X8_init : TbC KX8_init [] P_X8_init Q_X8_init := by
  · rintro As σ0 ⟨p0, p1, p2, p3, p4, p5, rfl, H0, h_0_0, h_0_1, h_2_0, h_2_1, h_3_0, h_3_1, h_4_0, rm_0, rm_1, q_0, q_1⟩ hgr G hB hW
    change G 0 [(0, .inr (.inr (some p0))), (1, .inl p1), (2, .inl p2), (3, .inl p3), (4, .inr (.inr p4)), (5, .inr (.inl p5))] [] σ0
    refine hB _ _ _ _ (kgoC (is := KX8_init_0) rfl ?_)
    refine k_aload_n rfl ?_
    refine k_obj (Nat.le_of_ble_eq_true rfl) ?_
    refine k_aload_n rfl ?_
    refine k_iconst (m := (-1)) rfl (fun x1 h2 => ?_)
    refine k_putIW (c := 9) H0 h_0_0 rfl (Or.inl fk280) (fun σ3 H4 e5 r6 c7 f8 f9 l10 => ?_)
    have u11 : cpC σ3 = cpC σ0 := congrArg Prod.fst e5.2.1.1
    have u12 : spC σ3 = spC σ0 := congrArg Prod.snd e5.2.1.1
    have u13 : cnC σ3 = cnC σ0 := congrArg (fun z => z.1.1) (e5.2.1.2.1 (by decide))
    have u14 : slC σ3 = slC σ0 := congrArg (fun z => z.1.2) (e5.2.1.2.1 (by decide))
    refine k_aload_n rfl ?_
    refine k_ldc2_w ?_
    refine k_putLW (c := 9) H4 r6 rfl fk287 (fun σ15 H16 e17 r18 f20 f21 l22 => ?_)
    have u23 : cpC σ15 = cpC σ3 := congrArg Prod.fst e17.2.1.1
    have u24 : spC σ15 = spC σ3 := congrArg Prod.snd e17.2.1.1
    have u25 : cnC σ15 = cnC σ3 := congrArg (fun z => z.1.1) (e17.2.1.2.1 (by decide))
    have u26 : slC σ15 = slC σ3 := congrArg (fun z => z.1.2) (e17.2.1.2.1 (by decide))
    refine k_aload_n rfl ?_
    refine k_ldc2_w ?_
    refine k_putLW (c := 9) H16 r18 rfl fk288 (fun σ27 H28 e29 r30 f32 f33 l34 => ?_)
    have u35 : cpC σ27 = cpC σ15 := congrArg Prod.fst e29.2.1.1
    have u36 : spC σ27 = spC σ15 := congrArg Prod.snd e29.2.1.1
    have u37 : cnC σ27 = cnC σ15 := congrArg (fun z => z.1.1) (e29.2.1.2.1 (by decide))
    have u38 : slC σ27 = slC σ15 := congrArg (fun z => z.1.2) (e29.2.1.2.1 (by decide))
    refine k_aload_n rfl ?_
    refine k_iload_n rfl ?_
    refine k_putIW (c := 9) H28 r30 rfl (Or.inl fk270) (fun σ39 H40 e41 r42 c43 f44 f45 l46 => ?_)
    have u47 : cpC σ39 = cpC σ27 := congrArg Prod.fst e41.2.1.1
    have u48 : spC σ39 = spC σ27 := congrArg Prod.snd e41.2.1.1
    have u49 : cnC σ39 = cnC σ27 := congrArg (fun z => z.1.1) (e41.2.1.2.1 (by decide))
    have u50 : slC σ39 = slC σ27 := congrArg (fun z => z.1.2) (e41.2.1.2.1 (by decide))
    refine k_aload_n rfl ?_
    refine k_iload_n rfl ?_
    refine k_putIW (c := 9) H40 r42 rfl (Or.inl fk271) (fun σ51 H52 e53 r54 c55 f56 f57 l58 => ?_)
    have u59 : cpC σ51 = cpC σ39 := congrArg Prod.fst e53.2.1.1
    have u60 : spC σ51 = spC σ39 := congrArg Prod.snd e53.2.1.1
    have u61 : cnC σ51 = cnC σ39 := congrArg (fun z => z.1.1) (e53.2.1.2.1 (by decide))
    have u62 : slC σ51 = slC σ39 := congrArg (fun z => z.1.2) (e53.2.1.2.1 (by decide))
    refine k_aload_n rfl ?_
    refine k_iload_n rfl ?_
    refine k_putIW (c := 9) H52 r54 rfl (Or.inl fk272) (fun σ63 H64 e65 r66 c67 f68 f69 l70 => ?_)
    have u71 : cpC σ63 = cpC σ51 := congrArg Prod.fst e65.2.1.1
    have u72 : spC σ63 = spC σ51 := congrArg Prod.snd e65.2.1.1
    have u73 : cnC σ63 = cnC σ51 := congrArg (fun z => z.1.1) (e65.2.1.2.1 (by decide))
    have u74 : slC σ63 = slC σ51 := congrArg (fun z => z.1.2) (e65.2.1.2.1 (by decide))
    refine k_aload_n rfl ?_
    refine k_aload rfl ?_
    refine k_putRW (c := 9) H64 r66 rfl fk273 (fun σ75 H76 e77 r78 c79 f80 f81 l82 => ?_)
    have u83 : cpC σ75 = cpC σ63 := congrArg Prod.fst e77.2.1.1
    have u84 : spC σ75 = spC σ63 := congrArg Prod.snd e77.2.1.1
    have u85 : cnC σ75 = cnC σ63 := congrArg (fun z => z.1.1) (e77.2.1.2.1 (by decide))
    have u86 : slC σ75 = slC σ63 := congrArg (fun z => z.1.2) (e77.2.1.2.1 (by decide))
    refine k_aload_n rfl ?_
    refine k_lload rfl ?_
    refine k_putLW (c := 9) H76 r78 rfl fk274 (fun σ87 H88 e89 r90 f92 f93 l94 => ?_)
    have u95 : cpC σ87 = cpC σ75 := congrArg Prod.fst e89.2.1.1
    have u96 : spC σ87 = spC σ75 := congrArg Prod.snd e89.2.1.1
    have u97 : cnC σ87 = cnC σ75 := congrArg (fun z => z.1.1) (e89.2.1.2.1 (by decide))
    have u98 : slC σ87 = slC σ75 := congrArg (fun z => z.1.2) (e89.2.1.2.1 (by decide))
    have c99 := (f68 271 (by decide)).trans c55
    have c100 := (f80 271).trans c99
    have c101 := (f92 271).trans c100
    have F102 : IvC 271 (fIC σ87 p0 271) := by rw [c101]; exact ⟨by show (0 : Int) ≤ _; omega, by show _ ≤ (502 : Int); omega⟩
    have c103 := (f80 272).trans c67
    have c104 := (f92 272).trans c103
    have F105 : IvC 272 (fIC σ87 p0 272) := by rw [c104]; exact ⟨by show (0 : Int) ≤ _; omega, by show _ ≤ (22 : Int); omega⟩
    have c106 := (f93 273).trans c79
    have t108 := h_4_0.xt h_0_0 (by decide) e5
    have t109 := t108.xt r6 (by decide) e17
    have t110 := t109.xt r18 (by decide) e29
    have t111 := t110.xt r30 (by decide) e41
    have t112 := t111.xt r42 (by decide) e53
    have t113 := t112.xt r54 (by decide) e65
    have t114 := t113.xt r66 (by decide) e77
    have t115 := t114.xt r78 (by decide) e89
    have F107 : RfC σ87 p0 273 (fRC σ87 p0 273) := by rw [c106]; exact rfo273 (t115) q_1
    have c116 := (f9 275).trans (h_0_1 275).2
    have c117 := (f21 275).trans c116
    have c118 := (f33 275).trans c117
    have c119 := (f45 275).trans c118
    have c120 := (f57 275).trans c119
    have c121 := (f69 275).trans c120
    have c122 := (f81 275 (by decide)).trans c121
    have c123 := (f93 275).trans c122
    have F124 : RfC σ87 p0 275 (fRC σ87 p0 275) := by rw [c123]; exact (rfl : (rfC 275).1 = 1)
    have c125 := (f9 276).trans (h_0_1 276).2
    have c126 := (f21 276).trans c125
    have c127 := (f33 276).trans c126
    have c128 := (f45 276).trans c127
    have c129 := (f57 276).trans c128
    have c130 := (f69 276).trans c129
    have c131 := (f81 276 (by decide)).trans c130
    have c132 := (f93 276).trans c131
    have F133 : RfC σ87 p0 276 (fRC σ87 p0 276) := by rw [c132]; exact (rfl : (rfC 276).1 = 1)
    have c134 := (f9 277).trans (h_0_1 277).2
    have c135 := (f21 277).trans c134
    have c136 := (f33 277).trans c135
    have c137 := (f45 277).trans c136
    have c138 := (f57 277).trans c137
    have c139 := (f69 277).trans c138
    have c140 := (f81 277 (by decide)).trans c139
    have c141 := (f93 277).trans c140
    have F142 : RfC σ87 p0 277 (fRC σ87 p0 277) := by rw [c141]; exact (rfl : (rfC 277).1 = 1)
    have c143 := (f9 278).trans (h_0_1 278).2
    have c144 := (f21 278).trans c143
    have c145 := (f33 278).trans c144
    have c146 := (f45 278).trans c145
    have c147 := (f57 278).trans c146
    have c148 := (f69 278).trans c147
    have c149 := (f81 278 (by decide)).trans c148
    have c150 := (f93 278).trans c149
    have F151 : RfC σ87 p0 278 (fRC σ87 p0 278) := by rw [c150]; exact (rfl : (rfC 278).1 = 1)
    have c152 := (f9 279).trans (h_0_1 279).2
    have c153 := (f21 279).trans c152
    have c154 := (f33 279).trans c153
    have c155 := (f45 279).trans c154
    have c156 := (f57 279).trans c155
    have c157 := (f69 279).trans c156
    have c158 := (f81 279 (by decide)).trans c157
    have c159 := (f93 279).trans c158
    have F160 : RfC σ87 p0 279 (fRC σ87 p0 279) := by rw [c159]; exact (rfl : (rfC 279).1 = 1)
    have c161 := (f20 280).trans c7
    have c162 := (f32 280).trans c161
    have c163 := (f44 280 (by decide)).trans c162
    have c164 := (f56 280 (by decide)).trans c163
    have c165 := (f68 280 (by decide)).trans c164
    have c166 := (f80 280).trans c165
    have c167 := (f92 280).trans c166
    have F168 : IvC 280 (fIC σ87 p0 280) := by rw [c167]; exact ⟨by show (-1 : Int) ≤ _; omega, by show _ ≤ (502 : Int); omega⟩
    have c169 := (f9 281).trans (h_0_1 281).2
    have c170 := (f21 281).trans c169
    have c171 := (f33 281).trans c170
    have c172 := (f45 281).trans c171
    have c173 := (f57 281).trans c172
    have c174 := (f69 281).trans c173
    have c175 := (f81 281 (by decide)).trans c174
    have c176 := (f93 281).trans c175
    have F177 : RfC σ87 p0 281 (fRC σ87 p0 281) := by rw [c176]; exact (rfl : (rfC 281).1 = 1)
    have c178 := (f8 282 (by decide)).trans (h_0_1 282).1
    have c179 := (f20 282).trans c178
    have c180 := (f32 282).trans c179
    have c181 := (f44 282 (by decide)).trans c180
    have c182 := (f56 282 (by decide)).trans c181
    have c183 := (f68 282 (by decide)).trans c182
    have c184 := (f80 282).trans c183
    have c185 := (f92 282).trans c184
    have F186 : IvC 282 (fIC σ87 p0 282) := by rw [c185]; exact ⟨by show (0 : Int) ≤ _; decide, by show _ ≤ (1 : Int); decide⟩
    have c187 := (f8 283 (by decide)).trans (h_0_1 283).1
    have c188 := (f20 283).trans c187
    have c189 := (f32 283).trans c188
    have c190 := (f44 283 (by decide)).trans c189
    have c191 := (f56 283 (by decide)).trans c190
    have c192 := (f68 283 (by decide)).trans c191
    have c193 := (f80 283).trans c192
    have c194 := (f92 283).trans c193
    have F195 : IvC 283 (fIC σ87 p0 283) := by rw [c194]; exact ⟨by show (0 : Int) ≤ _; decide, by show _ ≤ (1 : Int); decide⟩
    have c196 := (f8 284 (by decide)).trans (h_0_1 284).1
    have c197 := (f20 284).trans c196
    have c198 := (f32 284).trans c197
    have c199 := (f44 284 (by decide)).trans c198
    have c200 := (f56 284 (by decide)).trans c199
    have c201 := (f68 284 (by decide)).trans c200
    have c202 := (f80 284).trans c201
    have c203 := (f92 284).trans c202
    have F204 : IvC 284 (fIC σ87 p0 284) := by rw [c203]; exact ⟨by show (0 : Int) ≤ _; decide, by show _ ≤ (1 : Int); decide⟩
    have X205 : XaC (rTC σ87 p0 9 (ghC σ87 p0)) p0 := XaC.of9 rT_tg ⟨(fun b hb => by have hb : fRC σ87 p0 275 = some b := hb; rw [c123] at hb; cases hb), (fun b hb => by have hb : fRC σ87 p0 276 = some b := hb; rw [c132] at hb; cases hb), (fun b hb => by have hb : fRC σ87 p0 277 = some b := hb; rw [c141] at hb; cases hb), (fun b hb => by have hb : fRC σ87 p0 278 = some b := hb; rw [c150] at hb; cases hb)⟩
    have c206 := (f56 270 (by decide)).trans c43
    have c207 := (f68 270 (by decide)).trans c206
    have c208 := (f80 270).trans c207
    have c209 := (f92 270).trans c208
    have H210 : HIC (rTC σ87 p0 9 (ghC σ87 p0)) := HIC.fin H88 r90 rfl (fn9 F102 F105 F107 F124 F133 F142 F151 F160 F168 F177 F186 F195 F204) X205 (fun _ z => absurd z (by rw [c209]; omega))
    have u211 : cnC (rTC σ87 p0 9 (ghC σ87 p0)) = cnC σ87 := rfl
    have u212 : slC (rTC σ87 p0 9 (ghC σ87 p0)) = slC σ87 := rfl
    refine k_returnW (r90.we (g := ghC σ87 p0)) ?_
    have X213 : ExT p0 [] σ0 σ3 := (ExC.rf).t.tr (e5.mo (by decide))
    have X214 : ExT p0 [] σ0 σ15 := X213.tr (e17.mo (by decide))
    have X215 : ExT p0 [] σ0 σ27 := X214.tr (e29.mo (by decide))
    have X216 : ExT p0 [] σ0 σ39 := X215.tr (e41.mo (by decide))
    have X217 : ExT p0 [] σ0 σ51 := X216.tr (e53.mo (by decide))
    have X218 : ExT p0 [] σ0 σ63 := X217.tr (e65.mo (by decide))
    have X219 : ExT p0 [] σ0 σ75 := X218.tr (e77.mo (by decide))
    have X220 : ExT p0 [] σ0 σ87 := X219.tr (e89.mo (by decide))
    have X221 : ExT p0 [] σ0 (rTC σ87 p0 9 (ghC σ87 p0)) := X220.tr ((ExT.rT : ExT p0 [] σ87 (rTC σ87 p0 9 (ghC σ87 p0))).mo (by decide))
    have g222 : GwC none σ0 σ3 := (GwC.rf : GwC none σ0 σ0).tr (e5.gw H0.1 h_0_0 r6.n0)
    have g223 : GwC none σ0 σ15 := g222.tr (e17.gw H4.1 r6 r18.n0)
    have g224 : GwC none σ0 σ27 := g223.tr (e29.gw H16.1 r18 r30.n0)
    have g225 : GwC none σ0 σ39 := g224.tr (e41.gw H28.1 r30 r42.n0)
    have g226 : GwC none σ0 σ51 := g225.tr (e53.gw H40.1 r42 r54.n0)
    have g227 : GwC none σ0 σ63 := g226.tr (e65.gw H52.1 r54 r66.n0)
    have g228 : GwC none σ0 σ75 := g227.tr (e77.gw H64.1 r66 r78.n0)
    have g229 : GwC none σ0 σ87 := g228.tr (e89.gw H76.1 r78 r90.n0)
    have g230 : GwC none σ0 (rTC σ87 p0 9 (ghC σ87 p0)) := g229.tr (ExT.gw H88.1 r90 (ExT.rT : ExT p0 [] σ87 (rTC σ87 p0 9 (ghC σ87 p0))) (by rw [rT_tg]; decide))
    exact ⟨rfl, H210, X221, ⟨r90.1, rT_tg, fun q => absurd q (by decide)⟩, ((((((((rT_gh.trans l94).trans l82).trans l70).trans l58).trans l46).trans l34).trans l22).trans l10), (by omega), (by omega), g230, (show fIC σ87 p0 270 = _ from c209), (show fIC σ87 p0 272 = _ from c104)⟩
theorem lg_X8_init : ∀ (As : List AvC) (σ : CsC), P_X8_init As σ → lgC As ≤ rX8_init.2.2.1 := by
  rintro As σ ⟨p0, p1, p2, p3, p4, p5, rfl, -⟩
  exact Nat.le_of_ble_eq_true rfl
theorem m_X8_init (l : Launch) : CMetC l 1 178 P_X8_init Q_X8_init :=
  CMetC.of KX8_init [] hX8_init (by decide) (by decide) okX8_init cc0C (lg_X8_init) (b_X8_init)

abbrev P_X10_init : CpC := fun As σ => ∃ (p0 : Nat) (p1 : Int32) (p2 : Int32) (p3 : Int32) (p4 : Int32), As = [.inr (.inr (some p0)), .inl p1, .inl p2, .inl p3, .inl p4] ∧ HIC σ ∧ RawC σ p0 11 ∧ ZrC σ p0 ∧ 0 ≤ p1.toInt ∧ p1.toInt ≤ 502 ∧ 0 ≤ p3.toInt ∧ p3.toInt ≤ 1 ∧ cnC σ + 0 ≤ cpC σ ∧ slC σ + 0 ≤ spC σ
abbrev Q_X10_init : CqC := fun As σ w τ => match As with
  | [.inr (.inr (some p0)), .inl p1, .inl p2, .inl p3, .inl p4] => w = none ∧ HIC τ ∧ ExT p0 [] σ τ ∧ TyC τ p0 11 ∧ ghC τ p0 = ghC σ p0 ∧ cnC τ = cnC σ + 0 ∧ slC τ = slC σ + 0 ∧ GwC none σ τ ∧ (fIC τ p0 330 = p1) ∧ (fIC τ p0 331 = p2) ∧ (fIC τ p0 332 = p3) ∧ (fIC τ p0 333 = p4)
  | _ => False
set_option maxRecDepth 100000 in
set_option maxHeartbeats 4000000 in
theorem b_X10_init : TbC KX10_init [] P_X10_init Q_X10_init := by
  · rintro As σ0 ⟨p0, p1, p2, p3, p4, rfl, H0, h_0_0, h_0_1, h_1_0, h_1_1, h_3_0, h_3_1, rm_0, rm_1⟩ hgr G hB hW
    change G 0 [(0, .inr (.inr (some p0))), (1, .inl p1), (2, .inl p2), (3, .inl p3), (4, .inl p4)] [] σ0
    refine hB _ _ _ _ (kgoC (is := KX10_init_0) rfl ?_)
    refine k_aload_n rfl ?_
    refine k_obj (Nat.le_of_ble_eq_true rfl) ?_
    refine k_aload_n rfl ?_
    refine k_iload_n rfl ?_
    refine k_putIW (c := 11) H0 h_0_0 rfl (Or.inl fk330) (fun σ1 H2 e3 r4 c5 f6 f7 l8 => ?_)
    have u9 : cpC σ1 = cpC σ0 := congrArg Prod.fst e3.2.1.1
    have u10 : spC σ1 = spC σ0 := congrArg Prod.snd e3.2.1.1
    have u11 : cnC σ1 = cnC σ0 := congrArg (fun z => z.1.1) (e3.2.1.2.1 (by decide))
    have u12 : slC σ1 = slC σ0 := congrArg (fun z => z.1.2) (e3.2.1.2.1 (by decide))
    refine k_aload_n rfl ?_
    refine k_iload_n rfl ?_
    refine k_putIW (c := 11) H2 r4 rfl (Or.inl fk331) (fun σ13 H14 e15 r16 c17 f18 f19 l20 => ?_)
    have u21 : cpC σ13 = cpC σ1 := congrArg Prod.fst e15.2.1.1
    have u22 : spC σ13 = spC σ1 := congrArg Prod.snd e15.2.1.1
    have u23 : cnC σ13 = cnC σ1 := congrArg (fun z => z.1.1) (e15.2.1.2.1 (by decide))
    have u24 : slC σ13 = slC σ1 := congrArg (fun z => z.1.2) (e15.2.1.2.1 (by decide))
    refine k_aload_n rfl ?_
    refine k_iload_n rfl ?_
    refine k_putIW (c := 11) H14 r16 rfl (Or.inr ⟨fk332, b01C (by omega) (by omega)⟩) (fun σ25 H26 e27 r28 c29 f30 f31 l32 => ?_)
    have u33 : cpC σ25 = cpC σ13 := congrArg Prod.fst e27.2.1.1
    have u34 : spC σ25 = spC σ13 := congrArg Prod.snd e27.2.1.1
    have u35 : cnC σ25 = cnC σ13 := congrArg (fun z => z.1.1) (e27.2.1.2.1 (by decide))
    have u36 : slC σ25 = slC σ13 := congrArg (fun z => z.1.2) (e27.2.1.2.1 (by decide))
    refine k_aload_n rfl ?_
    refine k_iload rfl ?_
    refine k_putIW (c := 11) H26 r28 rfl (Or.inl fk333) (fun σ37 H38 e39 r40 c41 f42 f43 l44 => ?_)
    have u45 : cpC σ37 = cpC σ25 := congrArg Prod.fst e39.2.1.1
    have u46 : spC σ37 = spC σ25 := congrArg Prod.snd e39.2.1.1
    have u47 : cnC σ37 = cnC σ25 := congrArg (fun z => z.1.1) (e39.2.1.2.1 (by decide))
    have u48 : slC σ37 = slC σ25 := congrArg (fun z => z.1.2) (e39.2.1.2.1 (by decide))
    have c49 := (f18 330 (by decide)).trans c5
    have c50 := (f30 330 (by decide)).trans c49
    have c51 := (f42 330 (by decide)).trans c50
    have F52 : IvC 330 (fIC σ37 p0 330) := by rw [c51]; exact ⟨by show (0 : Int) ≤ _; omega, by show _ ≤ (502 : Int); omega⟩
    have c53 := (f42 332 (by decide)).trans c29
    have F54 : IvC 332 (fIC σ37 p0 332) := by rw [c53]; exact ⟨by show (0 : Int) ≤ _; omega, by show _ ≤ (1 : Int); omega⟩
    have c55 := (f6 334 (by decide)).trans (h_0_1 334).1
    have c56 := (f18 334 (by decide)).trans c55
    have c57 := (f30 334 (by decide)).trans c56
    have c58 := (f42 334 (by decide)).trans c57
    have F59 : IvC 334 (fIC σ37 p0 334) := by rw [c58]; exact ⟨by show (0 : Int) ≤ _; decide, by show _ ≤ (1 : Int); decide⟩
    have c60 := (f6 335 (by decide)).trans (h_0_1 335).1
    have c61 := (f18 335 (by decide)).trans c60
    have c62 := (f30 335 (by decide)).trans c61
    have c63 := (f42 335 (by decide)).trans c62
    have F64 : IvC 335 (fIC σ37 p0 335) := by rw [c63]; exact ⟨by show (0 : Int) ≤ _; decide, by show _ ≤ (1 : Int); decide⟩
    have X65 : XaC (rTC σ37 p0 11 (ghC σ37 p0)) p0 := XaC.no rT_tg (by decide)
    have H66 : HIC (rTC σ37 p0 11 (ghC σ37 p0)) := HIC.fin H38 r40 rfl (fn11 F52 F54 F59 F64) X65 (fun z => absurd z (by decide))
    have u67 : cnC (rTC σ37 p0 11 (ghC σ37 p0)) = cnC σ37 := rfl
    have u68 : slC (rTC σ37 p0 11 (ghC σ37 p0)) = slC σ37 := rfl
    refine k_returnW (r40.we (g := ghC σ37 p0)) ?_
    have X69 : ExT p0 [] σ0 σ1 := (ExC.rf).t.tr (e3.mo (by decide))
    have X70 : ExT p0 [] σ0 σ13 := X69.tr (e15.mo (by decide))
    have X71 : ExT p0 [] σ0 σ25 := X70.tr (e27.mo (by decide))
    have X72 : ExT p0 [] σ0 σ37 := X71.tr (e39.mo (by decide))
    have X73 : ExT p0 [] σ0 (rTC σ37 p0 11 (ghC σ37 p0)) := X72.tr ((ExT.rT : ExT p0 [] σ37 (rTC σ37 p0 11 (ghC σ37 p0))).mo (by decide))
    have g74 : GwC none σ0 σ1 := (GwC.rf : GwC none σ0 σ0).tr (e3.gw H0.1 h_0_0 r4.n0)
    have g75 : GwC none σ0 σ13 := g74.tr (e15.gw H2.1 r4 r16.n0)
    have g76 : GwC none σ0 σ25 := g75.tr (e27.gw H14.1 r16 r28.n0)
    have g77 : GwC none σ0 σ37 := g76.tr (e39.gw H26.1 r28 r40.n0)
    have g78 : GwC none σ0 (rTC σ37 p0 11 (ghC σ37 p0)) := g77.tr (ExT.gw H38.1 r40 (ExT.rT : ExT p0 [] σ37 (rTC σ37 p0 11 (ghC σ37 p0))) (by rw [rT_tg]; decide))
    have c79 := (f30 331 (by decide)).trans c17
    have c80 := (f42 331 (by decide)).trans c79
    exact ⟨rfl, H66, X73, ⟨r40.1, rT_tg, fun q => absurd q (by decide)⟩, ((((rT_gh.trans l44).trans l32).trans l20).trans l8), (by omega), (by omega), g78, (show fIC σ37 p0 330 = _ from c51), (show fIC σ37 p0 331 = _ from c80), (show fIC σ37 p0 332 = _ from c53), (show fIC σ37 p0 333 = _ from c41)⟩
theorem lg_X10_init : ∀ (As : List AvC) (σ : CsC), P_X10_init As σ → lgC As ≤ rX10_init.2.2.1 := by
  rintro As σ ⟨p0, p1, p2, p3, p4, rfl, -⟩
  exact Nat.le_of_ble_eq_true rfl
theorem m_X10_init (l : Launch) : CMetC l 1 199 P_X10_init Q_X10_init :=
  CMetC.of KX10_init [] hX10_init (by decide) (by decide) okX10_init cc0C (lg_X10_init) (b_X10_init)

abbrev P_X5_init : CpC := fun As σ => ∃ (p0 : Nat) (p1 : Int32) (p2 : Int64) (p3 : Int32) (p4 : Int32), As = [.inr (.inr (some p0)), .inl p1, .inr (.inl p2), .inl p3, .inl p4] ∧ HIC σ ∧ RawC σ p0 6 ∧ ZrC σ p0 ∧ (-1) ≤ p1.toInt ∧ p1.toInt ≤ 502 ∧ cnC σ + 2 ≤ cpC σ ∧ slC σ + 27 ≤ spC σ
abbrev Q_X5_init : CqC := fun As σ w τ => match As with
  | [.inr (.inr (some p0)), .inl p1, .inr (.inl p2), .inl p3, .inl p4] => w = none ∧ HIC τ ∧ ExT p0 [999] σ τ ∧ TyC τ p0 6 ∧ ghC τ p0 = ghC σ p0 ∧ cnC τ = cnC σ + 2 ∧ slC τ = slC σ + 27 ∧ GwC none σ τ ∧ (fIC τ p0 180 = p1) ∧ (fIC τ p0 185 = 0) ∧ (fIC τ p0 182 = p3) ∧ ((∀ r, fRC τ p0 183 = some r → cnC σ ≤ r))
  | _ => False
set_option maxRecDepth 100000 in
set_option maxHeartbeats 4000000 in
theorem b_X5_init : TbC KX5_init [(178, P_X8_init, Q_X8_init)] P_X5_init Q_X5_init := by
  · rintro As σ0 ⟨p0, p1, p2, p3, p4, rfl, H0, h_0_0, h_0_1, h_1_0, h_1_1, rm_0, rm_1⟩ hgr G hB hW
    change G 0 [(0, .inr (.inr (some p0))), (1, .inl p1), (2, .inr (.inl p2)), (4, .inl p3), (5, .inl p4)] [] σ0
    refine hB _ _ _ _ (kgoC (is := KX5_init_0) rfl ?_)
    refine k_aload_n rfl ?_
    refine k_obj (Nat.le_of_ble_eq_true rfl) ?_
    refine k_aload_n rfl ?_
    refine k_bipush (m := 6) rfl (fun x1 h2 => ?_)
    refine k_newarray (t := 100) (g := 7) (n := 6) H0 (by decide) rfl (by omega) (by decide) (by omega) (by omega) (fun a3 σ4 q5 H6 e7 t8 l9 l10 u11 u12 => ?_)
    have u13 : cpC σ4 = cpC σ0 := congrArg Prod.fst e7.2.1.1
    have u14 : spC σ4 = spC σ0 := congrArg Prod.snd e7.2.1.1
    have r15 := h_0_0.x e7
    refine k_putRW (c := 6) H6 r15 rfl fk183 (fun σ16 H17 e18 r19 c20 f21 f22 l23 => ?_)
    have u24 : cpC σ16 = cpC σ4 := congrArg Prod.fst e18.2.1.1
    have u25 : spC σ16 = spC σ4 := congrArg Prod.snd e18.2.1.1
    have u26 : cnC σ16 = cnC σ4 := congrArg (fun z => z.1.1) (e18.2.1.2.1 (by decide))
    have u27 : slC σ16 = slC σ4 := congrArg (fun z => z.1.2) (e18.2.1.2.1 (by decide))
    refine k_aload_n rfl ?_
    refine k_new (c := 9) (g := 0) H17 (by decide) rfl (by omega) (by have hn : nfC 9 = 21 := rfl; omega) (fun a28 σ29 q30 H31 e32 r33 z34 l35 u36 u37 => ?_)
    rw [show nfC 9 = 21 from rfl] at u37
    have u38 : cpC σ29 = cpC σ16 := congrArg Prod.fst e32.2.1.1
    have u39 : spC σ29 = spC σ16 := congrArg Prod.snd e32.2.1.1
    refine k_dupR ?_
    refine k_bipush (m := 92) rfl (fun x40 h41 => ?_)
    refine k_iconst (m := 0) rfl (fun x42 h43 => ?_)
    refine k_iconst (m := 0) rfl (fun x44 h45 => ?_)
    refine k_aconst_null ?_
    refine k_lconst ?_
    refine k_spec (P := P_X8_init) (Q := Q_X8_init) rfl rfl rfl rfl (Nat.le_of_ble_eq_true rfl) ⟨_, _, _, _, none, _, rfl, H31, r33, z34, (by omega), (by omega), (by omega), (by omega), OtC.n, (by omega), (by omega), (by omega), (fun b hb => by cases hb)⟩ (fun w46 σ47 q48 => ?_)
    obtain ⟨rfl, H49, e50, t51, l52, u53, u54, g55, q57, q58⟩ := q48
    have u59 : cpC σ47 = cpC σ29 := congrArg Prod.fst e50.2.1.1
    have u60 : spC σ47 = spC σ29 := congrArg Prod.snd e50.2.1.1
    have u61 : cnC σ47 = cnC σ29 := congrArg (fun z => z.1.1) (e50.2.1.2.1 (by decide))
    have u62 : slC σ47 = slC σ29 := congrArg (fun z => z.1.2) (e50.2.1.2.1 (by decide))
    have l56 := l52.trans l35
    refine k_st (st' := [.inr (.inr (some a28)), .inr (.inr (some p0))]) rfl ?_
    have r63 := r19.x e32
    have r64 := r63.xt (r63.nr r33 (by decide)) e50
    refine k_putRW (c := 6) H49 r64 rfl fk186 (fun σ65 H66 e67 r68 c69 f70 f71 l72 => ?_)
    have u73 : cpC σ65 = cpC σ47 := congrArg Prod.fst e67.2.1.1
    have u74 : spC σ65 = spC σ47 := congrArg Prod.snd e67.2.1.1
    have u75 : cnC σ65 = cnC σ47 := congrArg (fun z => z.1.1) (e67.2.1.2.1 (by decide))
    have u76 : slC σ65 = slC σ47 := congrArg (fun z => z.1.2) (e67.2.1.2.1 (by decide))
    refine k_aload_n rfl ?_
    refine k_iload_n rfl ?_
    refine k_putIW (c := 6) H66 r68 rfl (Or.inl fk180) (fun σ77 H78 e79 r80 c81 f82 f83 l84 => ?_)
    have u85 : cpC σ77 = cpC σ65 := congrArg Prod.fst e79.2.1.1
    have u86 : spC σ77 = spC σ65 := congrArg Prod.snd e79.2.1.1
    have u87 : cnC σ77 = cnC σ65 := congrArg (fun z => z.1.1) (e79.2.1.2.1 (by decide))
    have u88 : slC σ77 = slC σ65 := congrArg (fun z => z.1.2) (e79.2.1.2.1 (by decide))
    refine k_aload_n rfl ?_
    refine k_lload_n rfl ?_
    refine k_putLW (c := 6) H78 r80 rfl fk181 (fun σ89 H90 e91 r92 f94 f95 l96 => ?_)
    have u97 : cpC σ89 = cpC σ77 := congrArg Prod.fst e91.2.1.1
    have u98 : spC σ89 = spC σ77 := congrArg Prod.snd e91.2.1.1
    have u99 : cnC σ89 = cnC σ77 := congrArg (fun z => z.1.1) (e91.2.1.2.1 (by decide))
    have u100 : slC σ89 = slC σ77 := congrArg (fun z => z.1.2) (e91.2.1.2.1 (by decide))
    refine k_aload_n rfl ?_
    refine k_iload rfl ?_
    refine k_putIW (c := 6) H90 r92 rfl (Or.inl fk182) (fun σ101 H102 e103 r104 c105 f106 f107 l108 => ?_)
    have u109 : cpC σ101 = cpC σ89 := congrArg Prod.fst e103.2.1.1
    have u110 : spC σ101 = spC σ89 := congrArg Prod.snd e103.2.1.1
    have u111 : cnC σ101 = cnC σ89 := congrArg (fun z => z.1.1) (e103.2.1.2.1 (by decide))
    have u112 : slC σ101 = slC σ89 := congrArg (fun z => z.1.2) (e103.2.1.2.1 (by decide))
    refine k_aload_n rfl ?_
    refine k_iload rfl ?_
    refine k_putIW (c := 6) H102 r104 rfl (Or.inl fk184) (fun σ113 H114 e115 r116 c117 f118 f119 l120 => ?_)
    have u121 : cpC σ113 = cpC σ101 := congrArg Prod.fst e115.2.1.1
    have u122 : spC σ113 = spC σ101 := congrArg Prod.snd e115.2.1.1
    have u123 : cnC σ113 = cnC σ101 := congrArg (fun z => z.1.1) (e115.2.1.2.1 (by decide))
    have u124 : slC σ113 = slC σ101 := congrArg (fun z => z.1.2) (e115.2.1.2.1 (by decide))
    have c125 := (f94 180).trans c81
    have c126 := (f106 180 (by decide)).trans c125
    have c127 := (f118 180 (by decide)).trans c126
    have F128 : IvC 180 (fIC σ113 p0 180) := by rw [c127]; exact ⟨by show (-1 : Int) ≤ _; omega, by show _ ≤ (502 : Int); omega⟩
    have c129 := (r19.mr e32 (by decide)).trans c20
    have c130 := (r63.mrt (r63.nr r33 (by decide)) e50 (by decide)).trans c129
    have c131 := (f71 183 (by decide)).trans c130
    have c132 := (f83 183).trans c131
    have c133 := (f95 183).trans c132
    have c134 := (f107 183).trans c133
    have c135 := (f119 183).trans c134
    have t137 := t8.xt r15 (by decide) e18
    have t138 := t137.x e32
    have t139 := t138.xt r33 (by decide) e50
    have t140 := t139.xt r64 (by decide) e67
    have t141 := t140.xt r68 (by decide) e79
    have t142 := t141.xt r80 (by decide) e91
    have t143 := t142.xt r92 (by decide) e103
    have t144 := t143.xt r104 (by decide) e115
    have l145 := (t8.alt r15 (by decide) e18).trans l9
    have l146 := (t137.al e32).trans l145
    have l147 := (t138.alt r33 (by decide) e50).trans l146
    have l148 := (t139.alt r64 (by decide) e67).trans l147
    have l149 := (t140.alt r68 (by decide) e79).trans l148
    have l150 := (t141.alt r80 (by decide) e91).trans l149
    have l151 := (t142.alt r92 (by decide) e103).trans l150
    have l152 := (t143.alt r104 (by decide) e115).trans l151
    have l153 := (t8.ght r15 (by decide) e18).trans l10
    have l154 := (t137.gh e32).trans l153
    have l155 := (t138.ght r33 (by decide) e50).trans l154
    have l156 := (t139.ght r64 (by decide) e67).trans l155
    have l157 := (t140.ght r68 (by decide) e79).trans l156
    have l158 := (t141.ght r80 (by decide) e91).trans l157
    have l159 := (t142.ght r92 (by decide) e103).trans l158
    have l160 := (t143.ght r104 (by decide) e115).trans l159
    have F136 : RfC σ113 p0 183 (fRC σ113 p0 183) := by rw [c135]; exact Or.inr ⟨t144, Or.inr l152, Or.inr l160, fun z => absurd z (by decide), fun z => absurd z (by decide)⟩
    have c161 := (h_0_0.mi e7 (by decide)).trans (h_0_1 185).1
    have c162 := (f21 185).trans c161
    have c163 := (r19.mi e32 (by decide)).trans c162
    have c164 := (r63.mit (r63.nr r33 (by decide)) e50 (by decide)).trans c163
    have c165 := (f70 185).trans c164
    have c166 := (f82 185 (by decide)).trans c165
    have c167 := (f94 185).trans c166
    have c168 := (f106 185 (by decide)).trans c167
    have c169 := (f118 185 (by decide)).trans c168
    have F170 : IvC 185 (fIC σ113 p0 185) := by rw [c169]; exact ⟨by show (0 : Int) ≤ _; decide, by show _ ≤ (6 : Int); decide⟩
    have c171 := (f83 186).trans c69
    have c172 := (f95 186).trans c171
    have c173 := (f107 186).trans c172
    have c174 := (f119 186).trans c173
    have t176 := t51.xt r64 (by decide) e67
    have t177 := t176.xt r68 (by decide) e79
    have t178 := t177.xt r80 (by decide) e91
    have t179 := t178.xt r92 (by decide) e103
    have t180 := t179.xt r104 (by decide) e115
    have F175 : RfC σ113 p0 186 (fRC σ113 p0 186) := by rw [c174]; exact Or.inr ⟨t180, Or.inl rfl, Or.inl rfl, fun z => absurd z (by decide), fun z => absurd z (by decide)⟩
    have c182 := (t51.mit r64 (by decide) e67 (by decide)).trans q57
    have c183 := (t176.mit r68 (by decide) e79 (by decide)).trans c182
    have c184 := (t177.mit r80 (by decide) e91 (by decide)).trans c183
    have c185 := (t178.mit r92 (by decide) e103 (by decide)).trans c184
    have c186 := (t179.mit r104 (by decide) e115 (by decide)).trans c185
    have X181 : XaC (rTC σ113 p0 6 (ghC σ113 p0)) p0 := XaC.of6 rT_tg (fun b hb => by have hb : fRC σ113 p0 186 = some b := hb; rw [c174] at hb; cases hb; show (fIC σ113 a28 270).toInt = 92; rw [c186]; omega)
    have H187 : HIC (rTC σ113 p0 6 (ghC σ113 p0)) := HIC.fin H114 r116 rfl (fn6 F128 F136 F170 F175) X181 (fun z => absurd z (by decide))
    have u188 : cnC (rTC σ113 p0 6 (ghC σ113 p0)) = cnC σ113 := rfl
    have u189 : slC (rTC σ113 p0 6 (ghC σ113 p0)) = slC σ113 := rfl
    refine k_returnW (r116.we (g := ghC σ113 p0)) ?_
    have X190 : ExC [999] σ16 σ29 := ExC.rf.tr (e32.mo (by decide))
    have X191 : ExC [999] σ16 σ47 := (X190 : ExC [999] σ16 σ29).nt (Nat.le_of_eq q30.symm) (e50.mo (by decide))
    have X192 : ExT p0 [999] σ0 σ4 := (ExC.rf).t.tr (e7.mo (by decide)).t
    have X193 : ExT p0 [999] σ0 σ16 := X192.tr (e18.mo (by decide))
    have X194 : ExT p0 [999] σ0 σ47 := X193.tr X191.t
    have X195 : ExT p0 [999] σ0 σ65 := X194.tr (e67.mo (by decide))
    have X196 : ExT p0 [999] σ0 σ77 := X195.tr (e79.mo (by decide))
    have X197 : ExT p0 [999] σ0 σ89 := X196.tr (e91.mo (by decide))
    have X198 : ExT p0 [999] σ0 σ101 := X197.tr (e103.mo (by decide))
    have X199 : ExT p0 [999] σ0 σ113 := X198.tr (e115.mo (by decide))
    have X200 : ExT p0 [999] σ0 (rTC σ113 p0 6 (ghC σ113 p0)) := X199.tr ((ExT.rT : ExT p0 [] σ113 (rTC σ113 p0 6 (ghC σ113 p0))).mo (by decide))
    have g201 : GwC none σ0 σ4 := (GwC.rf : GwC none σ0 σ0).tr (e7.gwn H0.1 u11 u12 (by decide) (by rw [← q5, t8.2.1]; decide))
    have g202 : GwC none σ0 σ16 := g201.tr (e18.gw H6.1 r15 r19.n0)
    have g203 : GwC none σ0 σ29 := g202.tr (e32.gwn H17.1 u36 u37 (by decide) (by rw [← q30]; exact r33.n0))
    have g204 : GwC none σ0 σ47 := g203.tr g55
    have g205 : GwC none σ0 σ65 := g204.tr (e67.gw H49.1 r64 r68.n0)
    have g206 : GwC none σ0 σ77 := g205.tr (e79.gw H66.1 r68 r80.n0)
    have g207 : GwC none σ0 σ89 := g206.tr (e91.gw H78.1 r80 r92.n0)
    have g208 : GwC none σ0 σ101 := g207.tr (e103.gw H90.1 r92 r104.n0)
    have g209 : GwC none σ0 σ113 := g208.tr (e115.gw H102.1 r104 r116.n0)
    have g210 : GwC none σ0 (rTC σ113 p0 6 (ghC σ113 p0)) := g209.tr (ExT.gw H114.1 r116 (ExT.rT : ExT p0 [] σ113 (rTC σ113 p0 6 (ghC σ113 p0))) (by rw [rT_tg]; decide))
    have c211 := (f118 182 (by decide)).trans c105
    exact ⟨rfl, H187, X200, ⟨r116.1, rT_tg, fun q => absurd q (by decide)⟩, (((((((((rT_gh.trans l120).trans l108).trans l96).trans l84).trans l72).trans (e50.2.2 p0 r63.1 (r63.nr r33 (by decide))).1.2.2).trans (e32.2.2 p0 r19.1).1.2.2).trans l23).trans (e7.2.2 p0 h_0_0.1).1.2.2), (by omega), (by omega), g210, (show fIC σ113 p0 180 = _ from c127), (show fIC σ113 p0 185 = _ from c169), (show fIC σ113 p0 182 = _ from c211), (fun r hr => by have e0 := (show fRC σ113 p0 183 = some a3 from c135).symm.trans hr; obtain rfl : a3 = r := Option.some.inj e0; omega)⟩
theorem lg_X5_init : ∀ (As : List AvC) (σ : CsC), P_X5_init As σ → lgC As ≤ rX5_init.2.2.1 := by
  rintro As σ ⟨p0, p1, p2, p3, p4, rfl, -⟩
  exact Nat.le_of_ble_eq_true rfl
theorem m_X5_init (l : Launch) : CMetC l 2 111 P_X5_init Q_X5_init :=
  CMetC.of KX5_init [(178, P_X8_init, Q_X8_init)] hX5_init (by decide) (by decide) okX5_init (cc1C (m_X8_init l) (by decide) cc0C) (lg_X5_init) (b_X5_init)

abbrev P_X7_init : CpC := fun As σ => ∃ (p0 : Nat) (p1 : Nat), As = [.inr (.inr (some p0)), .inr (.inr (some p1))] ∧ HIC σ ∧ RawC σ p0 8 ∧ ZrC σ p0 ∧ TyC σ p1 7 ∧ cnC σ + 0 ≤ cpC σ ∧ slC σ + 0 ≤ spC σ
abbrev Q_X7_init : CqC := fun As σ w τ => match As with
  | [.inr (.inr (some p0)), .inr (.inr (some p1))] => w = none ∧ HIC τ ∧ ExT p0 [] σ τ ∧ TyC τ p0 8 ∧ ghC τ p0 = ghC σ p0 ∧ cnC τ = cnC σ + 0 ∧ slC τ = slC σ + 0
  | _ => False
set_option maxRecDepth 100000 in
set_option maxHeartbeats 4000000 in
theorem b_X7_init : TbC KX7_init [] P_X7_init Q_X7_init := by
  · rintro As σ0 ⟨p0, p1, rfl, H0, h_0_0, h_0_1, h_1_0, rm_0, rm_1⟩ hgr G hB hW
    change G 0 [(0, .inr (.inr (some p0))), (1, .inr (.inr (some p1)))] [] σ0
    refine hB _ _ _ _ (kgoC (is := KX7_init_0) rfl ?_)
    refine k_aload_n rfl ?_
    refine k_obj (Nat.le_of_ble_eq_true rfl) ?_
    refine k_aload_n rfl ?_
    refine k_aload_n rfl ?_
    refine k_putRW (c := 8) H0 h_0_0 rfl fk240 (fun σ1 H2 e3 r4 c5 f6 f7 l8 => ?_)
    have u9 : cpC σ1 = cpC σ0 := congrArg Prod.fst e3.2.1.1
    have u10 : spC σ1 = spC σ0 := congrArg Prod.snd e3.2.1.1
    have u11 : cnC σ1 = cnC σ0 := congrArg (fun z => z.1.1) (e3.2.1.2.1 (by decide))
    have u12 : slC σ1 = slC σ0 := congrArg (fun z => z.1.2) (e3.2.1.2.1 (by decide))
    refine k_aload_n rfl ?_
    refine k_aload_n rfl ?_
    have t13 := h_1_0.xt h_0_0 (by decide) e3
    obtain ⟨a16, e14, c15, t17⟩ := cg210 H2.1 t13
    refine k_get kg210 t13 e14 ?_
    refine k_putRW (c := 8) H2 r4 rfl fk241 (fun σ18 H19 e20 r21 c22 f23 f24 l25 => ?_)
    have u26 : cpC σ18 = cpC σ1 := congrArg Prod.fst e20.2.1.1
    have u27 : spC σ18 = spC σ1 := congrArg Prod.snd e20.2.1.1
    have u28 : cnC σ18 = cnC σ1 := congrArg (fun z => z.1.1) (e20.2.1.2.1 (by decide))
    have u29 : slC σ18 = slC σ1 := congrArg (fun z => z.1.2) (e20.2.1.2.1 (by decide))
    have c30 := (f24 240 (by decide)).trans c5
    have t32 := t13.xt r4 (by decide) e20
    have F31 : RfC σ18 p0 240 (fRC σ18 p0 240) := by rw [c30]; exact Or.inr ⟨t32, Or.inl rfl, Or.inl rfl, fun z => absurd z (by decide), fun z => absurd z (by decide)⟩
    have t34 := t17.xt r4 (by decide) e20
    have F33 : RfC σ18 p0 241 (fRC σ18 p0 241) := by rw [c22]; exact Or.inr ⟨t34, Or.inl rfl, Or.inl rfl, fun z => absurd z (by decide), fun z => absurd z (by decide)⟩
    have c35 := (f6 242).trans (h_0_1 242).1
    have c36 := (f23 242).trans c35
    have F37 : IvC 242 (fIC σ18 p0 242) := by rw [c36]; exact ⟨by show (0 : Int) ≤ _; decide, by show _ ≤ (500 : Int); decide⟩
    have c38 := (f6 243).trans (h_0_1 243).1
    have c39 := (f23 243).trans c38
    have F40 : IvC 243 (fIC σ18 p0 243) := by rw [c39]; exact ⟨by show (0 : Int) ≤ _; decide, by show _ ≤ (3 : Int); decide⟩
    have c41 := (f7 246 (by decide)).trans (h_0_1 246).2
    have c42 := (f24 246 (by decide)).trans c41
    have F43 : RfC σ18 p0 246 (fRC σ18 p0 246) := by rw [c42]; exact (rfl : (rfC 246).1 = 1)
    have X44 : XaC (rTC σ18 p0 8 (ghC σ18 p0)) p0 := XaC.no rT_tg (by decide)
    have H45 : HIC (rTC σ18 p0 8 (ghC σ18 p0)) := HIC.fin H19 r21 rfl (fn8 F31 F33 F37 F40 F43) X44 (fun z => absurd z (by decide))
    have u46 : cnC (rTC σ18 p0 8 (ghC σ18 p0)) = cnC σ18 := rfl
    have u47 : slC (rTC σ18 p0 8 (ghC σ18 p0)) = slC σ18 := rfl
    refine k_returnW (r21.we (g := ghC σ18 p0)) ?_
    have X48 : ExT p0 [] σ0 σ1 := (ExC.rf).t.tr (e3.mo (by decide))
    have X49 : ExT p0 [] σ0 σ18 := X48.tr (e20.mo (by decide))
    have X50 : ExT p0 [] σ0 (rTC σ18 p0 8 (ghC σ18 p0)) := X49.tr ((ExT.rT : ExT p0 [] σ18 (rTC σ18 p0 8 (ghC σ18 p0))).mo (by decide))
    exact ⟨rfl, H45, X50, ⟨r21.1, rT_tg, fun q => absurd q (by decide)⟩, ((rT_gh.trans l25).trans l8), (by omega), (by omega)⟩
theorem lg_X7_init : ∀ (As : List AvC) (σ : CsC), P_X7_init As σ → lgC As ≤ rX7_init.2.2.1 := by
  rintro As σ ⟨p0, p1, rfl, -⟩
  exact Nat.le_of_ble_eq_true rfl
theorem m_X7_init (l : Launch) : CMetC l 1 122 P_X7_init Q_X7_init :=
  CMetC.of KX7_init [] hX7_init (by decide) (by decide) okX7_init cc0C (lg_X7_init) (b_X7_init)

abbrev P_X2_init : CpC := fun As σ => ∃ (p0 : Nat) (p1 : Nat), As = [.inr (.inr (some p0)), .inr (.inr (some p1))] ∧ HIC σ ∧ RawC σ p0 3 ∧ ZrC σ p0 ∧ TyC σ p1 7 ∧ cnC σ + 1 ≤ cpC σ ∧ slC σ + 500 ≤ spC σ
abbrev Q_X2_init : CqC := fun As σ w τ => match As with
  | [.inr (.inr (some p0)), .inr (.inr (some p1))] => w = none ∧ HIC τ ∧ ExT p0 [999] σ τ ∧ TyC τ p0 3 ∧ ghC τ p0 = ghC σ p0 ∧ cnC τ = cnC σ + 1 ∧ slC τ = slC σ + 500
  | _ => False
set_option maxRecDepth 100000 in
set_option maxHeartbeats 4000000 in
theorem b_X2_init : TbC KX2_init [] P_X2_init Q_X2_init := by
  · rintro As σ0 ⟨p0, p1, rfl, H0, h_0_0, h_0_1, h_1_0, rm_0, rm_1⟩ hgr G hB hW
    change G 0 [(0, .inr (.inr (some p0))), (1, .inr (.inr (some p1)))] [] σ0
    refine hB _ _ _ _ (kgoC (is := KX2_init_0) rfl ?_)
    refine k_aload_n rfl ?_
    refine k_obj (Nat.le_of_ble_eq_true rfl) ?_
    refine k_aload_n rfl ?_
    refine k_sipush (m := 500) rfl (fun x1 h2 => ?_)
    refine k_newarray (t := 102) (g := 0) (n := 500) H0 (by decide) rfl (by omega) (by decide) (by omega) (by omega) (fun a3 σ4 q5 H6 e7 t8 l9 l10 u11 u12 => ?_)
    have u13 : cpC σ4 = cpC σ0 := congrArg Prod.fst e7.2.1.1
    have u14 : spC σ4 = spC σ0 := congrArg Prod.snd e7.2.1.1
    have r15 := h_0_0.x e7
    refine k_putRW (c := 3) H6 r15 rfl fk93 (fun σ16 H17 e18 r19 c20 f21 f22 l23 => ?_)
    have u24 : cpC σ16 = cpC σ4 := congrArg Prod.fst e18.2.1.1
    have u25 : spC σ16 = spC σ4 := congrArg Prod.snd e18.2.1.1
    have u26 : cnC σ16 = cnC σ4 := congrArg (fun z => z.1.1) (e18.2.1.2.1 (by decide))
    have u27 : slC σ16 = slC σ4 := congrArg (fun z => z.1.2) (e18.2.1.2.1 (by decide))
    refine k_aload_n rfl ?_
    refine k_aload_n rfl ?_
    refine k_putRW (c := 3) H17 r19 rfl fk90 (fun σ28 H29 e30 r31 c32 f33 f34 l35 => ?_)
    have u36 : cpC σ28 = cpC σ16 := congrArg Prod.fst e30.2.1.1
    have u37 : spC σ28 = spC σ16 := congrArg Prod.snd e30.2.1.1
    have u38 : cnC σ28 = cnC σ16 := congrArg (fun z => z.1.1) (e30.2.1.2.1 (by decide))
    have u39 : slC σ28 = slC σ16 := congrArg (fun z => z.1.2) (e30.2.1.2.1 (by decide))
    have t41 := h_1_0.x e7
    have t42 := t41.xt r15 (by decide) e18
    have t43 := t42.xt r19 (by decide) e30
    have F40 : RfC σ28 p0 90 (fRC σ28 p0 90) := by rw [c32]; exact Or.inr ⟨t43, Or.inl rfl, Or.inl rfl, fun z => absurd z (by decide), fun z => absurd z (by decide)⟩
    have c44 := (f34 93 (by decide)).trans c20
    have t46 := t8.xt r15 (by decide) e18
    have t47 := t46.xt r19 (by decide) e30
    have l48 := (t8.alt r15 (by decide) e18).trans l9
    have l49 := (t46.alt r19 (by decide) e30).trans l48
    have l50 := (t8.ght r15 (by decide) e18).trans l10
    have l51 := (t46.ght r19 (by decide) e30).trans l50
    have F45 : RfC σ28 p0 93 (fRC σ28 p0 93) := by rw [c44]; exact Or.inr ⟨t47, Or.inr l49, Or.inr l51, fun z => absurd z (by decide), fun z => absurd z (by decide)⟩
    have c52 := (h_0_0.mi e7 (by decide)).trans (h_0_1 94).1
    have c53 := (f21 94).trans c52
    have c54 := (f33 94).trans c53
    have F55 : IvC 94 (fIC σ28 p0 94) := by rw [c54]; exact ⟨by show (0 : Int) ≤ _; decide, by show _ ≤ (500 : Int); decide⟩
    have X56 : XaC (rTC σ28 p0 3 (ghC σ28 p0)) p0 := XaC.no rT_tg (by decide)
    have H57 : HIC (rTC σ28 p0 3 (ghC σ28 p0)) := HIC.fin H29 r31 rfl (fn3 F40 F45 F55) X56 (fun z => absurd z (by decide))
    have u58 : cnC (rTC σ28 p0 3 (ghC σ28 p0)) = cnC σ28 := rfl
    have u59 : slC (rTC σ28 p0 3 (ghC σ28 p0)) = slC σ28 := rfl
    refine k_returnW (r31.we (g := ghC σ28 p0)) ?_
    have X60 : ExT p0 [999] σ0 σ4 := (ExC.rf).t.tr (e7.mo (by decide)).t
    have X61 : ExT p0 [999] σ0 σ16 := X60.tr (e18.mo (by decide))
    have X62 : ExT p0 [999] σ0 σ28 := X61.tr (e30.mo (by decide))
    have X63 : ExT p0 [999] σ0 (rTC σ28 p0 3 (ghC σ28 p0)) := X62.tr ((ExT.rT : ExT p0 [] σ28 (rTC σ28 p0 3 (ghC σ28 p0))).mo (by decide))
    exact ⟨rfl, H57, X63, ⟨r31.1, rT_tg, fun q => absurd q (by decide)⟩, (((rT_gh.trans l35).trans l23).trans (e7.2.2 p0 h_0_0.1).1.2.2), (by omega), (by omega)⟩
theorem lg_X2_init : ∀ (As : List AvC) (σ : CsC), P_X2_init As σ → lgC As ≤ rX2_init.2.2.1 := by
  rintro As σ ⟨p0, p1, rfl, -⟩
  exact Nat.le_of_ble_eq_true rfl
theorem m_X2_init (l : Launch) : CMetC l 1 19 P_X2_init Q_X2_init :=
  CMetC.of KX2_init [] hX2_init (by decide) (by decide) okX2_init cc0C (lg_X2_init) (b_X2_init)

abbrev P_X3_init : CpC := fun As σ => ∃ (p0 : Nat) (p1 : Nat), As = [.inr (.inr (some p0)), .inr (.inr (some p1))] ∧ HIC σ ∧ RawC σ p0 4 ∧ ZrC σ p0 ∧ TyC σ p1 7 ∧ cnC σ + 2 ≤ cpC σ ∧ slC σ + 505 ≤ spC σ
abbrev Q_X3_init : CqC := fun As σ w τ => match As with
  | [.inr (.inr (some p0)), .inr (.inr (some p1))] => w = none ∧ HIC τ ∧ ExT p0 [999] σ τ ∧ TyC τ p0 4 ∧ ghC τ p0 = ghC σ p0 ∧ cnC τ = cnC σ + 2 ∧ slC τ = slC σ + 505
  | _ => False
set_option maxRecDepth 100000 in
set_option maxHeartbeats 4000000 in
theorem b_X3_init : TbC KX3_init [(19, P_X2_init, Q_X2_init)] P_X3_init Q_X3_init := by
  · rintro As σ0 ⟨p0, p1, rfl, H0, h_0_0, h_0_1, h_1_0, rm_0, rm_1⟩ hgr G hB hW
    change G 0 [(0, .inr (.inr (some p0))), (1, .inr (.inr (some p1)))] [] σ0
    refine hB _ _ _ _ (kgoC (is := KX3_init_0) rfl ?_)
    refine k_aload_n rfl ?_
    refine k_obj (Nat.le_of_ble_eq_true rfl) ?_
    refine k_aload_n rfl ?_
    refine k_aload_n rfl ?_
    refine k_putRW (c := 4) H0 h_0_0 rfl fk121 (fun σ1 H2 e3 r4 c5 f6 f7 l8 => ?_)
    have u9 : cpC σ1 = cpC σ0 := congrArg Prod.fst e3.2.1.1
    have u10 : spC σ1 = spC σ0 := congrArg Prod.snd e3.2.1.1
    have u11 : cnC σ1 = cnC σ0 := congrArg (fun z => z.1.1) (e3.2.1.2.1 (by decide))
    have u12 : slC σ1 = slC σ0 := congrArg (fun z => z.1.2) (e3.2.1.2.1 (by decide))
    refine k_aload_n rfl ?_
    refine k_new (c := 3) (g := 0) H2 (by decide) rfl (by omega) (by have hn : nfC 3 = 5 := rfl; omega) (fun a13 σ14 q15 H16 e17 r18 z19 l20 u21 u22 => ?_)
    rw [show nfC 3 = 5 from rfl] at u22
    have u23 : cpC σ14 = cpC σ1 := congrArg Prod.fst e17.2.1.1
    have u24 : spC σ14 = spC σ1 := congrArg Prod.snd e17.2.1.1
    refine k_dupR ?_
    refine k_aload_n rfl ?_
    have t25 := h_1_0.xt h_0_0 (by decide) e3
    have t26 := t25.x e17
    refine k_spec (P := P_X2_init) (Q := Q_X2_init) rfl rfl rfl rfl (Nat.le_of_ble_eq_true rfl) ⟨_, _, rfl, H16, r18, z19, t26, (by omega), (by omega)⟩ (fun w27 σ28 q29 => ?_)
    obtain ⟨rfl, H30, e31, t32, l33, u34, u35⟩ := q29
    have u37 : cpC σ28 = cpC σ14 := congrArg Prod.fst e31.2.1.1
    have u38 : spC σ28 = spC σ14 := congrArg Prod.snd e31.2.1.1
    have l36 := l33.trans l20
    refine k_st (st' := [.inr (.inr (some a13)), .inr (.inr (some p0))]) rfl ?_
    have r39 := r4.x e17
    have r40 := r39.xt (r39.nr r18 (by decide)) e31
    refine k_putRW (c := 4) H30 r40 rfl fk120 (fun σ41 H42 e43 r44 c45 f46 f47 l48 => ?_)
    have u49 : cpC σ41 = cpC σ28 := congrArg Prod.fst e43.2.1.1
    have u50 : spC σ41 = spC σ28 := congrArg Prod.snd e43.2.1.1
    have u51 : cnC σ41 = cnC σ28 := congrArg (fun z => z.1.1) (e43.2.1.2.1 (by decide))
    have u52 : slC σ41 = slC σ28 := congrArg (fun z => z.1.2) (e43.2.1.2.1 (by decide))
    have t54 := t32.xt r40 (by decide) e43
    have F53 : RfC σ41 p0 120 (fRC σ41 p0 120) := by rw [c45]; exact Or.inr ⟨t54, Or.inl rfl, Or.inl rfl, fun z => absurd z (by decide), fun z => absurd z (by decide)⟩
    have c55 := (r4.mr e17 (by decide)).trans c5
    have c56 := (r39.mrt (r39.nr r18 (by decide)) e31 (by decide)).trans c55
    have c57 := (f47 121 (by decide)).trans c56
    have t59 := t26.xt r18 (by decide) e31
    have t60 := t59.xt r40 (by decide) e43
    have F58 : RfC σ41 p0 121 (fRC σ41 p0 121) := by rw [c57]; exact Or.inr ⟨t60, Or.inl rfl, Or.inl rfl, fun z => absurd z (by decide), fun z => absurd z (by decide)⟩
    have X61 : XaC (rTC σ41 p0 4 (ghC σ41 p0)) p0 := XaC.no rT_tg (by decide)
    have H62 : HIC (rTC σ41 p0 4 (ghC σ41 p0)) := HIC.fin H42 r44 rfl (fn4 F53 F58) X61 (fun z => absurd z (by decide))
    have u63 : cnC (rTC σ41 p0 4 (ghC σ41 p0)) = cnC σ41 := rfl
    have u64 : slC (rTC σ41 p0 4 (ghC σ41 p0)) = slC σ41 := rfl
    refine k_returnW (r44.we (g := ghC σ41 p0)) ?_
    have X65 : ExC [999] σ1 σ14 := ExC.rf.tr (e17.mo (by decide))
    have X66 : ExC [999] σ1 σ28 := (X65 : ExC [999] σ1 σ14).nt (Nat.le_of_eq q15.symm) (e31.mo (by decide))
    have X67 : ExT p0 [999] σ0 σ1 := (ExC.rf).t.tr (e3.mo (by decide))
    have X68 : ExT p0 [999] σ0 σ28 := X67.tr X66.t
    have X69 : ExT p0 [999] σ0 σ41 := X68.tr (e43.mo (by decide))
    have X70 : ExT p0 [999] σ0 (rTC σ41 p0 4 (ghC σ41 p0)) := X69.tr ((ExT.rT : ExT p0 [] σ41 (rTC σ41 p0 4 (ghC σ41 p0))).mo (by decide))
    exact ⟨rfl, H62, X70, ⟨r44.1, rT_tg, fun q => absurd q (by decide)⟩, ((((rT_gh.trans l48).trans (e31.2.2 p0 r39.1 (r39.nr r18 (by decide))).1.2.2).trans (e17.2.2 p0 r4.1).1.2.2).trans l8), (by omega), (by omega)⟩
theorem lg_X3_init : ∀ (As : List AvC) (σ : CsC), P_X3_init As σ → lgC As ≤ rX3_init.2.2.1 := by
  rintro As σ ⟨p0, p1, rfl, -⟩
  exact Nat.le_of_ble_eq_true rfl
theorem m_X3_init (l : Launch) : CMetC l 2 48 P_X3_init Q_X3_init :=
  CMetC.of KX3_init [(19, P_X2_init, Q_X2_init)] hX3_init (by decide) (by decide) okX3_init (cc1C (m_X2_init l) (by decide) cc0C) (lg_X3_init) (b_X3_init)

abbrev P_X0_init : CpC := fun As σ => ∃ (p0 : Nat) (p1 : Nat), As = [.inr (.inr (some p0)), .inr (.inr (some p1))] ∧ HIC σ ∧ RawC σ p0 1 ∧ ZrC σ p0 ∧ TyC σ p1 7 ∧ cnC σ + 5 ≤ cpC σ ∧ slC σ + 4021 ≤ spC σ
abbrev Q_X0_init : CqC := fun As σ w τ => match As with
  | [.inr (.inr (some p0)), .inr (.inr (some p1))] => w = none ∧ HIC τ ∧ ExT p0 [999] σ τ ∧ TyC τ p0 1 ∧ ghC τ p0 = ghC σ p0 ∧ cnC τ = cnC σ + 5 ∧ slC τ = slC σ + 4021
  | _ => False
set_option maxRecDepth 100000 in
set_option maxHeartbeats 4000000 in
theorem b_X0_init : TbC KX0_init [(178, P_X8_init, Q_X8_init)] P_X0_init Q_X0_init := by
  · rintro As σ0 ⟨p0, p1, rfl, H0, h_0_0, h_0_1, h_1_0, rm_0, rm_1⟩ hgr G hB hW
    change G 0 [(0, .inr (.inr (some p0))), (1, .inr (.inr (some p1)))] [] σ0
    refine hB _ _ _ _ (kgoC (is := KX0_init_0) rfl ?_)
    refine k_aload_n rfl ?_
    refine k_obj (Nat.le_of_ble_eq_true rfl) ?_
    refine k_aload_n rfl ?_
    refine k_sipush (m := 1000) rfl (fun x1 h2 => ?_)
    refine k_newarray (t := 100) (g := 0) (n := 1000) H0 (by decide) rfl (by omega) (by decide) (by omega) (by omega) (fun a3 σ4 q5 H6 e7 t8 l9 l10 u11 u12 => ?_)
    have u13 : cpC σ4 = cpC σ0 := congrArg Prod.fst e7.2.1.1
    have u14 : spC σ4 = spC σ0 := congrArg Prod.snd e7.2.1.1
    have r15 := h_0_0.x e7
    refine k_putRW (c := 1) H6 r15 rfl fk30 (fun σ16 H17 e18 r19 c20 f21 f22 l23 => ?_)
    have u24 : cpC σ16 = cpC σ4 := congrArg Prod.fst e18.2.1.1
    have u25 : spC σ16 = spC σ4 := congrArg Prod.snd e18.2.1.1
    have u26 : cnC σ16 = cnC σ4 := congrArg (fun z => z.1.1) (e18.2.1.2.1 (by decide))
    have u27 : slC σ16 = slC σ4 := congrArg (fun z => z.1.2) (e18.2.1.2.1 (by decide))
    refine k_aload_n rfl ?_
    refine k_sipush (m := 1000) rfl (fun x28 h29 => ?_)
    refine k_newarray (t := 100) (g := 0) (n := 1000) H17 (by decide) rfl (by omega) (by decide) (by omega) (by omega) (fun a30 σ31 q32 H33 e34 t35 l36 l37 u38 u39 => ?_)
    have u40 : cpC σ31 = cpC σ16 := congrArg Prod.fst e34.2.1.1
    have u41 : spC σ31 = spC σ16 := congrArg Prod.snd e34.2.1.1
    have r42 := r19.x e34
    refine k_putRW (c := 1) H33 r42 rfl fk31 (fun σ43 H44 e45 r46 c47 f48 f49 l50 => ?_)
    have u51 : cpC σ43 = cpC σ31 := congrArg Prod.fst e45.2.1.1
    have u52 : spC σ43 = spC σ31 := congrArg Prod.snd e45.2.1.1
    have u53 : cnC σ43 = cnC σ31 := congrArg (fun z => z.1.1) (e45.2.1.2.1 (by decide))
    have u54 : slC σ43 = slC σ31 := congrArg (fun z => z.1.2) (e45.2.1.2.1 (by decide))
    refine k_aload_n rfl ?_
    refine k_sipush (m := 1000) rfl (fun x55 h56 => ?_)
    refine k_anewarray (t := 104) (g := 0) (n := 1000) H44 (by decide) rfl (by omega) (by decide) (by omega) (by omega) (fun a57 σ58 q59 H60 e61 t62 l63 l64 u65 u66 => ?_)
    have u67 : cpC σ58 = cpC σ43 := congrArg Prod.fst e61.2.1.1
    have u68 : spC σ58 = spC σ43 := congrArg Prod.snd e61.2.1.1
    have r69 := r46.x e61
    refine k_putRW (c := 1) H60 r69 rfl fk32 (fun σ70 H71 e72 r73 c74 f75 f76 l77 => ?_)
    have u78 : cpC σ70 = cpC σ58 := congrArg Prod.fst e72.2.1.1
    have u79 : spC σ70 = spC σ58 := congrArg Prod.snd e72.2.1.1
    have u80 : cnC σ70 = cnC σ58 := congrArg (fun z => z.1.1) (e72.2.1.2.1 (by decide))
    have u81 : slC σ70 = slC σ58 := congrArg (fun z => z.1.2) (e72.2.1.2.1 (by decide))
    refine k_aload_n rfl ?_
    refine k_sipush (m := 1000) rfl (fun x82 h83 => ?_)
    refine k_anewarray (t := 105) (g := 0) (n := 1000) H71 (by decide) rfl (by omega) (by decide) (by omega) (by omega) (fun a84 σ85 q86 H87 e88 t89 l90 l91 u92 u93 => ?_)
    have u94 : cpC σ85 = cpC σ70 := congrArg Prod.fst e88.2.1.1
    have u95 : spC σ85 = spC σ70 := congrArg Prod.snd e88.2.1.1
    have r96 := r73.x e88
    refine k_putRW (c := 1) H87 r96 rfl fk33 (fun σ97 H98 e99 r100 c101 f102 f103 l104 => ?_)
    have u105 : cpC σ97 = cpC σ85 := congrArg Prod.fst e99.2.1.1
    have u106 : spC σ97 = spC σ85 := congrArg Prod.snd e99.2.1.1
    have u107 : cnC σ97 = cnC σ85 := congrArg (fun z => z.1.1) (e99.2.1.2.1 (by decide))
    have u108 : slC σ97 = slC σ85 := congrArg (fun z => z.1.2) (e99.2.1.2.1 (by decide))
    refine k_aload_n rfl ?_
    refine k_new (c := 9) (g := 0) H98 (by decide) rfl (by omega) (by have hn : nfC 9 = 21 := rfl; omega) (fun a109 σ110 q111 H112 e113 r114 z115 l116 u117 u118 => ?_)
    rw [show nfC 9 = 21 from rfl] at u118
    have u119 : cpC σ110 = cpC σ97 := congrArg Prod.fst e113.2.1.1
    have u120 : spC σ110 = spC σ97 := congrArg Prod.snd e113.2.1.1
    refine k_dupR ?_
    refine k_bipush (m := 92) rfl (fun x121 h122 => ?_)
    refine k_iconst (m := 0) rfl (fun x123 h124 => ?_)
    refine k_iconst (m := 0) rfl (fun x125 h126 => ?_)
    refine k_aconst_null ?_
    refine k_lconst ?_
    refine k_spec (P := P_X8_init) (Q := Q_X8_init) rfl rfl rfl rfl (Nat.le_of_ble_eq_true rfl) ⟨_, _, _, _, none, _, rfl, H112, r114, z115, (by omega), (by omega), (by omega), (by omega), OtC.n, (by omega), (by omega), (by omega), (fun b hb => by cases hb)⟩ (fun w127 σ128 q129 => ?_)
    obtain ⟨rfl, H130, e131, t132, l133, u134, u135, g136, q138, q139⟩ := q129
    have u140 : cpC σ128 = cpC σ110 := congrArg Prod.fst e131.2.1.1
    have u141 : spC σ128 = spC σ110 := congrArg Prod.snd e131.2.1.1
    have u142 : cnC σ128 = cnC σ110 := congrArg (fun z => z.1.1) (e131.2.1.2.1 (by decide))
    have u143 : slC σ128 = slC σ110 := congrArg (fun z => z.1.2) (e131.2.1.2.1 (by decide))
    have l137 := l133.trans l116
    refine k_st (st' := [.inr (.inr (some a109)), .inr (.inr (some p0))]) rfl ?_
    have r144 := r100.x e113
    have r145 := r144.xt (r144.nr r114 (by decide)) e131
    refine k_putRW (c := 1) H130 r145 rfl fk36 (fun σ146 H147 e148 r149 c150 f151 f152 l153 => ?_)
    have u154 : cpC σ146 = cpC σ128 := congrArg Prod.fst e148.2.1.1
    have u155 : spC σ146 = spC σ128 := congrArg Prod.snd e148.2.1.1
    have u156 : cnC σ146 = cnC σ128 := congrArg (fun z => z.1.1) (e148.2.1.2.1 (by decide))
    have u157 : slC σ146 = slC σ128 := congrArg (fun z => z.1.2) (e148.2.1.2.1 (by decide))
    refine k_aload_n rfl ?_
    refine k_aload_n rfl ?_
    refine k_putRW (c := 1) H147 r149 rfl fk35 (fun σ158 H159 e160 r161 c162 f163 f164 l165 => ?_)
    have u166 : cpC σ158 = cpC σ146 := congrArg Prod.fst e160.2.1.1
    have u167 : spC σ158 = spC σ146 := congrArg Prod.snd e160.2.1.1
    have u168 : cnC σ158 = cnC σ146 := congrArg (fun z => z.1.1) (e160.2.1.2.1 (by decide))
    have u169 : slC σ158 = slC σ146 := congrArg (fun z => z.1.2) (e160.2.1.2.1 (by decide))
    have c170 := (r19.mr e34 (by decide)).trans c20
    have c171 := (f49 30 (by decide)).trans c170
    have c172 := (r46.mr e61 (by decide)).trans c171
    have c173 := (f76 30 (by decide)).trans c172
    have c174 := (r73.mr e88 (by decide)).trans c173
    have c175 := (f103 30 (by decide)).trans c174
    have c176 := (r100.mr e113 (by decide)).trans c175
    have c177 := (r144.mrt (r144.nr r114 (by decide)) e131 (by decide)).trans c176
    have c178 := (f152 30 (by decide)).trans c177
    have c179 := (f164 30 (by decide)).trans c178
    have t181 := t8.xt r15 (by decide) e18
    have t182 := t181.x e34
    have t183 := t182.xt r42 (by decide) e45
    have t184 := t183.x e61
    have t185 := t184.xt r69 (by decide) e72
    have t186 := t185.x e88
    have t187 := t186.xt r96 (by decide) e99
    have t188 := t187.x e113
    have t189 := t188.xt r114 (by decide) e131
    have t190 := t189.xt r145 (by decide) e148
    have t191 := t190.xt r149 (by decide) e160
    have l192 := (t8.alt r15 (by decide) e18).trans l9
    have l193 := (t181.al e34).trans l192
    have l194 := (t182.alt r42 (by decide) e45).trans l193
    have l195 := (t183.al e61).trans l194
    have l196 := (t184.alt r69 (by decide) e72).trans l195
    have l197 := (t185.al e88).trans l196
    have l198 := (t186.alt r96 (by decide) e99).trans l197
    have l199 := (t187.al e113).trans l198
    have l200 := (t188.alt r114 (by decide) e131).trans l199
    have l201 := (t189.alt r145 (by decide) e148).trans l200
    have l202 := (t190.alt r149 (by decide) e160).trans l201
    have l203 := (t8.ght r15 (by decide) e18).trans l10
    have l204 := (t181.gh e34).trans l203
    have l205 := (t182.ght r42 (by decide) e45).trans l204
    have l206 := (t183.gh e61).trans l205
    have l207 := (t184.ght r69 (by decide) e72).trans l206
    have l208 := (t185.gh e88).trans l207
    have l209 := (t186.ght r96 (by decide) e99).trans l208
    have l210 := (t187.gh e113).trans l209
    have l211 := (t188.ght r114 (by decide) e131).trans l210
    have l212 := (t189.ght r145 (by decide) e148).trans l211
    have l213 := (t190.ght r149 (by decide) e160).trans l212
    have F180 : RfC σ158 p0 30 (fRC σ158 p0 30) := by rw [c179]; exact Or.inr ⟨t191, Or.inr l202, Or.inr l213, fun z => absurd z (by decide), fun z => absurd z (by decide)⟩
    have c214 := (r46.mr e61 (by decide)).trans c47
    have c215 := (f76 31 (by decide)).trans c214
    have c216 := (r73.mr e88 (by decide)).trans c215
    have c217 := (f103 31 (by decide)).trans c216
    have c218 := (r100.mr e113 (by decide)).trans c217
    have c219 := (r144.mrt (r144.nr r114 (by decide)) e131 (by decide)).trans c218
    have c220 := (f152 31 (by decide)).trans c219
    have c221 := (f164 31 (by decide)).trans c220
    have t223 := t35.xt r42 (by decide) e45
    have t224 := t223.x e61
    have t225 := t224.xt r69 (by decide) e72
    have t226 := t225.x e88
    have t227 := t226.xt r96 (by decide) e99
    have t228 := t227.x e113
    have t229 := t228.xt r114 (by decide) e131
    have t230 := t229.xt r145 (by decide) e148
    have t231 := t230.xt r149 (by decide) e160
    have l232 := (t35.alt r42 (by decide) e45).trans l36
    have l233 := (t223.al e61).trans l232
    have l234 := (t224.alt r69 (by decide) e72).trans l233
    have l235 := (t225.al e88).trans l234
    have l236 := (t226.alt r96 (by decide) e99).trans l235
    have l237 := (t227.al e113).trans l236
    have l238 := (t228.alt r114 (by decide) e131).trans l237
    have l239 := (t229.alt r145 (by decide) e148).trans l238
    have l240 := (t230.alt r149 (by decide) e160).trans l239
    have l241 := (t35.ght r42 (by decide) e45).trans l37
    have l242 := (t223.gh e61).trans l241
    have l243 := (t224.ght r69 (by decide) e72).trans l242
    have l244 := (t225.gh e88).trans l243
    have l245 := (t226.ght r96 (by decide) e99).trans l244
    have l246 := (t227.gh e113).trans l245
    have l247 := (t228.ght r114 (by decide) e131).trans l246
    have l248 := (t229.ght r145 (by decide) e148).trans l247
    have l249 := (t230.ght r149 (by decide) e160).trans l248
    have F222 : RfC σ158 p0 31 (fRC σ158 p0 31) := by rw [c221]; exact Or.inr ⟨t231, Or.inr l240, Or.inr l249, fun z => absurd z (by decide), fun z => absurd z (by decide)⟩
    have c250 := (r73.mr e88 (by decide)).trans c74
    have c251 := (f103 32 (by decide)).trans c250
    have c252 := (r100.mr e113 (by decide)).trans c251
    have c253 := (r144.mrt (r144.nr r114 (by decide)) e131 (by decide)).trans c252
    have c254 := (f152 32 (by decide)).trans c253
    have c255 := (f164 32 (by decide)).trans c254
    have t257 := t62.xt r69 (by decide) e72
    have t258 := t257.x e88
    have t259 := t258.xt r96 (by decide) e99
    have t260 := t259.x e113
    have t261 := t260.xt r114 (by decide) e131
    have t262 := t261.xt r145 (by decide) e148
    have t263 := t262.xt r149 (by decide) e160
    have l264 := (t62.alt r69 (by decide) e72).trans l63
    have l265 := (t257.al e88).trans l264
    have l266 := (t258.alt r96 (by decide) e99).trans l265
    have l267 := (t259.al e113).trans l266
    have l268 := (t260.alt r114 (by decide) e131).trans l267
    have l269 := (t261.alt r145 (by decide) e148).trans l268
    have l270 := (t262.alt r149 (by decide) e160).trans l269
    have F256 : RfC σ158 p0 32 (fRC σ158 p0 32) := by rw [c255]; exact Or.inr ⟨t263, Or.inr l270, Or.inl rfl, fun z => absurd z (by decide), fun z => absurd z (by decide)⟩
    have c271 := (r100.mr e113 (by decide)).trans c101
    have c272 := (r144.mrt (r144.nr r114 (by decide)) e131 (by decide)).trans c271
    have c273 := (f152 33 (by decide)).trans c272
    have c274 := (f164 33 (by decide)).trans c273
    have t276 := t89.xt r96 (by decide) e99
    have t277 := t276.x e113
    have t278 := t277.xt r114 (by decide) e131
    have t279 := t278.xt r145 (by decide) e148
    have t280 := t279.xt r149 (by decide) e160
    have l281 := (t89.alt r96 (by decide) e99).trans l90
    have l282 := (t276.al e113).trans l281
    have l283 := (t277.alt r114 (by decide) e131).trans l282
    have l284 := (t278.alt r145 (by decide) e148).trans l283
    have l285 := (t279.alt r149 (by decide) e160).trans l284
    have F275 : RfC σ158 p0 33 (fRC σ158 p0 33) := by rw [c274]; exact Or.inr ⟨t280, Or.inr l285, Or.inl rfl, fun z => absurd z (by decide), fun z => absurd z (by decide)⟩
    have c286 := (h_0_0.mi e7 (by decide)).trans (h_0_1 34).1
    have c287 := (f21 34).trans c286
    have c288 := (r19.mi e34 (by decide)).trans c287
    have c289 := (f48 34).trans c288
    have c290 := (r46.mi e61 (by decide)).trans c289
    have c291 := (f75 34).trans c290
    have c292 := (r73.mi e88 (by decide)).trans c291
    have c293 := (f102 34).trans c292
    have c294 := (r100.mi e113 (by decide)).trans c293
    have c295 := (r144.mit (r144.nr r114 (by decide)) e131 (by decide)).trans c294
    have c296 := (f151 34).trans c295
    have c297 := (f163 34).trans c296
    have F298 : IvC 34 (fIC σ158 p0 34) := by rw [c297]; exact ⟨by show (0 : Int) ≤ _; decide, by show _ ≤ (1000 : Int); decide⟩
    have t300 := h_1_0.x e7
    have t301 := t300.xt r15 (by decide) e18
    have t302 := t301.x e34
    have t303 := t302.xt r42 (by decide) e45
    have t304 := t303.x e61
    have t305 := t304.xt r69 (by decide) e72
    have t306 := t305.x e88
    have t307 := t306.xt r96 (by decide) e99
    have t308 := t307.x e113
    have t309 := t308.xt r114 (by decide) e131
    have t310 := t309.xt r145 (by decide) e148
    have t311 := t310.xt r149 (by decide) e160
    have F299 : RfC σ158 p0 35 (fRC σ158 p0 35) := by rw [c162]; exact Or.inr ⟨t311, Or.inl rfl, Or.inl rfl, fun z => absurd z (by decide), fun z => absurd z (by decide)⟩
    have c312 := (f164 36 (by decide)).trans c150
    have t314 := t132.xt r145 (by decide) e148
    have t315 := t314.xt r149 (by decide) e160
    have F313 : RfC σ158 p0 36 (fRC σ158 p0 36) := by rw [c312]; exact Or.inr ⟨t315, Or.inl rfl, Or.inl rfl, fun z => absurd z (by decide), fun z => absurd z (by decide)⟩
    have X316 : XaC (rTC σ158 p0 1 (ghC σ158 p0)) p0 := XaC.no rT_tg (by decide)
    have H317 : HIC (rTC σ158 p0 1 (ghC σ158 p0)) := HIC.fin H159 r161 rfl (fn1 F180 F222 F256 F275 F298 F299 F313) X316 (fun z => absurd z (by decide))
    have u318 : cnC (rTC σ158 p0 1 (ghC σ158 p0)) = cnC σ158 := rfl
    have u319 : slC (rTC σ158 p0 1 (ghC σ158 p0)) = slC σ158 := rfl
    refine k_returnW (r161.we (g := ghC σ158 p0)) ?_
    have X320 : ExC [999] σ97 σ110 := ExC.rf.tr (e113.mo (by decide))
    have X321 : ExC [999] σ97 σ128 := (X320 : ExC [999] σ97 σ110).nt (Nat.le_of_eq q111.symm) (e131.mo (by decide))
    have X322 : ExT p0 [999] σ0 σ4 := (ExC.rf).t.tr (e7.mo (by decide)).t
    have X323 : ExT p0 [999] σ0 σ16 := X322.tr (e18.mo (by decide))
    have X324 : ExT p0 [999] σ0 σ31 := X323.tr (e34.mo (by decide)).t
    have X325 : ExT p0 [999] σ0 σ43 := X324.tr (e45.mo (by decide))
    have X326 : ExT p0 [999] σ0 σ58 := X325.tr (e61.mo (by decide)).t
    have X327 : ExT p0 [999] σ0 σ70 := X326.tr (e72.mo (by decide))
    have X328 : ExT p0 [999] σ0 σ85 := X327.tr (e88.mo (by decide)).t
    have X329 : ExT p0 [999] σ0 σ97 := X328.tr (e99.mo (by decide))
    have X330 : ExT p0 [999] σ0 σ128 := X329.tr X321.t
    have X331 : ExT p0 [999] σ0 σ146 := X330.tr (e148.mo (by decide))
    have X332 : ExT p0 [999] σ0 σ158 := X331.tr (e160.mo (by decide))
    have X333 : ExT p0 [999] σ0 (rTC σ158 p0 1 (ghC σ158 p0)) := X332.tr ((ExT.rT : ExT p0 [] σ158 (rTC σ158 p0 1 (ghC σ158 p0))).mo (by decide))
    exact ⟨rfl, H317, X333, ⟨r161.1, rT_tg, fun q => absurd q (by decide)⟩, ((((((((((((rT_gh.trans l165).trans l153).trans (e131.2.2 p0 r144.1 (r144.nr r114 (by decide))).1.2.2).trans (e113.2.2 p0 r100.1).1.2.2).trans l104).trans (e88.2.2 p0 r73.1).1.2.2).trans l77).trans (e61.2.2 p0 r46.1).1.2.2).trans l50).trans (e34.2.2 p0 r19.1).1.2.2).trans l23).trans (e7.2.2 p0 h_0_0.1).1.2.2), (by omega), (by omega)⟩
theorem lg_X0_init : ∀ (As : List AvC) (σ : CsC), P_X0_init As σ → lgC As ≤ rX0_init.2.2.1 := by
  rintro As σ ⟨p0, p1, rfl, -⟩
  exact Nat.le_of_ble_eq_true rfl
theorem m_X0_init (l : Launch) : CMetC l 2 0 P_X0_init Q_X0_init :=
  CMetC.of KX0_init [(178, P_X8_init, Q_X8_init)] hX0_init (by decide) (by decide) okX0_init (cc1C (m_X8_init l) (by decide) cc0C) (lg_X0_init) (b_X0_init)

abbrev P_X4_init : CpC := fun As σ => ∃ (p0 : Nat) (p1 : Nat), As = [.inr (.inr (some p0)), .inr (.inr (some p1))] ∧ HIC σ ∧ RawC σ p0 5 ∧ ZrC σ p0 ∧ TyC σ p1 1 ∧ cnC σ + 9 ≤ cpC σ ∧ slC σ + 11452 ≤ spC σ
abbrev Q_X4_init : CqC := fun As σ w τ => match As with
  | [.inr (.inr (some p0)), .inr (.inr (some p1))] => w = none ∧ HIC τ ∧ ExT p0 [999] σ τ ∧ TyC τ p0 5 ∧ ghC τ p0 = ghC σ p0 ∧ cnC τ = cnC σ + 9 ∧ slC τ = slC σ + 11452
  | _ => False
set_option maxRecDepth 100000 in
set_option maxHeartbeats 4000000 in
theorem b_X4_init : TbC KX4_init [] P_X4_init Q_X4_init := by
  · rintro As σ0 ⟨p0, p1, rfl, H0, h_0_0, h_0_1, h_1_0, rm_0, rm_1⟩ hgr G hB hW
    change G 0 [(0, .inr (.inr (some p0))), (1, .inr (.inr (some p1)))] [] σ0
    refine hB _ _ _ _ (kgoC (is := KX4_init_0) rfl ?_)
    refine k_aload_n rfl ?_
    refine k_obj (Nat.le_of_ble_eq_true rfl) ?_
    refine k_aload_n rfl ?_
    refine k_sipush (m := 1800) rfl (fun x1 h2 => ?_)
    refine k_newarray (t := 102) (g := 0) (n := 1800) H0 (by decide) rfl (by omega) (by decide) (by omega) (by omega) (fun a3 σ4 q5 H6 e7 t8 l9 l10 u11 u12 => ?_)
    have u13 : cpC σ4 = cpC σ0 := congrArg Prod.fst e7.2.1.1
    have u14 : spC σ4 = spC σ0 := congrArg Prod.snd e7.2.1.1
    have r15 := h_0_0.x e7
    refine k_putRW (c := 5) H6 r15 rfl fk150 (fun σ16 H17 e18 r19 c20 f21 f22 l23 => ?_)
    have u24 : cpC σ16 = cpC σ4 := congrArg Prod.fst e18.2.1.1
    have u25 : spC σ16 = spC σ4 := congrArg Prod.snd e18.2.1.1
    have u26 : cnC σ16 = cnC σ4 := congrArg (fun z => z.1.1) (e18.2.1.2.1 (by decide))
    have u27 : slC σ16 = slC σ4 := congrArg (fun z => z.1.2) (e18.2.1.2.1 (by decide))
    refine k_aload_n rfl ?_
    refine k_sipush (m := 7500) rfl (fun x28 h29 => ?_)
    refine k_newarray (t := 102) (g := 0) (n := 7500) H17 (by decide) rfl (by omega) (by decide) (by omega) (by omega) (fun a30 σ31 q32 H33 e34 t35 l36 l37 u38 u39 => ?_)
    have u40 : cpC σ31 = cpC σ16 := congrArg Prod.fst e34.2.1.1
    have u41 : spC σ31 = spC σ16 := congrArg Prod.snd e34.2.1.1
    have r42 := r19.x e34
    refine k_putRW (c := 5) H33 r42 rfl fk151 (fun σ43 H44 e45 r46 c47 f48 f49 l50 => ?_)
    have u51 : cpC σ43 = cpC σ31 := congrArg Prod.fst e45.2.1.1
    have u52 : spC σ43 = spC σ31 := congrArg Prod.snd e45.2.1.1
    have u53 : cnC σ43 = cnC σ31 := congrArg (fun z => z.1.1) (e45.2.1.2.1 (by decide))
    have u54 : slC σ43 = slC σ31 := congrArg (fun z => z.1.2) (e45.2.1.2.1 (by decide))
    refine k_aload_n rfl ?_
    refine k_bipush (m := 31) rfl (fun x55 h56 => ?_)
    refine k_newarray (t := 100) (g := 1) (n := 31) H44 (by decide) rfl (by omega) (by decide) (by omega) (by omega) (fun a57 σ58 q59 H60 e61 t62 l63 l64 u65 u66 => ?_)
    have u67 : cpC σ58 = cpC σ43 := congrArg Prod.fst e61.2.1.1
    have u68 : spC σ58 = spC σ43 := congrArg Prod.snd e61.2.1.1
    have r69 := r46.x e61
    refine k_putRW (c := 5) H60 r69 rfl fk152 (fun σ70 H71 e72 r73 c74 f75 f76 l77 => ?_)
    have u78 : cpC σ70 = cpC σ58 := congrArg Prod.fst e72.2.1.1
    have u79 : spC σ70 = spC σ58 := congrArg Prod.snd e72.2.1.1
    have u80 : cnC σ70 = cnC σ58 := congrArg (fun z => z.1.1) (e72.2.1.2.1 (by decide))
    have u81 : slC σ70 = slC σ58 := congrArg (fun z => z.1.2) (e72.2.1.2.1 (by decide))
    refine k_aload_n rfl ?_
    refine k_bipush (m := 31) rfl (fun x82 h83 => ?_)
    refine k_newarray (t := 100) (g := 0) (n := 31) H71 (by decide) rfl (by omega) (by decide) (by omega) (by omega) (fun a84 σ85 q86 H87 e88 t89 l90 l91 u92 u93 => ?_)
    have u94 : cpC σ85 = cpC σ70 := congrArg Prod.fst e88.2.1.1
    have u95 : spC σ85 = spC σ70 := congrArg Prod.snd e88.2.1.1
    have r96 := r73.x e88
    refine k_putRW (c := 5) H87 r96 rfl fk153 (fun σ97 H98 e99 r100 c101 f102 f103 l104 => ?_)
    have u105 : cpC σ97 = cpC σ85 := congrArg Prod.fst e99.2.1.1
    have u106 : spC σ97 = spC σ85 := congrArg Prod.snd e99.2.1.1
    have u107 : cnC σ97 = cnC σ85 := congrArg (fun z => z.1.1) (e99.2.1.2.1 (by decide))
    have u108 : slC σ97 = slC σ85 := congrArg (fun z => z.1.2) (e99.2.1.2.1 (by decide))
    refine k_aload_n rfl ?_
    refine k_sipush (m := 630) rfl (fun x109 h110 => ?_)
    refine k_newarray (t := 100) (g := 0) (n := 630) H98 (by decide) rfl (by omega) (by decide) (by omega) (by omega) (fun a111 σ112 q113 H114 e115 t116 l117 l118 u119 u120 => ?_)
    have u121 : cpC σ112 = cpC σ97 := congrArg Prod.fst e115.2.1.1
    have u122 : spC σ112 = spC σ97 := congrArg Prod.snd e115.2.1.1
    have r123 := r100.x e115
    refine k_putRW (c := 5) H114 r123 rfl fk154 (fun σ124 H125 e126 r127 c128 f129 f130 l131 => ?_)
    have u132 : cpC σ124 = cpC σ112 := congrArg Prod.fst e126.2.1.1
    have u133 : spC σ124 = spC σ112 := congrArg Prod.snd e126.2.1.1
    have u134 : cnC σ124 = cnC σ112 := congrArg (fun z => z.1.1) (e126.2.1.2.1 (by decide))
    have u135 : slC σ124 = slC σ112 := congrArg (fun z => z.1.2) (e126.2.1.2.1 (by decide))
    refine k_aload_n rfl ?_
    refine k_sipush (m := 630) rfl (fun x136 h137 => ?_)
    refine k_newarray (t := 102) (g := 0) (n := 630) H125 (by decide) rfl (by omega) (by decide) (by omega) (by omega) (fun a138 σ139 q140 H141 e142 t143 l144 l145 u146 u147 => ?_)
    have u148 : cpC σ139 = cpC σ124 := congrArg Prod.fst e142.2.1.1
    have u149 : spC σ139 = spC σ124 := congrArg Prod.snd e142.2.1.1
    have r150 := r127.x e142
    refine k_putRW (c := 5) H141 r150 rfl fk155 (fun σ151 H152 e153 r154 c155 f156 f157 l158 => ?_)
    have u159 : cpC σ151 = cpC σ139 := congrArg Prod.fst e153.2.1.1
    have u160 : spC σ151 = spC σ139 := congrArg Prod.snd e153.2.1.1
    have u161 : cnC σ151 = cnC σ139 := congrArg (fun z => z.1.1) (e153.2.1.2.1 (by decide))
    have u162 : slC σ151 = slC σ139 := congrArg (fun z => z.1.2) (e153.2.1.2.1 (by decide))
    refine k_aload_n rfl ?_
    refine k_sipush (m := 630) rfl (fun x163 h164 => ?_)
    refine k_anewarray (t := 105) (g := 0) (n := 630) H152 (by decide) rfl (by omega) (by decide) (by omega) (by omega) (fun a165 σ166 q167 H168 e169 t170 l171 l172 u173 u174 => ?_)
    have u175 : cpC σ166 = cpC σ151 := congrArg Prod.fst e169.2.1.1
    have u176 : spC σ166 = spC σ151 := congrArg Prod.snd e169.2.1.1
    have r177 := r154.x e169
    refine k_putRW (c := 5) H168 r177 rfl fk156 (fun σ178 H179 e180 r181 c182 f183 f184 l185 => ?_)
    have u186 : cpC σ178 = cpC σ166 := congrArg Prod.fst e180.2.1.1
    have u187 : spC σ178 = spC σ166 := congrArg Prod.snd e180.2.1.1
    have u188 : cnC σ178 = cnC σ166 := congrArg (fun z => z.1.1) (e180.2.1.2.1 (by decide))
    have u189 : slC σ178 = slC σ166 := congrArg (fun z => z.1.2) (e180.2.1.2.1 (by decide))
    refine k_aload_n rfl ?_
    refine k_sipush (m := 200) rfl (fun x190 h191 => ?_)
    refine k_newarray (t := 102) (g := 0) (n := 200) H179 (by decide) rfl (by omega) (by decide) (by omega) (by omega) (fun a192 σ193 q194 H195 e196 t197 l198 l199 u200 u201 => ?_)
    have u202 : cpC σ193 = cpC σ178 := congrArg Prod.fst e196.2.1.1
    have u203 : spC σ193 = spC σ178 := congrArg Prod.snd e196.2.1.1
    have r204 := r181.x e196
    refine k_putRW (c := 5) H195 r204 rfl fk157 (fun σ205 H206 e207 r208 c209 f210 f211 l212 => ?_)
    have u213 : cpC σ205 = cpC σ193 := congrArg Prod.fst e207.2.1.1
    have u214 : spC σ205 = spC σ193 := congrArg Prod.snd e207.2.1.1
    have u215 : cnC σ205 = cnC σ193 := congrArg (fun z => z.1.1) (e207.2.1.2.1 (by decide))
    have u216 : slC σ205 = slC σ193 := congrArg (fun z => z.1.2) (e207.2.1.2.1 (by decide))
    refine k_aload_n rfl ?_
    refine k_iconst (m := 0) rfl (fun x217 h218 => ?_)
    refine k_newarray (t := 100) (g := 0) (n := 0) H206 (by decide) rfl (by omega) (by decide) (by omega) (by omega) (fun a219 σ220 q221 H222 e223 t224 l225 l226 u227 u228 => ?_)
    have u229 : cpC σ220 = cpC σ205 := congrArg Prod.fst e223.2.1.1
    have u230 : spC σ220 = spC σ205 := congrArg Prod.snd e223.2.1.1
    have r231 := r208.x e223
    refine k_putRW (c := 5) H222 r231 rfl fk159 (fun σ232 H233 e234 r235 c236 f237 f238 l239 => ?_)
    have u240 : cpC σ232 = cpC σ220 := congrArg Prod.fst e234.2.1.1
    have u241 : spC σ232 = spC σ220 := congrArg Prod.snd e234.2.1.1
    have u242 : cnC σ232 = cnC σ220 := congrArg (fun z => z.1.1) (e234.2.1.2.1 (by decide))
    have u243 : slC σ232 = slC σ220 := congrArg (fun z => z.1.2) (e234.2.1.2.1 (by decide))
    refine k_aload_n rfl ?_
    refine k_aload_n rfl ?_
    refine k_putRW (c := 5) H233 r235 rfl fk158 (fun σ244 H245 e246 r247 c248 f249 f250 l251 => ?_)
    have u252 : cpC σ244 = cpC σ232 := congrArg Prod.fst e246.2.1.1
    have u253 : spC σ244 = spC σ232 := congrArg Prod.snd e246.2.1.1
    have u254 : cnC σ244 = cnC σ232 := congrArg (fun z => z.1.1) (e246.2.1.2.1 (by decide))
    have u255 : slC σ244 = slC σ232 := congrArg (fun z => z.1.2) (e246.2.1.2.1 (by decide))
    have c256 := (r19.mr e34 (by decide)).trans c20
    have c257 := (f49 150 (by decide)).trans c256
    have c258 := (r46.mr e61 (by decide)).trans c257
    have c259 := (f76 150 (by decide)).trans c258
    have c260 := (r73.mr e88 (by decide)).trans c259
    have c261 := (f103 150 (by decide)).trans c260
    have c262 := (r100.mr e115 (by decide)).trans c261
    have c263 := (f130 150 (by decide)).trans c262
    have c264 := (r127.mr e142 (by decide)).trans c263
    have c265 := (f157 150 (by decide)).trans c264
    have c266 := (r154.mr e169 (by decide)).trans c265
    have c267 := (f184 150 (by decide)).trans c266
    have c268 := (r181.mr e196 (by decide)).trans c267
    have c269 := (f211 150 (by decide)).trans c268
    have c270 := (r208.mr e223 (by decide)).trans c269
    have c271 := (f238 150 (by decide)).trans c270
    have c272 := (f250 150 (by decide)).trans c271
    have t274 := t8.xt r15 (by decide) e18
    have t275 := t274.x e34
    have t276 := t275.xt r42 (by decide) e45
    have t277 := t276.x e61
    have t278 := t277.xt r69 (by decide) e72
    have t279 := t278.x e88
    have t280 := t279.xt r96 (by decide) e99
    have t281 := t280.x e115
    have t282 := t281.xt r123 (by decide) e126
    have t283 := t282.x e142
    have t284 := t283.xt r150 (by decide) e153
    have t285 := t284.x e169
    have t286 := t285.xt r177 (by decide) e180
    have t287 := t286.x e196
    have t288 := t287.xt r204 (by decide) e207
    have t289 := t288.x e223
    have t290 := t289.xt r231 (by decide) e234
    have t291 := t290.xt r235 (by decide) e246
    have l292 := (t8.alt r15 (by decide) e18).trans l9
    have l293 := (t274.al e34).trans l292
    have l294 := (t275.alt r42 (by decide) e45).trans l293
    have l295 := (t276.al e61).trans l294
    have l296 := (t277.alt r69 (by decide) e72).trans l295
    have l297 := (t278.al e88).trans l296
    have l298 := (t279.alt r96 (by decide) e99).trans l297
    have l299 := (t280.al e115).trans l298
    have l300 := (t281.alt r123 (by decide) e126).trans l299
    have l301 := (t282.al e142).trans l300
    have l302 := (t283.alt r150 (by decide) e153).trans l301
    have l303 := (t284.al e169).trans l302
    have l304 := (t285.alt r177 (by decide) e180).trans l303
    have l305 := (t286.al e196).trans l304
    have l306 := (t287.alt r204 (by decide) e207).trans l305
    have l307 := (t288.al e223).trans l306
    have l308 := (t289.alt r231 (by decide) e234).trans l307
    have l309 := (t290.alt r235 (by decide) e246).trans l308
    have l310 := (t8.ght r15 (by decide) e18).trans l10
    have l311 := (t274.gh e34).trans l310
    have l312 := (t275.ght r42 (by decide) e45).trans l311
    have l313 := (t276.gh e61).trans l312
    have l314 := (t277.ght r69 (by decide) e72).trans l313
    have l315 := (t278.gh e88).trans l314
    have l316 := (t279.ght r96 (by decide) e99).trans l315
    have l317 := (t280.gh e115).trans l316
    have l318 := (t281.ght r123 (by decide) e126).trans l317
    have l319 := (t282.gh e142).trans l318
    have l320 := (t283.ght r150 (by decide) e153).trans l319
    have l321 := (t284.gh e169).trans l320
    have l322 := (t285.ght r177 (by decide) e180).trans l321
    have l323 := (t286.gh e196).trans l322
    have l324 := (t287.ght r204 (by decide) e207).trans l323
    have l325 := (t288.gh e223).trans l324
    have l326 := (t289.ght r231 (by decide) e234).trans l325
    have l327 := (t290.ght r235 (by decide) e246).trans l326
    have F273 : RfC σ244 p0 150 (fRC σ244 p0 150) := by rw [c272]; exact Or.inr ⟨t291, Or.inr l309, Or.inr l327, fun z => absurd z (by decide), fun z => absurd z (by decide)⟩
    have c328 := (r46.mr e61 (by decide)).trans c47
    have c329 := (f76 151 (by decide)).trans c328
    have c330 := (r73.mr e88 (by decide)).trans c329
    have c331 := (f103 151 (by decide)).trans c330
    have c332 := (r100.mr e115 (by decide)).trans c331
    have c333 := (f130 151 (by decide)).trans c332
    have c334 := (r127.mr e142 (by decide)).trans c333
    have c335 := (f157 151 (by decide)).trans c334
    have c336 := (r154.mr e169 (by decide)).trans c335
    have c337 := (f184 151 (by decide)).trans c336
    have c338 := (r181.mr e196 (by decide)).trans c337
    have c339 := (f211 151 (by decide)).trans c338
    have c340 := (r208.mr e223 (by decide)).trans c339
    have c341 := (f238 151 (by decide)).trans c340
    have c342 := (f250 151 (by decide)).trans c341
    have t344 := t35.xt r42 (by decide) e45
    have t345 := t344.x e61
    have t346 := t345.xt r69 (by decide) e72
    have t347 := t346.x e88
    have t348 := t347.xt r96 (by decide) e99
    have t349 := t348.x e115
    have t350 := t349.xt r123 (by decide) e126
    have t351 := t350.x e142
    have t352 := t351.xt r150 (by decide) e153
    have t353 := t352.x e169
    have t354 := t353.xt r177 (by decide) e180
    have t355 := t354.x e196
    have t356 := t355.xt r204 (by decide) e207
    have t357 := t356.x e223
    have t358 := t357.xt r231 (by decide) e234
    have t359 := t358.xt r235 (by decide) e246
    have l360 := (t35.alt r42 (by decide) e45).trans l36
    have l361 := (t344.al e61).trans l360
    have l362 := (t345.alt r69 (by decide) e72).trans l361
    have l363 := (t346.al e88).trans l362
    have l364 := (t347.alt r96 (by decide) e99).trans l363
    have l365 := (t348.al e115).trans l364
    have l366 := (t349.alt r123 (by decide) e126).trans l365
    have l367 := (t350.al e142).trans l366
    have l368 := (t351.alt r150 (by decide) e153).trans l367
    have l369 := (t352.al e169).trans l368
    have l370 := (t353.alt r177 (by decide) e180).trans l369
    have l371 := (t354.al e196).trans l370
    have l372 := (t355.alt r204 (by decide) e207).trans l371
    have l373 := (t356.al e223).trans l372
    have l374 := (t357.alt r231 (by decide) e234).trans l373
    have l375 := (t358.alt r235 (by decide) e246).trans l374
    have l376 := (t35.ght r42 (by decide) e45).trans l37
    have l377 := (t344.gh e61).trans l376
    have l378 := (t345.ght r69 (by decide) e72).trans l377
    have l379 := (t346.gh e88).trans l378
    have l380 := (t347.ght r96 (by decide) e99).trans l379
    have l381 := (t348.gh e115).trans l380
    have l382 := (t349.ght r123 (by decide) e126).trans l381
    have l383 := (t350.gh e142).trans l382
    have l384 := (t351.ght r150 (by decide) e153).trans l383
    have l385 := (t352.gh e169).trans l384
    have l386 := (t353.ght r177 (by decide) e180).trans l385
    have l387 := (t354.gh e196).trans l386
    have l388 := (t355.ght r204 (by decide) e207).trans l387
    have l389 := (t356.gh e223).trans l388
    have l390 := (t357.ght r231 (by decide) e234).trans l389
    have l391 := (t358.ght r235 (by decide) e246).trans l390
    have F343 : RfC σ244 p0 151 (fRC σ244 p0 151) := by rw [c342]; exact Or.inr ⟨t359, Or.inr l375, Or.inr l391, fun z => absurd z (by decide), fun z => absurd z (by decide)⟩
    have c392 := (r73.mr e88 (by decide)).trans c74
    have c393 := (f103 152 (by decide)).trans c392
    have c394 := (r100.mr e115 (by decide)).trans c393
    have c395 := (f130 152 (by decide)).trans c394
    have c396 := (r127.mr e142 (by decide)).trans c395
    have c397 := (f157 152 (by decide)).trans c396
    have c398 := (r154.mr e169 (by decide)).trans c397
    have c399 := (f184 152 (by decide)).trans c398
    have c400 := (r181.mr e196 (by decide)).trans c399
    have c401 := (f211 152 (by decide)).trans c400
    have c402 := (r208.mr e223 (by decide)).trans c401
    have c403 := (f238 152 (by decide)).trans c402
    have c404 := (f250 152 (by decide)).trans c403
    have t406 := t62.xt r69 (by decide) e72
    have t407 := t406.x e88
    have t408 := t407.xt r96 (by decide) e99
    have t409 := t408.x e115
    have t410 := t409.xt r123 (by decide) e126
    have t411 := t410.x e142
    have t412 := t411.xt r150 (by decide) e153
    have t413 := t412.x e169
    have t414 := t413.xt r177 (by decide) e180
    have t415 := t414.x e196
    have t416 := t415.xt r204 (by decide) e207
    have t417 := t416.x e223
    have t418 := t417.xt r231 (by decide) e234
    have t419 := t418.xt r235 (by decide) e246
    have l420 := (t62.alt r69 (by decide) e72).trans l63
    have l421 := (t406.al e88).trans l420
    have l422 := (t407.alt r96 (by decide) e99).trans l421
    have l423 := (t408.al e115).trans l422
    have l424 := (t409.alt r123 (by decide) e126).trans l423
    have l425 := (t410.al e142).trans l424
    have l426 := (t411.alt r150 (by decide) e153).trans l425
    have l427 := (t412.al e169).trans l426
    have l428 := (t413.alt r177 (by decide) e180).trans l427
    have l429 := (t414.al e196).trans l428
    have l430 := (t415.alt r204 (by decide) e207).trans l429
    have l431 := (t416.al e223).trans l430
    have l432 := (t417.alt r231 (by decide) e234).trans l431
    have l433 := (t418.alt r235 (by decide) e246).trans l432
    have l434 := (t62.ght r69 (by decide) e72).trans l64
    have l435 := (t406.gh e88).trans l434
    have l436 := (t407.ght r96 (by decide) e99).trans l435
    have l437 := (t408.gh e115).trans l436
    have l438 := (t409.ght r123 (by decide) e126).trans l437
    have l439 := (t410.gh e142).trans l438
    have l440 := (t411.ght r150 (by decide) e153).trans l439
    have l441 := (t412.gh e169).trans l440
    have l442 := (t413.ght r177 (by decide) e180).trans l441
    have l443 := (t414.gh e196).trans l442
    have l444 := (t415.ght r204 (by decide) e207).trans l443
    have l445 := (t416.gh e223).trans l444
    have l446 := (t417.ght r231 (by decide) e234).trans l445
    have l447 := (t418.ght r235 (by decide) e246).trans l446
    have F405 : RfC σ244 p0 152 (fRC σ244 p0 152) := by rw [c404]; exact Or.inr ⟨t419, Or.inr l433, Or.inr l447, fun z => absurd z (by decide), fun z => absurd z (by decide)⟩
    have c448 := (r100.mr e115 (by decide)).trans c101
    have c449 := (f130 153 (by decide)).trans c448
    have c450 := (r127.mr e142 (by decide)).trans c449
    have c451 := (f157 153 (by decide)).trans c450
    have c452 := (r154.mr e169 (by decide)).trans c451
    have c453 := (f184 153 (by decide)).trans c452
    have c454 := (r181.mr e196 (by decide)).trans c453
    have c455 := (f211 153 (by decide)).trans c454
    have c456 := (r208.mr e223 (by decide)).trans c455
    have c457 := (f238 153 (by decide)).trans c456
    have c458 := (f250 153 (by decide)).trans c457
    have t460 := t89.xt r96 (by decide) e99
    have t461 := t460.x e115
    have t462 := t461.xt r123 (by decide) e126
    have t463 := t462.x e142
    have t464 := t463.xt r150 (by decide) e153
    have t465 := t464.x e169
    have t466 := t465.xt r177 (by decide) e180
    have t467 := t466.x e196
    have t468 := t467.xt r204 (by decide) e207
    have t469 := t468.x e223
    have t470 := t469.xt r231 (by decide) e234
    have t471 := t470.xt r235 (by decide) e246
    have l472 := (t89.alt r96 (by decide) e99).trans l90
    have l473 := (t460.al e115).trans l472
    have l474 := (t461.alt r123 (by decide) e126).trans l473
    have l475 := (t462.al e142).trans l474
    have l476 := (t463.alt r150 (by decide) e153).trans l475
    have l477 := (t464.al e169).trans l476
    have l478 := (t465.alt r177 (by decide) e180).trans l477
    have l479 := (t466.al e196).trans l478
    have l480 := (t467.alt r204 (by decide) e207).trans l479
    have l481 := (t468.al e223).trans l480
    have l482 := (t469.alt r231 (by decide) e234).trans l481
    have l483 := (t470.alt r235 (by decide) e246).trans l482
    have l484 := (t89.ght r96 (by decide) e99).trans l91
    have l485 := (t460.gh e115).trans l484
    have l486 := (t461.ght r123 (by decide) e126).trans l485
    have l487 := (t462.gh e142).trans l486
    have l488 := (t463.ght r150 (by decide) e153).trans l487
    have l489 := (t464.gh e169).trans l488
    have l490 := (t465.ght r177 (by decide) e180).trans l489
    have l491 := (t466.gh e196).trans l490
    have l492 := (t467.ght r204 (by decide) e207).trans l491
    have l493 := (t468.gh e223).trans l492
    have l494 := (t469.ght r231 (by decide) e234).trans l493
    have l495 := (t470.ght r235 (by decide) e246).trans l494
    have F459 : RfC σ244 p0 153 (fRC σ244 p0 153) := by rw [c458]; exact Or.inr ⟨t471, Or.inr l483, Or.inr l495, fun z => absurd z (by decide), fun z => absurd z (by decide)⟩
    have c496 := (r127.mr e142 (by decide)).trans c128
    have c497 := (f157 154 (by decide)).trans c496
    have c498 := (r154.mr e169 (by decide)).trans c497
    have c499 := (f184 154 (by decide)).trans c498
    have c500 := (r181.mr e196 (by decide)).trans c499
    have c501 := (f211 154 (by decide)).trans c500
    have c502 := (r208.mr e223 (by decide)).trans c501
    have c503 := (f238 154 (by decide)).trans c502
    have c504 := (f250 154 (by decide)).trans c503
    have t506 := t116.xt r123 (by decide) e126
    have t507 := t506.x e142
    have t508 := t507.xt r150 (by decide) e153
    have t509 := t508.x e169
    have t510 := t509.xt r177 (by decide) e180
    have t511 := t510.x e196
    have t512 := t511.xt r204 (by decide) e207
    have t513 := t512.x e223
    have t514 := t513.xt r231 (by decide) e234
    have t515 := t514.xt r235 (by decide) e246
    have l516 := (t116.alt r123 (by decide) e126).trans l117
    have l517 := (t506.al e142).trans l516
    have l518 := (t507.alt r150 (by decide) e153).trans l517
    have l519 := (t508.al e169).trans l518
    have l520 := (t509.alt r177 (by decide) e180).trans l519
    have l521 := (t510.al e196).trans l520
    have l522 := (t511.alt r204 (by decide) e207).trans l521
    have l523 := (t512.al e223).trans l522
    have l524 := (t513.alt r231 (by decide) e234).trans l523
    have l525 := (t514.alt r235 (by decide) e246).trans l524
    have l526 := (t116.ght r123 (by decide) e126).trans l118
    have l527 := (t506.gh e142).trans l526
    have l528 := (t507.ght r150 (by decide) e153).trans l527
    have l529 := (t508.gh e169).trans l528
    have l530 := (t509.ght r177 (by decide) e180).trans l529
    have l531 := (t510.gh e196).trans l530
    have l532 := (t511.ght r204 (by decide) e207).trans l531
    have l533 := (t512.gh e223).trans l532
    have l534 := (t513.ght r231 (by decide) e234).trans l533
    have l535 := (t514.ght r235 (by decide) e246).trans l534
    have F505 : RfC σ244 p0 154 (fRC σ244 p0 154) := by rw [c504]; exact Or.inr ⟨t515, Or.inr l525, Or.inr l535, fun z => absurd z (by decide), fun z => absurd z (by decide)⟩
    have c536 := (r154.mr e169 (by decide)).trans c155
    have c537 := (f184 155 (by decide)).trans c536
    have c538 := (r181.mr e196 (by decide)).trans c537
    have c539 := (f211 155 (by decide)).trans c538
    have c540 := (r208.mr e223 (by decide)).trans c539
    have c541 := (f238 155 (by decide)).trans c540
    have c542 := (f250 155 (by decide)).trans c541
    have t544 := t143.xt r150 (by decide) e153
    have t545 := t544.x e169
    have t546 := t545.xt r177 (by decide) e180
    have t547 := t546.x e196
    have t548 := t547.xt r204 (by decide) e207
    have t549 := t548.x e223
    have t550 := t549.xt r231 (by decide) e234
    have t551 := t550.xt r235 (by decide) e246
    have l552 := (t143.alt r150 (by decide) e153).trans l144
    have l553 := (t544.al e169).trans l552
    have l554 := (t545.alt r177 (by decide) e180).trans l553
    have l555 := (t546.al e196).trans l554
    have l556 := (t547.alt r204 (by decide) e207).trans l555
    have l557 := (t548.al e223).trans l556
    have l558 := (t549.alt r231 (by decide) e234).trans l557
    have l559 := (t550.alt r235 (by decide) e246).trans l558
    have l560 := (t143.ght r150 (by decide) e153).trans l145
    have l561 := (t544.gh e169).trans l560
    have l562 := (t545.ght r177 (by decide) e180).trans l561
    have l563 := (t546.gh e196).trans l562
    have l564 := (t547.ght r204 (by decide) e207).trans l563
    have l565 := (t548.gh e223).trans l564
    have l566 := (t549.ght r231 (by decide) e234).trans l565
    have l567 := (t550.ght r235 (by decide) e246).trans l566
    have F543 : RfC σ244 p0 155 (fRC σ244 p0 155) := by rw [c542]; exact Or.inr ⟨t551, Or.inr l559, Or.inr l567, fun z => absurd z (by decide), fun z => absurd z (by decide)⟩
    have c568 := (r181.mr e196 (by decide)).trans c182
    have c569 := (f211 156 (by decide)).trans c568
    have c570 := (r208.mr e223 (by decide)).trans c569
    have c571 := (f238 156 (by decide)).trans c570
    have c572 := (f250 156 (by decide)).trans c571
    have t574 := t170.xt r177 (by decide) e180
    have t575 := t574.x e196
    have t576 := t575.xt r204 (by decide) e207
    have t577 := t576.x e223
    have t578 := t577.xt r231 (by decide) e234
    have t579 := t578.xt r235 (by decide) e246
    have l580 := (t170.alt r177 (by decide) e180).trans l171
    have l581 := (t574.al e196).trans l580
    have l582 := (t575.alt r204 (by decide) e207).trans l581
    have l583 := (t576.al e223).trans l582
    have l584 := (t577.alt r231 (by decide) e234).trans l583
    have l585 := (t578.alt r235 (by decide) e246).trans l584
    have F573 : RfC σ244 p0 156 (fRC σ244 p0 156) := by rw [c572]; exact Or.inr ⟨t579, Or.inr l585, Or.inl rfl, fun z => absurd z (by decide), fun z => absurd z (by decide)⟩
    have c586 := (r208.mr e223 (by decide)).trans c209
    have c587 := (f238 157 (by decide)).trans c586
    have c588 := (f250 157 (by decide)).trans c587
    have t590 := t197.xt r204 (by decide) e207
    have t591 := t590.x e223
    have t592 := t591.xt r231 (by decide) e234
    have t593 := t592.xt r235 (by decide) e246
    have l594 := (t197.alt r204 (by decide) e207).trans l198
    have l595 := (t590.al e223).trans l594
    have l596 := (t591.alt r231 (by decide) e234).trans l595
    have l597 := (t592.alt r235 (by decide) e246).trans l596
    have l598 := (t197.ght r204 (by decide) e207).trans l199
    have l599 := (t590.gh e223).trans l598
    have l600 := (t591.ght r231 (by decide) e234).trans l599
    have l601 := (t592.ght r235 (by decide) e246).trans l600
    have F589 : RfC σ244 p0 157 (fRC σ244 p0 157) := by rw [c588]; exact Or.inr ⟨t593, Or.inr l597, Or.inr l601, fun z => absurd z (by decide), fun z => absurd z (by decide)⟩
    have t603 := h_1_0.x e7
    have t604 := t603.xt r15 (by decide) e18
    have t605 := t604.x e34
    have t606 := t605.xt r42 (by decide) e45
    have t607 := t606.x e61
    have t608 := t607.xt r69 (by decide) e72
    have t609 := t608.x e88
    have t610 := t609.xt r96 (by decide) e99
    have t611 := t610.x e115
    have t612 := t611.xt r123 (by decide) e126
    have t613 := t612.x e142
    have t614 := t613.xt r150 (by decide) e153
    have t615 := t614.x e169
    have t616 := t615.xt r177 (by decide) e180
    have t617 := t616.x e196
    have t618 := t617.xt r204 (by decide) e207
    have t619 := t618.x e223
    have t620 := t619.xt r231 (by decide) e234
    have t621 := t620.xt r235 (by decide) e246
    have F602 : RfC σ244 p0 158 (fRC σ244 p0 158) := by rw [c248]; exact Or.inr ⟨t621, Or.inl rfl, Or.inl rfl, fun z => absurd z (by decide), fun z => absurd z (by decide)⟩
    have c622 := (f250 159 (by decide)).trans c236
    have t624 := t224.xt r231 (by decide) e234
    have t625 := t624.xt r235 (by decide) e246
    have l626 := (t224.ght r231 (by decide) e234).trans l226
    have l627 := (t624.ght r235 (by decide) e246).trans l626
    have F623 : RfC σ244 p0 159 (fRC σ244 p0 159) := by rw [c622]; exact Or.inr ⟨t625, Or.inl rfl, Or.inr l627, fun z => absurd z (by decide), fun z => absurd z (by decide)⟩
    have c628 := (h_0_0.mi e7 (by decide)).trans (h_0_1 162).1
    have c629 := (f21 162).trans c628
    have c630 := (r19.mi e34 (by decide)).trans c629
    have c631 := (f48 162).trans c630
    have c632 := (r46.mi e61 (by decide)).trans c631
    have c633 := (f75 162).trans c632
    have c634 := (r73.mi e88 (by decide)).trans c633
    have c635 := (f102 162).trans c634
    have c636 := (r100.mi e115 (by decide)).trans c635
    have c637 := (f129 162).trans c636
    have c638 := (r127.mi e142 (by decide)).trans c637
    have c639 := (f156 162).trans c638
    have c640 := (r154.mi e169 (by decide)).trans c639
    have c641 := (f183 162).trans c640
    have c642 := (r181.mi e196 (by decide)).trans c641
    have c643 := (f210 162).trans c642
    have c644 := (r208.mi e223 (by decide)).trans c643
    have c645 := (f237 162).trans c644
    have c646 := (f249 162).trans c645
    have F647 : IvC 162 (fIC σ244 p0 162) := by rw [c646]; exact ⟨by show (0 : Int) ≤ _; decide, by show _ ≤ (7500 : Int); decide⟩
    have c648 := (h_0_0.mi e7 (by decide)).trans (h_0_1 163).1
    have c649 := (f21 163).trans c648
    have c650 := (r19.mi e34 (by decide)).trans c649
    have c651 := (f48 163).trans c650
    have c652 := (r46.mi e61 (by decide)).trans c651
    have c653 := (f75 163).trans c652
    have c654 := (r73.mi e88 (by decide)).trans c653
    have c655 := (f102 163).trans c654
    have c656 := (r100.mi e115 (by decide)).trans c655
    have c657 := (f129 163).trans c656
    have c658 := (r127.mi e142 (by decide)).trans c657
    have c659 := (f156 163).trans c658
    have c660 := (r154.mi e169 (by decide)).trans c659
    have c661 := (f183 163).trans c660
    have c662 := (r181.mi e196 (by decide)).trans c661
    have c663 := (f210 163).trans c662
    have c664 := (r208.mi e223 (by decide)).trans c663
    have c665 := (f237 163).trans c664
    have c666 := (f249 163).trans c665
    have F667 : IvC 163 (fIC σ244 p0 163) := by rw [c666]; exact ⟨by show (0 : Int) ≤ _; decide, by show _ ≤ (30 : Int); decide⟩
    have c668 := (h_0_0.mi e7 (by decide)).trans (h_0_1 164).1
    have c669 := (f21 164).trans c668
    have c670 := (r19.mi e34 (by decide)).trans c669
    have c671 := (f48 164).trans c670
    have c672 := (r46.mi e61 (by decide)).trans c671
    have c673 := (f75 164).trans c672
    have c674 := (r73.mi e88 (by decide)).trans c673
    have c675 := (f102 164).trans c674
    have c676 := (r100.mi e115 (by decide)).trans c675
    have c677 := (f129 164).trans c676
    have c678 := (r127.mi e142 (by decide)).trans c677
    have c679 := (f156 164).trans c678
    have c680 := (r154.mi e169 (by decide)).trans c679
    have c681 := (f183 164).trans c680
    have c682 := (r181.mi e196 (by decide)).trans c681
    have c683 := (f210 164).trans c682
    have c684 := (r208.mi e223 (by decide)).trans c683
    have c685 := (f237 164).trans c684
    have c686 := (f249 164).trans c685
    have F687 : IvC 164 (fIC σ244 p0 164) := by rw [c686]; exact ⟨by show (-2147483648 : Int) ≤ _; decide, by show _ ≤ (20000 : Int); decide⟩
    have c688 := (h_0_0.mi e7 (by decide)).trans (h_0_1 165).1
    have c689 := (f21 165).trans c688
    have c690 := (r19.mi e34 (by decide)).trans c689
    have c691 := (f48 165).trans c690
    have c692 := (r46.mi e61 (by decide)).trans c691
    have c693 := (f75 165).trans c692
    have c694 := (r73.mi e88 (by decide)).trans c693
    have c695 := (f102 165).trans c694
    have c696 := (r100.mi e115 (by decide)).trans c695
    have c697 := (f129 165).trans c696
    have c698 := (r127.mi e142 (by decide)).trans c697
    have c699 := (f156 165).trans c698
    have c700 := (r154.mi e169 (by decide)).trans c699
    have c701 := (f183 165).trans c700
    have c702 := (r181.mi e196 (by decide)).trans c701
    have c703 := (f210 165).trans c702
    have c704 := (r208.mi e223 (by decide)).trans c703
    have c705 := (f237 165).trans c704
    have c706 := (f249 165).trans c705
    have F707 : IvC 165 (fIC σ244 p0 165) := by rw [c706]; exact ⟨by show (0 : Int) ≤ _; decide, by show _ ≤ (20000 : Int); decide⟩
    have c708 := (h_0_0.mi e7 (by decide)).trans (h_0_1 166).1
    have c709 := (f21 166).trans c708
    have c710 := (r19.mi e34 (by decide)).trans c709
    have c711 := (f48 166).trans c710
    have c712 := (r46.mi e61 (by decide)).trans c711
    have c713 := (f75 166).trans c712
    have c714 := (r73.mi e88 (by decide)).trans c713
    have c715 := (f102 166).trans c714
    have c716 := (r100.mi e115 (by decide)).trans c715
    have c717 := (f129 166).trans c716
    have c718 := (r127.mi e142 (by decide)).trans c717
    have c719 := (f156 166).trans c718
    have c720 := (r154.mi e169 (by decide)).trans c719
    have c721 := (f183 166).trans c720
    have c722 := (r181.mi e196 (by decide)).trans c721
    have c723 := (f210 166).trans c722
    have c724 := (r208.mi e223 (by decide)).trans c723
    have c725 := (f237 166).trans c724
    have c726 := (f249 166).trans c725
    have F727 : IvC 166 (fIC σ244 p0 166) := by rw [c726]; exact ⟨by show (0 : Int) ≤ _; decide, by show _ ≤ (200 : Int); decide⟩
    have c728 := (h_0_0.mi e7 (by decide)).trans (h_0_1 167).1
    have c729 := (f21 167).trans c728
    have c730 := (r19.mi e34 (by decide)).trans c729
    have c731 := (f48 167).trans c730
    have c732 := (r46.mi e61 (by decide)).trans c731
    have c733 := (f75 167).trans c732
    have c734 := (r73.mi e88 (by decide)).trans c733
    have c735 := (f102 167).trans c734
    have c736 := (r100.mi e115 (by decide)).trans c735
    have c737 := (f129 167).trans c736
    have c738 := (r127.mi e142 (by decide)).trans c737
    have c739 := (f156 167).trans c738
    have c740 := (r154.mi e169 (by decide)).trans c739
    have c741 := (f183 167).trans c740
    have c742 := (r181.mi e196 (by decide)).trans c741
    have c743 := (f210 167).trans c742
    have c744 := (r208.mi e223 (by decide)).trans c743
    have c745 := (f237 167).trans c744
    have c746 := (f249 167).trans c745
    have F747 : IvC 167 (fIC σ244 p0 167) := by rw [c746]; exact ⟨by show (0 : Int) ≤ _; decide, by show _ ≤ (20000 : Int); decide⟩
    have c749 := (h_0_0.mi e7 (by decide)).trans (h_0_1 160).1
    have c750 := (f21 160).trans c749
    have c751 := (r19.mi e34 (by decide)).trans c750
    have c752 := (f48 160).trans c751
    have c753 := (r46.mi e61 (by decide)).trans c752
    have c754 := (f75 160).trans c753
    have c755 := (r73.mi e88 (by decide)).trans c754
    have c756 := (f102 160).trans c755
    have c757 := (r100.mi e115 (by decide)).trans c756
    have c758 := (f129 160).trans c757
    have c759 := (r127.mi e142 (by decide)).trans c758
    have c760 := (f156 160).trans c759
    have c761 := (r154.mi e169 (by decide)).trans c760
    have c762 := (f183 160).trans c761
    have c763 := (r181.mi e196 (by decide)).trans c762
    have c764 := (f210 160).trans c763
    have c765 := (r208.mi e223 (by decide)).trans c764
    have c766 := (f237 160).trans c765
    have c767 := (f249 160).trans c766
    have X748 : XaC (rTC σ244 p0 5 (ghC σ244 p0)) p0 := XaC.of5 rT_tg ⟨by show (fIC σ244 p0 167).toInt ≤ (fIC σ244 p0 165).toInt; rw [c746, c706]; decide, fun b hb => by have hb : fRC σ244 p0 159 = some b := hb; show (fIC σ244 p0 160).toInt ≤ _; rw [c767]; exact Int.natCast_nonneg _⟩
    have H768 : HIC (rTC σ244 p0 5 (ghC σ244 p0)) := HIC.fin H245 r247 rfl (fn5 F273 F343 F405 F459 F505 F543 F573 F589 F602 F623 F647 F667 F687 F707 F727 F747) X748 (fun z => absurd z (by decide))
    have u769 : cnC (rTC σ244 p0 5 (ghC σ244 p0)) = cnC σ244 := rfl
    have u770 : slC (rTC σ244 p0 5 (ghC σ244 p0)) = slC σ244 := rfl
    refine k_returnW (r247.we (g := ghC σ244 p0)) ?_
    have X771 : ExT p0 [999] σ0 σ4 := (ExC.rf).t.tr (e7.mo (by decide)).t
    have X772 : ExT p0 [999] σ0 σ16 := X771.tr (e18.mo (by decide))
    have X773 : ExT p0 [999] σ0 σ31 := X772.tr (e34.mo (by decide)).t
    have X774 : ExT p0 [999] σ0 σ43 := X773.tr (e45.mo (by decide))
    have X775 : ExT p0 [999] σ0 σ58 := X774.tr (e61.mo (by decide)).t
    have X776 : ExT p0 [999] σ0 σ70 := X775.tr (e72.mo (by decide))
    have X777 : ExT p0 [999] σ0 σ85 := X776.tr (e88.mo (by decide)).t
    have X778 : ExT p0 [999] σ0 σ97 := X777.tr (e99.mo (by decide))
    have X779 : ExT p0 [999] σ0 σ112 := X778.tr (e115.mo (by decide)).t
    have X780 : ExT p0 [999] σ0 σ124 := X779.tr (e126.mo (by decide))
    have X781 : ExT p0 [999] σ0 σ139 := X780.tr (e142.mo (by decide)).t
    have X782 : ExT p0 [999] σ0 σ151 := X781.tr (e153.mo (by decide))
    have X783 : ExT p0 [999] σ0 σ166 := X782.tr (e169.mo (by decide)).t
    have X784 : ExT p0 [999] σ0 σ178 := X783.tr (e180.mo (by decide))
    have X785 : ExT p0 [999] σ0 σ193 := X784.tr (e196.mo (by decide)).t
    have X786 : ExT p0 [999] σ0 σ205 := X785.tr (e207.mo (by decide))
    have X787 : ExT p0 [999] σ0 σ220 := X786.tr (e223.mo (by decide)).t
    have X788 : ExT p0 [999] σ0 σ232 := X787.tr (e234.mo (by decide))
    have X789 : ExT p0 [999] σ0 σ244 := X788.tr (e246.mo (by decide))
    have X790 : ExT p0 [999] σ0 (rTC σ244 p0 5 (ghC σ244 p0)) := X789.tr ((ExT.rT : ExT p0 [] σ244 (rTC σ244 p0 5 (ghC σ244 p0))).mo (by decide))
    exact ⟨rfl, H768, X790, ⟨r247.1, rT_tg, fun q => absurd q (by decide)⟩, (((((((((((((((((((rT_gh.trans l251).trans l239).trans (e223.2.2 p0 r208.1).1.2.2).trans l212).trans (e196.2.2 p0 r181.1).1.2.2).trans l185).trans (e169.2.2 p0 r154.1).1.2.2).trans l158).trans (e142.2.2 p0 r127.1).1.2.2).trans l131).trans (e115.2.2 p0 r100.1).1.2.2).trans l104).trans (e88.2.2 p0 r73.1).1.2.2).trans l77).trans (e61.2.2 p0 r46.1).1.2.2).trans l50).trans (e34.2.2 p0 r19.1).1.2.2).trans l23).trans (e7.2.2 p0 h_0_0.1).1.2.2), (by omega), (by omega)⟩
theorem lg_X4_init : ∀ (As : List AvC) (σ : CsC), P_X4_init As σ → lgC As ≤ rX4_init.2.2.1 := by
  rintro As σ ⟨p0, p1, rfl, -⟩
  exact Nat.le_of_ble_eq_true rfl
theorem m_X4_init (l : Launch) : CMetC l 1 87 P_X4_init Q_X4_init :=
  CMetC.of KX4_init [] hX4_init (by decide) (by decide) okX4_init cc0C (lg_X4_init) (b_X4_init)

abbrev P_X9_init : CpC := fun As σ => ∃ (p0 : Nat), As = [.inr (.inr (some p0))] ∧ HIC σ ∧ RawC σ p0 10 ∧ ZrC σ p0 ∧ cnC σ + 7 ≤ cpC σ ∧ slC σ + 2539 ≤ spC σ
abbrev Q_X9_init : CqC := fun As σ w τ => match As with
  | [.inr (.inr (some p0))] => w = none ∧ HIC τ ∧ ExT p0 [996, 999] σ τ ∧ TyC τ p0 10 ∧ ghC τ p0 = ghC σ p0 ∧ cnC τ = cnC σ + 7 ∧ slC τ = slC σ + 2539
  | _ => False
set_option maxRecDepth 100000 in
set_option maxHeartbeats 4000000 in
theorem b_X9_init : TbC KX9_init [(239, P_J0_length_8abf5, Q_J0_length_8abf5), (238, P_J0_charAt_5068e, Q_J0_charAt_5068e), (185, P_X9_longerKey, Q_X9_longerKey)] P_X9_init Q_X9_init := by
  · rintro As σ0 ⟨p0, rfl, H0, h_0_0, h_0_1, rm_0, rm_1⟩ hgr G hB hW
    change G 0 [(0, .inr (.inr (some p0)))] [] σ0
    refine hB _ _ _ _ (kgoC (is := KX9_init_0) rfl ?_)
    refine k_aload_n rfl ?_
    refine k_obj (Nat.le_of_ble_eq_true rfl) ?_
    refine k_aload_n rfl ?_
    refine k_sipush (m := 503) rfl (fun x1 h2 => ?_)
    refine k_newarray (t := 100) (g := 3) (n := 503) H0 (by decide) rfl (by omega) (by decide) (by omega) (by omega) (fun a3 σ4 q5 H6 e7 t8 l9 l10 u11 u12 => ?_)
    have u13 : cpC σ4 = cpC σ0 := congrArg Prod.fst e7.2.1.1
    have u14 : spC σ4 = spC σ0 := congrArg Prod.snd e7.2.1.1
    have r15 := h_0_0.x e7
    refine k_putRW (c := 10) H6 r15 rfl fk300 (fun σ16 H17 e18 r19 c20 f21 f22 l23 => ?_)
    have u24 : cpC σ16 = cpC σ4 := congrArg Prod.fst e18.2.1.1
    have u25 : spC σ16 = spC σ4 := congrArg Prod.snd e18.2.1.1
    have u26 : cnC σ16 = cnC σ4 := congrArg (fun z => z.1.1) (e18.2.1.2.1 (by decide))
    have u27 : slC σ16 = slC σ4 := congrArg (fun z => z.1.2) (e18.2.1.2.1 (by decide))
    refine k_aload_n rfl ?_
    refine k_sipush (m := 503) rfl (fun x28 h29 => ?_)
    refine k_newarray (t := 100) (g := 4) (n := 503) H17 (by decide) rfl (by omega) (by decide) (by omega) (by omega) (fun a30 σ31 q32 H33 e34 t35 l36 l37 u38 u39 => ?_)
    have u40 : cpC σ31 = cpC σ16 := congrArg Prod.fst e34.2.1.1
    have u41 : spC σ31 = spC σ16 := congrArg Prod.snd e34.2.1.1
    have r42 := r19.x e34
    refine k_putRW (c := 10) H33 r42 rfl fk301 (fun σ43 H44 e45 r46 c47 f48 f49 l50 => ?_)
    have u51 : cpC σ43 = cpC σ31 := congrArg Prod.fst e45.2.1.1
    have u52 : spC σ43 = spC σ31 := congrArg Prod.snd e45.2.1.1
    have u53 : cnC σ43 = cnC σ31 := congrArg (fun z => z.1.1) (e45.2.1.2.1 (by decide))
    have u54 : slC σ43 = slC σ31 := congrArg (fun z => z.1.2) (e45.2.1.2.1 (by decide))
    refine k_aload_n rfl ?_
    refine k_sipush (m := 503) rfl (fun x55 h56 => ?_)
    refine k_newarray (t := 100) (g := 2) (n := 503) H44 (by decide) rfl (by omega) (by decide) (by omega) (by omega) (fun a57 σ58 q59 H60 e61 t62 l63 l64 u65 u66 => ?_)
    have u67 : cpC σ58 = cpC σ43 := congrArg Prod.fst e61.2.1.1
    have u68 : spC σ58 = spC σ43 := congrArg Prod.snd e61.2.1.1
    have r69 := r46.x e61
    refine k_putRW (c := 10) H60 r69 rfl fk302 (fun σ70 H71 e72 r73 c74 f75 f76 l77 => ?_)
    have u78 : cpC σ70 = cpC σ58 := congrArg Prod.fst e72.2.1.1
    have u79 : spC σ70 = spC σ58 := congrArg Prod.snd e72.2.1.1
    have u80 : cnC σ70 = cnC σ58 := congrArg (fun z => z.1.1) (e72.2.1.2.1 (by decide))
    have u81 : slC σ70 = slC σ58 := congrArg (fun z => z.1.2) (e72.2.1.2.1 (by decide))
    refine k_aload_n rfl ?_
    refine k_sipush (m := 503) rfl (fun x82 h83 => ?_)
    refine k_newarray (t := 100) (g := 0) (n := 503) H71 (by decide) rfl (by omega) (by decide) (by omega) (by omega) (fun a84 σ85 q86 H87 e88 t89 l90 l91 u92 u93 => ?_)
    have u94 : cpC σ85 = cpC σ70 := congrArg Prod.fst e88.2.1.1
    have u95 : spC σ85 = spC σ70 := congrArg Prod.snd e88.2.1.1
    have r96 := r73.x e88
    refine k_putRW (c := 10) H87 r96 rfl fk303 (fun σ97 H98 e99 r100 c101 f102 f103 l104 => ?_)
    have u105 : cpC σ97 = cpC σ85 := congrArg Prod.fst e99.2.1.1
    have u106 : spC σ97 = spC σ85 := congrArg Prod.snd e99.2.1.1
    have u107 : cnC σ97 = cnC σ85 := congrArg (fun z => z.1.1) (e99.2.1.2.1 (by decide))
    have u108 : slC σ97 = slC σ85 := congrArg (fun z => z.1.2) (e99.2.1.2.1 (by decide))
    refine k_aload_n rfl ?_
    refine k_sipush (m := 503) rfl (fun x109 h110 => ?_)
    refine k_newarray (t := 102) (g := 0) (n := 503) H98 (by decide) rfl (by omega) (by decide) (by omega) (by omega) (fun a111 σ112 q113 H114 e115 t116 l117 l118 u119 u120 => ?_)
    have u121 : cpC σ112 = cpC σ97 := congrArg Prod.fst e115.2.1.1
    have u122 : spC σ112 = spC σ97 := congrArg Prod.snd e115.2.1.1
    have r123 := r100.x e115
    refine k_putRW (c := 10) H114 r123 rfl fk304 (fun σ124 H125 e126 r127 c128 f129 f130 l131 => ?_)
    have u132 : cpC σ124 = cpC σ112 := congrArg Prod.fst e126.2.1.1
    have u133 : spC σ124 = spC σ112 := congrArg Prod.snd e126.2.1.1
    have u134 : cnC σ124 = cnC σ112 := congrArg (fun z => z.1.1) (e126.2.1.2.1 (by decide))
    have u135 : slC σ124 = slC σ112 := congrArg (fun z => z.1.2) (e126.2.1.2.1 (by decide))
    refine k_aload_n rfl ?_
    refine k_bipush (m := 24) rfl (fun x136 h137 => ?_)
    refine k_newarray (t := 102) (g := 5) (n := 24) H125 (by decide) rfl (by omega) (by decide) (by omega) (by omega) (fun a138 σ139 q140 H141 e142 t143 l144 l145 u146 u147 => ?_)
    have u148 : cpC σ139 = cpC σ124 := congrArg Prod.fst e142.2.1.1
    have u149 : spC σ139 = spC σ124 := congrArg Prod.snd e142.2.1.1
    have r150 := r127.x e142
    refine k_putRW (c := 10) H141 r150 rfl fk306 (fun σ151 H152 e153 r154 c155 f156 f157 l158 => ?_)
    have u159 : cpC σ151 = cpC σ139 := congrArg Prod.fst e153.2.1.1
    have u160 : spC σ151 = spC σ139 := congrArg Prod.snd e153.2.1.1
    have u161 : cnC σ151 = cnC σ139 := congrArg (fun z => z.1.1) (e153.2.1.2.1 (by decide))
    have u162 : slC σ151 = slC σ139 := congrArg (fun z => z.1.2) (e153.2.1.2.1 (by decide))
    refine k_aload_n rfl ?_
    refine k_iconst (m := 0) rfl (fun x163 h164 => ?_)
    refine k_newarray (t := 101) (g := 0) (n := 0) H152 (by decide) rfl (by omega) (by decide) (by omega) (by omega) (fun a165 σ166 q167 H168 e169 t170 l171 l172 u173 u174 => ?_)
    have u175 : cpC σ166 = cpC σ151 := congrArg Prod.fst e169.2.1.1
    have u176 : spC σ166 = spC σ151 := congrArg Prod.snd e169.2.1.1
    have r177 := r154.x e169
    refine k_putRW (c := 10) H168 r177 rfl fk307 (fun σ178 H179 e180 r181 c182 f183 f184 l185 => ?_)
    have u186 : cpC σ178 = cpC σ166 := congrArg Prod.fst e180.2.1.1
    have u187 : spC σ178 = spC σ166 := congrArg Prod.snd e180.2.1.1
    have u188 : cnC σ178 = cnC σ166 := congrArg (fun z => z.1.1) (e180.2.1.2.1 (by decide))
    have u189 : slC σ178 = slC σ166 := congrArg (fun z => z.1.2) (e180.2.1.2.1 (by decide))
    refine k_iconst (m := 0) rfl (fun x190 h191 => ?_)
    refine k_istore_n (ls' := [(1, .inl x190), (0, .inr (.inr (some p0)))]) rfl ?_
    refine k_iconst (m := 0) rfl (fun x192 h193 => ?_)
    refine k_istore_n (ls' := [(2, .inl x192), (1, .inl x190), (0, .inr (.inr (some p0)))]) rfl ?_
    refine k_nil ?_
    have L68 : ∀ (n68 : Nat), ∀ (σ194 : CsC) (v68_1 : Int32) (v68_2 : Int32), (2147483647 - v68_2.toInt).toNat = n68 → HIC σ194 → ExC [996] σ178 σ194 → 0 ≤ v68_1.toInt → 0 ≤ v68_2.toInt → v68_2.toInt ≤ 502 → v68_1.toInt ≤ v68_2.toInt → G 68 [(0, .inr (.inr (some p0))), (1, .inl v68_1), (2, .inl v68_2)] [] σ194 := by
      intro n68
      induction n68 using Nat.strongRecOn with
      | _ n68 ih68 =>
        intro σ194 v68_1 v68_2 n68_ H195 e196 h197 h198 h199 h200
        have u201 : cnC σ194 = cnC σ178 := by unfold cnC; rw [e196.2.1.2.1 rfl]
        have u202 : slC σ194 = slC σ178 := by unfold slC; rw [e196.2.1.2.1 rfl]
        have u203 : cpC σ194 = cpC σ178 := by unfold cpC; rw [e196.2.1.2.1 rfl]
        have u204 : spC σ194 = spC σ178 := by unfold spC; rw [e196.2.1.2.1 rfl]
        refine hB _ _ _ _ (kgoC (is := KX9_init_68) rfl ?_)
        refine k_iload_n rfl ?_
        refine k_ldcR rfl ?_
        refine k_inv (P := P_J0_length_8abf5) (Q := Q_J0_length_8abf5) rfl rfl rfl rfl (Nat.le_of_ble_eq_true rfl) (Or.inr ⟨rfl, by omega, by omega⟩) ⟨_, rfl, H195, (by decide)⟩ (fun w205 σ206 q207 => ?_)
        obtain ⟨x208, rfl, rfl, h209, h210, q211⟩ := q207
        refine k_st (st' := [.inl x208, .inl v68_2]) rfl ?_
        have z212 : slnC 1000003 = 135 := rfl
        refine k_ic_ge (fun h213 => ?_) (fun h213 => ?_)
        · refine hB _ _ _ _ (kgoC (is := KX9_init_124) rfl ?_)
          have r214 := r181.x e196
          have c215 := (r19.mr e34 (by decide)).trans c20
          have c216 := (f49 300 (by decide)).trans c215
          have c217 := (r46.mr e61 (by decide)).trans c216
          have c218 := (f76 300 (by decide)).trans c217
          have c219 := (r73.mr e88 (by decide)).trans c218
          have c220 := (f103 300 (by decide)).trans c219
          have c221 := (r100.mr e115 (by decide)).trans c220
          have c222 := (f130 300 (by decide)).trans c221
          have c223 := (r127.mr e142 (by decide)).trans c222
          have c224 := (f157 300 (by decide)).trans c223
          have c225 := (r154.mr e169 (by decide)).trans c224
          have c226 := (f184 300 (by decide)).trans c225
          have c227 := (r181.mr e196 (by decide)).trans c226
          have t229 := t8.xt r15 (by decide) e18
          have t230 := t229.x e34
          have t231 := t230.xt r42 (by decide) e45
          have t232 := t231.x e61
          have t233 := t232.xt r69 (by decide) e72
          have t234 := t233.x e88
          have t235 := t234.xt r96 (by decide) e99
          have t236 := t235.x e115
          have t237 := t236.xt r123 (by decide) e126
          have t238 := t237.x e142
          have t239 := t238.xt r150 (by decide) e153
          have t240 := t239.x e169
          have t241 := t240.xt r177 (by decide) e180
          have t242 := t241.x e196
          have l243 := (t8.alt r15 (by decide) e18).trans l9
          have l244 := (t229.al e34).trans l243
          have l245 := (t230.alt r42 (by decide) e45).trans l244
          have l246 := (t231.al e61).trans l245
          have l247 := (t232.alt r69 (by decide) e72).trans l246
          have l248 := (t233.al e88).trans l247
          have l249 := (t234.alt r96 (by decide) e99).trans l248
          have l250 := (t235.al e115).trans l249
          have l251 := (t236.alt r123 (by decide) e126).trans l250
          have l252 := (t237.al e142).trans l251
          have l253 := (t238.alt r150 (by decide) e153).trans l252
          have l254 := (t239.al e169).trans l253
          have l255 := (t240.alt r177 (by decide) e180).trans l254
          have l256 := (t241.al e196).trans l255
          have l257 := (t8.ght r15 (by decide) e18).trans l10
          have l258 := (t229.gh e34).trans l257
          have l259 := (t230.ght r42 (by decide) e45).trans l258
          have l260 := (t231.gh e61).trans l259
          have l261 := (t232.ght r69 (by decide) e72).trans l260
          have l262 := (t233.gh e88).trans l261
          have l263 := (t234.ght r96 (by decide) e99).trans l262
          have l264 := (t235.gh e115).trans l263
          have l265 := (t236.ght r123 (by decide) e126).trans l264
          have l266 := (t237.gh e142).trans l265
          have l267 := (t238.ght r150 (by decide) e153).trans l266
          have l268 := (t239.gh e169).trans l267
          have l269 := (t240.ght r177 (by decide) e180).trans l268
          have l270 := (t241.gh e196).trans l269
          have F228 : RfC σ194 p0 300 (fRC σ194 p0 300) := by rw [c227]; exact Or.inr ⟨t242, Or.inr l256, Or.inr l270, fun z => absurd z (by decide), fun z => absurd z (by decide)⟩
          have c271 := (r46.mr e61 (by decide)).trans c47
          have c272 := (f76 301 (by decide)).trans c271
          have c273 := (r73.mr e88 (by decide)).trans c272
          have c274 := (f103 301 (by decide)).trans c273
          have c275 := (r100.mr e115 (by decide)).trans c274
          have c276 := (f130 301 (by decide)).trans c275
          have c277 := (r127.mr e142 (by decide)).trans c276
          have c278 := (f157 301 (by decide)).trans c277
          have c279 := (r154.mr e169 (by decide)).trans c278
          have c280 := (f184 301 (by decide)).trans c279
          have c281 := (r181.mr e196 (by decide)).trans c280
          have t283 := t35.xt r42 (by decide) e45
          have t284 := t283.x e61
          have t285 := t284.xt r69 (by decide) e72
          have t286 := t285.x e88
          have t287 := t286.xt r96 (by decide) e99
          have t288 := t287.x e115
          have t289 := t288.xt r123 (by decide) e126
          have t290 := t289.x e142
          have t291 := t290.xt r150 (by decide) e153
          have t292 := t291.x e169
          have t293 := t292.xt r177 (by decide) e180
          have t294 := t293.x e196
          have l295 := (t35.alt r42 (by decide) e45).trans l36
          have l296 := (t283.al e61).trans l295
          have l297 := (t284.alt r69 (by decide) e72).trans l296
          have l298 := (t285.al e88).trans l297
          have l299 := (t286.alt r96 (by decide) e99).trans l298
          have l300 := (t287.al e115).trans l299
          have l301 := (t288.alt r123 (by decide) e126).trans l300
          have l302 := (t289.al e142).trans l301
          have l303 := (t290.alt r150 (by decide) e153).trans l302
          have l304 := (t291.al e169).trans l303
          have l305 := (t292.alt r177 (by decide) e180).trans l304
          have l306 := (t293.al e196).trans l305
          have l307 := (t35.ght r42 (by decide) e45).trans l37
          have l308 := (t283.gh e61).trans l307
          have l309 := (t284.ght r69 (by decide) e72).trans l308
          have l310 := (t285.gh e88).trans l309
          have l311 := (t286.ght r96 (by decide) e99).trans l310
          have l312 := (t287.gh e115).trans l311
          have l313 := (t288.ght r123 (by decide) e126).trans l312
          have l314 := (t289.gh e142).trans l313
          have l315 := (t290.ght r150 (by decide) e153).trans l314
          have l316 := (t291.gh e169).trans l315
          have l317 := (t292.ght r177 (by decide) e180).trans l316
          have l318 := (t293.gh e196).trans l317
          have F282 : RfC σ194 p0 301 (fRC σ194 p0 301) := by rw [c281]; exact Or.inr ⟨t294, Or.inr l306, Or.inr l318, fun z => absurd z (by decide), fun z => absurd z (by decide)⟩
          have c319 := (r73.mr e88 (by decide)).trans c74
          have c320 := (f103 302 (by decide)).trans c319
          have c321 := (r100.mr e115 (by decide)).trans c320
          have c322 := (f130 302 (by decide)).trans c321
          have c323 := (r127.mr e142 (by decide)).trans c322
          have c324 := (f157 302 (by decide)).trans c323
          have c325 := (r154.mr e169 (by decide)).trans c324
          have c326 := (f184 302 (by decide)).trans c325
          have c327 := (r181.mr e196 (by decide)).trans c326
          have t329 := t62.xt r69 (by decide) e72
          have t330 := t329.x e88
          have t331 := t330.xt r96 (by decide) e99
          have t332 := t331.x e115
          have t333 := t332.xt r123 (by decide) e126
          have t334 := t333.x e142
          have t335 := t334.xt r150 (by decide) e153
          have t336 := t335.x e169
          have t337 := t336.xt r177 (by decide) e180
          have t338 := t337.x e196
          have l339 := (t62.alt r69 (by decide) e72).trans l63
          have l340 := (t329.al e88).trans l339
          have l341 := (t330.alt r96 (by decide) e99).trans l340
          have l342 := (t331.al e115).trans l341
          have l343 := (t332.alt r123 (by decide) e126).trans l342
          have l344 := (t333.al e142).trans l343
          have l345 := (t334.alt r150 (by decide) e153).trans l344
          have l346 := (t335.al e169).trans l345
          have l347 := (t336.alt r177 (by decide) e180).trans l346
          have l348 := (t337.al e196).trans l347
          have l349 := (t62.ght r69 (by decide) e72).trans l64
          have l350 := (t329.gh e88).trans l349
          have l351 := (t330.ght r96 (by decide) e99).trans l350
          have l352 := (t331.gh e115).trans l351
          have l353 := (t332.ght r123 (by decide) e126).trans l352
          have l354 := (t333.gh e142).trans l353
          have l355 := (t334.ght r150 (by decide) e153).trans l354
          have l356 := (t335.gh e169).trans l355
          have l357 := (t336.ght r177 (by decide) e180).trans l356
          have l358 := (t337.gh e196).trans l357
          have F328 : RfC σ194 p0 302 (fRC σ194 p0 302) := by rw [c327]; exact Or.inr ⟨t338, Or.inr l348, Or.inr l358, fun z => absurd z (by decide), fun z => absurd z (by decide)⟩
          have c359 := (r100.mr e115 (by decide)).trans c101
          have c360 := (f130 303 (by decide)).trans c359
          have c361 := (r127.mr e142 (by decide)).trans c360
          have c362 := (f157 303 (by decide)).trans c361
          have c363 := (r154.mr e169 (by decide)).trans c362
          have c364 := (f184 303 (by decide)).trans c363
          have c365 := (r181.mr e196 (by decide)).trans c364
          have t367 := t89.xt r96 (by decide) e99
          have t368 := t367.x e115
          have t369 := t368.xt r123 (by decide) e126
          have t370 := t369.x e142
          have t371 := t370.xt r150 (by decide) e153
          have t372 := t371.x e169
          have t373 := t372.xt r177 (by decide) e180
          have t374 := t373.x e196
          have l375 := (t89.alt r96 (by decide) e99).trans l90
          have l376 := (t367.al e115).trans l375
          have l377 := (t368.alt r123 (by decide) e126).trans l376
          have l378 := (t369.al e142).trans l377
          have l379 := (t370.alt r150 (by decide) e153).trans l378
          have l380 := (t371.al e169).trans l379
          have l381 := (t372.alt r177 (by decide) e180).trans l380
          have l382 := (t373.al e196).trans l381
          have l383 := (t89.ght r96 (by decide) e99).trans l91
          have l384 := (t367.gh e115).trans l383
          have l385 := (t368.ght r123 (by decide) e126).trans l384
          have l386 := (t369.gh e142).trans l385
          have l387 := (t370.ght r150 (by decide) e153).trans l386
          have l388 := (t371.gh e169).trans l387
          have l389 := (t372.ght r177 (by decide) e180).trans l388
          have l390 := (t373.gh e196).trans l389
          have F366 : RfC σ194 p0 303 (fRC σ194 p0 303) := by rw [c365]; exact Or.inr ⟨t374, Or.inr l382, Or.inr l390, fun z => absurd z (by decide), fun z => absurd z (by decide)⟩
          have c391 := (r127.mr e142 (by decide)).trans c128
          have c392 := (f157 304 (by decide)).trans c391
          have c393 := (r154.mr e169 (by decide)).trans c392
          have c394 := (f184 304 (by decide)).trans c393
          have c395 := (r181.mr e196 (by decide)).trans c394
          have t397 := t116.xt r123 (by decide) e126
          have t398 := t397.x e142
          have t399 := t398.xt r150 (by decide) e153
          have t400 := t399.x e169
          have t401 := t400.xt r177 (by decide) e180
          have t402 := t401.x e196
          have l403 := (t116.alt r123 (by decide) e126).trans l117
          have l404 := (t397.al e142).trans l403
          have l405 := (t398.alt r150 (by decide) e153).trans l404
          have l406 := (t399.al e169).trans l405
          have l407 := (t400.alt r177 (by decide) e180).trans l406
          have l408 := (t401.al e196).trans l407
          have l409 := (t116.ght r123 (by decide) e126).trans l118
          have l410 := (t397.gh e142).trans l409
          have l411 := (t398.ght r150 (by decide) e153).trans l410
          have l412 := (t399.gh e169).trans l411
          have l413 := (t400.ght r177 (by decide) e180).trans l412
          have l414 := (t401.gh e196).trans l413
          have F396 : RfC σ194 p0 304 (fRC σ194 p0 304) := by rw [c395]; exact Or.inr ⟨t402, Or.inr l408, Or.inr l414, fun z => absurd z (by decide), fun z => absurd z (by decide)⟩
          have c415 := (h_0_0.mi e7 (by decide)).trans (h_0_1 305).1
          have c416 := (f21 305).trans c415
          have c417 := (r19.mi e34 (by decide)).trans c416
          have c418 := (f48 305).trans c417
          have c419 := (r46.mi e61 (by decide)).trans c418
          have c420 := (f75 305).trans c419
          have c421 := (r73.mi e88 (by decide)).trans c420
          have c422 := (f102 305).trans c421
          have c423 := (r100.mi e115 (by decide)).trans c422
          have c424 := (f129 305).trans c423
          have c425 := (r127.mi e142 (by decide)).trans c424
          have c426 := (f156 305).trans c425
          have c427 := (r154.mi e169 (by decide)).trans c426
          have c428 := (f183 305).trans c427
          have c429 := (r181.mi e196 (by decide)).trans c428
          have F430 : IvC 305 (fIC σ194 p0 305) := by rw [c429]; exact ⟨by show (0 : Int) ≤ _; decide, by show _ ≤ (501 : Int); decide⟩
          have c431 := (r154.mr e169 (by decide)).trans c155
          have c432 := (f184 306 (by decide)).trans c431
          have c433 := (r181.mr e196 (by decide)).trans c432
          have t435 := t143.xt r150 (by decide) e153
          have t436 := t435.x e169
          have t437 := t436.xt r177 (by decide) e180
          have t438 := t437.x e196
          have l439 := (t143.alt r150 (by decide) e153).trans l144
          have l440 := (t435.al e169).trans l439
          have l441 := (t436.alt r177 (by decide) e180).trans l440
          have l442 := (t437.al e196).trans l441
          have l443 := (t143.ght r150 (by decide) e153).trans l145
          have l444 := (t435.gh e169).trans l443
          have l445 := (t436.ght r177 (by decide) e180).trans l444
          have l446 := (t437.gh e196).trans l445
          have F434 : RfC σ194 p0 306 (fRC σ194 p0 306) := by rw [c433]; exact Or.inr ⟨t438, Or.inr l442, Or.inr l446, fun z => absurd z (by decide), fun z => absurd z (by decide)⟩
          have c447 := (r181.mr e196 (by decide)).trans c182
          have t449 := t170.xt r177 (by decide) e180
          have t450 := t449.x e196
          have F448 : RfC σ194 p0 307 (fRC σ194 p0 307) := by rw [c447]; exact Or.inr ⟨t450, Or.inl rfl, Or.inl rfl, fun z => absurd z (by decide), fun z => absurd z (by decide)⟩
          have c451 := (h_0_0.mi e7 (by decide)).trans (h_0_1 308).1
          have c452 := (f21 308).trans c451
          have c453 := (r19.mi e34 (by decide)).trans c452
          have c454 := (f48 308).trans c453
          have c455 := (r46.mi e61 (by decide)).trans c454
          have c456 := (f75 308).trans c455
          have c457 := (r73.mi e88 (by decide)).trans c456
          have c458 := (f102 308).trans c457
          have c459 := (r100.mi e115 (by decide)).trans c458
          have c460 := (f129 308).trans c459
          have c461 := (r127.mi e142 (by decide)).trans c460
          have c462 := (f156 308).trans c461
          have c463 := (r154.mi e169 (by decide)).trans c462
          have c464 := (f183 308).trans c463
          have c465 := (r181.mi e196 (by decide)).trans c464
          have F466 : IvC 308 (fIC σ194 p0 308) := by rw [c465]; exact ⟨by show (0 : Int) ≤ _; decide, by show _ ≤ (2147483647 : Int); decide⟩
          have X467 : XaC (rTC σ194 p0 10 (ghC σ194 p0)) p0 := XaC.of10 rT_tg (fun b hb => by have hb : fRC σ194 p0 307 = some b := hb; rw [c447] at hb; cases hb; show (fIC σ194 p0 308).toInt ≤ _; rw [c465]; exact Int.natCast_nonneg _)
          have H468 : HIC (rTC σ194 p0 10 (ghC σ194 p0)) := HIC.fin H195 r214 rfl (fn10 F228 F282 F328 F366 F396 F430 F434 F448 F466) X467 (fun z => absurd z (by decide))
          have u469 : cnC (rTC σ194 p0 10 (ghC σ194 p0)) = cnC σ194 := rfl
          have u470 : slC (rTC σ194 p0 10 (ghC σ194 p0)) = slC σ194 := rfl
          refine k_returnW (r214.we (g := ghC σ194 p0)) ?_
          have X471 : ExT p0 [996, 999] σ0 σ4 := (ExC.rf).t.tr (e7.mo (by decide)).t
          have X472 : ExT p0 [996, 999] σ0 σ16 := X471.tr (e18.mo (by decide))
          have X473 : ExT p0 [996, 999] σ0 σ31 := X472.tr (e34.mo (by decide)).t
          have X474 : ExT p0 [996, 999] σ0 σ43 := X473.tr (e45.mo (by decide))
          have X475 : ExT p0 [996, 999] σ0 σ58 := X474.tr (e61.mo (by decide)).t
          have X476 : ExT p0 [996, 999] σ0 σ70 := X475.tr (e72.mo (by decide))
          have X477 : ExT p0 [996, 999] σ0 σ85 := X476.tr (e88.mo (by decide)).t
          have X478 : ExT p0 [996, 999] σ0 σ97 := X477.tr (e99.mo (by decide))
          have X479 : ExT p0 [996, 999] σ0 σ112 := X478.tr (e115.mo (by decide)).t
          have X480 : ExT p0 [996, 999] σ0 σ124 := X479.tr (e126.mo (by decide))
          have X481 : ExT p0 [996, 999] σ0 σ139 := X480.tr (e142.mo (by decide)).t
          have X482 : ExT p0 [996, 999] σ0 σ151 := X481.tr (e153.mo (by decide))
          have X483 : ExT p0 [996, 999] σ0 σ166 := X482.tr (e169.mo (by decide)).t
          have X484 : ExT p0 [996, 999] σ0 σ178 := X483.tr (e180.mo (by decide))
          have X485 : ExT p0 [996, 999] σ0 σ194 := X484.tr (e196.mo (by decide)).t
          have X486 : ExT p0 [996, 999] σ0 (rTC σ194 p0 10 (ghC σ194 p0)) := X485.tr ((ExT.rT : ExT p0 [] σ194 (rTC σ194 p0 10 (ghC σ194 p0))).mo (by decide))
          exact ⟨rfl, H468, X486, ⟨r214.1, rT_tg, fun q => absurd q (by decide)⟩, (((((((((((((((rT_gh.trans (e196.2.2 p0 r181.1).1.2.2).trans l185).trans (e169.2.2 p0 r154.1).1.2.2).trans l158).trans (e142.2.2 p0 r127.1).1.2.2).trans l131).trans (e115.2.2 p0 r100.1).1.2.2).trans l104).trans (e88.2.2 p0 r73.1).1.2.2).trans l77).trans (e61.2.2 p0 r46.1).1.2.2).trans l50).trans (e34.2.2 p0 r19.1).1.2.2).trans l23).trans (e7.2.2 p0 h_0_0.1).1.2.2), (by omega), (by omega)⟩
        · refine k_nil ?_
          refine hB _ _ _ _ (kgoC (is := KX9_init_77) rfl ?_)
          refine k_ldcR rfl ?_
          refine k_iload_n rfl ?_
          have z487 : slnC 1000003 = 135 := rfl
          refine k_inv (P := P_J0_charAt_5068e) (Q := Q_J0_charAt_5068e) rfl rfl rfl rfl (Nat.le_of_ble_eq_true rfl) (Or.inr ⟨rfl, by omega, by omega⟩) ⟨_, _, rfl, H195, (by decide), (by omega), (by omega)⟩ (fun w488 σ489 q490 => ?_)
          obtain ⟨x491, rfl, rfl, q492⟩ := q490
          refine k_st (st' := [.inl x491]) rfl ?_
          refine k_istore_n (ls' := [(3, .inl x491), (0, .inr (.inr (some p0))), (1, .inl v68_1), (2, .inl v68_2)]) rfl ?_
          refine k_iload_n rfl ?_
          refine k_bipush (m := 32) rfl (fun x493 h494 => ?_)
          refine k_ic_ne (fun h495 => ?_) (fun h495 => ?_)
          · refine hB _ _ _ _ (kgoC (is := KX9_init_96) rfl ?_)
            refine k_iload_n rfl ?_
            refine k_bipush (m := 24) rfl (fun x496 h497 => ?_)
            refine k_ic_ge (fun h498 => ?_) (fun h498 => ?_)
            · refine hB _ _ _ _ (kgoC (is := KX9_init_118) rfl ?_)
              obtain ⟨x499, e501, h500⟩ := iincC (n := 1) (m := 1) (v := v68_2) rfl (by omega) (by omega)
              refine k_iinc (ls' := [(2, .inl x499), (3, .inl x491), (0, .inr (.inr (some p0))), (1, .inl v68_1)]) rfl e501 rfl ?_
              refine k_goto ?_
              have X502 : ExC [996] σ178 σ194 := ExC.rf.tr (e196.mo (by decide))
              exact hW _ _ _ _ _ (List.forall_mem_cons.2 ⟨List.Mem.tail _ (List.Mem.tail _ (List.Mem.head _)), (List.forall_mem_cons.2 ⟨List.Mem.tail _ (List.Mem.tail _ (List.Mem.tail _ (List.Mem.head _))), (List.forall_mem_cons.2 ⟨List.Mem.head _, fun _ h => absurd h List.not_mem_nil⟩)⟩)⟩) (ih68 ((2147483647 - x499.toInt).toNat) (by omega) σ194 v68_1 x499 rfl H195 X502 (by omega) (by omega) (by omega) (by omega))
            · refine k_nil ?_
              refine hB _ _ _ _ (kgoC (is := KX9_init_102) rfl ?_)
              refine k_aload_n rfl ?_
              have c503 := (r154.mr e169 (by decide)).trans c155
              have c504 := (f184 306 (by decide)).trans c503
              have c505 := (r181.mr e196 (by decide)).trans c504
              have r506 := r181.x e196
              refine k_getO (k := 306) r506.ob (congrArg (fun z : Option Nat => (Sum.inr (Sum.inr z) : AvC)) c505) ?_
              refine k_iload_n rfl ?_
              refine k_aload_n rfl ?_
              refine k_getO (k := 306) r506.ob (congrArg (fun z : Option Nat => (Sum.inr (Sum.inr z) : AvC)) c505) ?_
              refine k_iload_n rfl ?_
              have t507 := t143.xt r150 (by decide) e153
              have t508 := t507.x e169
              have t509 := t508.xt r177 (by decide) e180
              have t510 := t509.x e196
              have l511 := (t143.alt r150 (by decide) e153).trans l144
              have l512 := (t507.al e169).trans l511
              have l513 := (t508.alt r177 (by decide) e180).trans l512
              have l514 := (t509.al e196).trans l513
              refine k_laload t510 (by omega) (by omega) (fun y515 => ?_)
              refine k_iload_n rfl ?_
              refine k_stat (P := P_X9_longerKey) (Q := Q_X9_longerKey) rfl rfl (Nat.le_of_ble_eq_true rfl) rfl rfl (Nat.le_of_ble_eq_true rfl) ⟨_, _, rfl, H195⟩ (fun w516 σ517 q518 => ?_)
              obtain ⟨y519, rfl, rfl⟩ := q518
              refine k_st (st' := [.inr (.inl y519), .inl v68_1, .inr (.inr (some a138))]) rfl ?_
              have l524 := (t143.ght r150 (by decide) e153).trans l145
              have l525 := (t507.gh e169).trans l524
              have l526 := (t508.ght r177 (by decide) e180).trans l525
              have l527 := (t509.gh e196).trans l526
              refine k_lastore5 H195 t510 l527 (by omega) (by omega) (fun σ520 H521 e522 c523 => ?_)
              have u528 : cpC σ520 = cpC σ194 := congrArg Prod.fst e522.2.1.1
              have u529 : spC σ520 = spC σ194 := congrArg Prod.snd e522.2.1.1
              have u530 : cnC σ520 = cnC σ194 := congrArg (fun z => z.1.1) (e522.2.1.2.1 (by decide))
              have u531 : slC σ520 = slC σ194 := congrArg (fun z => z.1.2) (e522.2.1.2.1 (by decide))
              refine k_nil ?_
              refine hB _ _ _ _ (kgoC (is := KX9_init_118) rfl ?_)
              obtain ⟨x532, e534, h533⟩ := iincC (n := 1) (m := 1) (v := v68_2) rfl (by omega) (by omega)
              refine k_iinc (ls' := [(2, .inl x532), (3, .inl x491), (0, .inr (.inr (some p0))), (1, .inl v68_1)]) rfl e534 rfl ?_
              refine k_goto ?_
              have X535 : ExC [996] σ178 σ194 := ExC.rf.tr (e196.mo (by decide))
              have X536 : ExC [996] σ178 σ520 := X535.tr (e522.mo (by decide))
              exact hW _ _ _ _ _ (List.forall_mem_cons.2 ⟨List.Mem.tail _ (List.Mem.tail _ (List.Mem.head _)), (List.forall_mem_cons.2 ⟨List.Mem.tail _ (List.Mem.tail _ (List.Mem.tail _ (List.Mem.head _))), (List.forall_mem_cons.2 ⟨List.Mem.head _, fun _ h => absurd h List.not_mem_nil⟩)⟩)⟩) (ih68 ((2147483647 - x532.toInt).toNat) (by omega) σ520 v68_1 x532 rfl H521 X536 (by omega) (by omega) (by omega) (by omega))
          · refine k_nil ?_
            refine hB _ _ _ _ (kgoC (is := KX9_init_90) rfl ?_)
            have z540 := tiC v68_1
            obtain ⟨x537, e539, h538⟩ := iincC (n := 1) (m := 1) (v := v68_1) rfl (by omega) (by omega)
            refine k_iinc (ls' := [(1, .inl x537), (3, .inl x491), (0, .inr (.inr (some p0))), (2, .inl v68_2)]) rfl e539 rfl ?_
            refine k_goto ?_
            refine hB _ _ _ _ (kgoC (is := KX9_init_118) rfl ?_)
            obtain ⟨x541, e543, h542⟩ := iincC (n := 1) (m := 1) (v := v68_2) rfl (by omega) (by omega)
            refine k_iinc (ls' := [(2, .inl x541), (1, .inl x537), (3, .inl x491), (0, .inr (.inr (some p0)))]) rfl e543 rfl ?_
            refine k_goto ?_
            have X544 : ExC [996] σ178 σ194 := ExC.rf.tr (e196.mo (by decide))
            exact hW _ _ _ _ _ (List.forall_mem_cons.2 ⟨List.Mem.tail _ (List.Mem.tail _ (List.Mem.tail _ (List.Mem.head _))), (List.forall_mem_cons.2 ⟨List.Mem.tail _ (List.Mem.head _), (List.forall_mem_cons.2 ⟨List.Mem.head _, fun _ h => absurd h List.not_mem_nil⟩)⟩)⟩) (ih68 ((2147483647 - x541.toInt).toNat) (by omega) σ194 x537 x541 rfl H195 X544 (by omega) (by omega) (by omega) (by omega))
    exact hW _ _ _ _ _ (List.forall_mem_cons.2 ⟨List.Mem.tail _ (List.Mem.tail _ (List.Mem.head _)), (List.forall_mem_cons.2 ⟨List.Mem.tail _ (List.Mem.head _), (List.forall_mem_cons.2 ⟨List.Mem.head _, fun _ h => absurd h List.not_mem_nil⟩)⟩)⟩) (L68 _ σ178 x190 x192 rfl H179 ExC.rf (by omega) (by omega) (by omega) (by omega))
theorem lg_X9_init : ∀ (As : List AvC) (σ : CsC), P_X9_init As σ → lgC As ≤ rX9_init.2.2.1 := by
  rintro As σ ⟨p0, rfl, -⟩
  exact Nat.le_of_ble_eq_true rfl
theorem m_X9_init (l : Launch) : CMetC l 11 184 P_X9_init Q_X9_init :=
  CMetC.of KX9_init [(239, P_J0_length_8abf5, Q_J0_length_8abf5), (238, P_J0_charAt_5068e, Q_J0_charAt_5068e), (185, P_X9_longerKey, Q_X9_longerKey)] hX9_init (by decide) (by decide) okX9_init (cc1C (m_J0_length_8abf5 l) (by decide) (cc1C (m_J0_charAt_5068e l) (by decide) (cc1C (m_X9_longerKey l) (by decide) cc0C))) (lg_X9_init) (b_X9_init)

abbrev P_X6_init : CpC := fun As σ => ∃ (p0 : Nat), As = [.inr (.inr (some p0))] ∧ HIC σ ∧ RawC σ p0 7 ∧ ZrC σ p0 ∧ cnC σ + 18 ≤ cpC σ ∧ slC σ + 2628 ≤ spC σ
abbrev Q_X6_init : CqC := fun As σ w τ => match As with
  | [.inr (.inr (some p0))] => w = none ∧ HIC τ ∧ ExT p0 [185, 995, 996, 999] σ τ ∧ TyC τ p0 7 ∧ ghC τ p0 = ghC σ p0 ∧ cnC τ = cnC σ + 18 ∧ slC τ = slC σ + 2628
  | _ => False
set_option maxRecDepth 100000 in
set_option maxHeartbeats 4000000 in
theorem b_X6_init : TbC KX6_init [(184, P_X9_init, Q_X9_init), (233, P_Jx4a65c_init_da8c8, Q_Jx4a65c_init_da8c8), (186, P_X9_keyOf, Q_X9_keyOf), (111, P_X5_init, Q_X5_init), (112, P_X5_addParam, Q_X5_addParam)] P_X6_init Q_X6_init := by
  · rintro As σ0 ⟨p0, rfl, H0, h_0_0, h_0_1, rm_0, rm_1⟩ hgr G hB hW
    change G 0 [(0, .inr (.inr (some p0)))] [] σ0
    refine hB _ _ _ _ (kgoC (is := KX6_init_0) rfl ?_)
    refine k_aload_n rfl ?_
    refine k_obj (Nat.le_of_ble_eq_true rfl) ?_
    refine k_aload_n rfl ?_
    refine k_new (c := 10) (g := 0) H0 (by decide) rfl (by omega) (by have hn : nfC 10 = 9 := rfl; omega) (fun a1 σ2 q3 H4 e5 r6 z7 l8 u9 u10 => ?_)
    rw [show nfC 10 = 9 from rfl] at u10
    have u11 : cpC σ2 = cpC σ0 := congrArg Prod.fst e5.2.1.1
    have u12 : spC σ2 = spC σ0 := congrArg Prod.snd e5.2.1.1
    refine k_dupR ?_
    refine k_spec (P := P_X9_init) (Q := Q_X9_init) rfl rfl rfl rfl (Nat.le_of_ble_eq_true rfl) ⟨_, rfl, H4, r6, z7, (by omega), (by omega)⟩ (fun w13 σ14 q15 => ?_)
    obtain ⟨rfl, H16, e17, t18, l19, u20, u21⟩ := q15
    have u23 : cpC σ14 = cpC σ2 := congrArg Prod.fst e17.2.1.1
    have u24 : spC σ14 = spC σ2 := congrArg Prod.snd e17.2.1.1
    have l22 := l19.trans l8
    refine k_st (st' := [.inr (.inr (some a1)), .inr (.inr (some p0))]) rfl ?_
    have r25 := h_0_0.x e5
    have r26 := r25.xt (r25.nr r6 (by decide)) e17
    refine k_putRW (c := 7) H16 r26 rfl fk210 (fun σ27 H28 e29 r30 c31 f32 f33 l34 => ?_)
    have u35 : cpC σ27 = cpC σ14 := congrArg Prod.fst e29.2.1.1
    have u36 : spC σ27 = spC σ14 := congrArg Prod.snd e29.2.1.1
    have u37 : cnC σ27 = cnC σ14 := congrArg (fun z => z.1.1) (e29.2.1.2.1 (by decide))
    have u38 : slC σ27 = slC σ14 := congrArg (fun z => z.1.2) (e29.2.1.2.1 (by decide))
    refine k_aload_n rfl ?_
    refine k_new (c := 0) (g := 6) H28 (by decide) rfl (by omega) (by have hn : nfC 0 = 3 := rfl; omega) (fun a39 σ40 q41 H42 e43 r44 z45 l46 u47 u48 => ?_)
    rw [show nfC 0 = 3 from rfl] at u48
    have u49 : cpC σ40 = cpC σ27 := congrArg Prod.fst e43.2.1.1
    have u50 : spC σ40 = spC σ27 := congrArg Prod.snd e43.2.1.1
    refine k_dupR ?_
    refine k_spec (P := P_Jx4a65c_init_da8c8) (Q := Q_Jx4a65c_init_da8c8) rfl rfl rfl rfl (Nat.le_of_ble_eq_true rfl) ⟨_, rfl, H42, r44, z45, (by omega), (by omega)⟩ (fun w51 σ52 q53 => ?_)
    obtain ⟨rfl, H54, e55, t56, l57, u58, u59⟩ := q53
    have u61 : cpC σ52 = cpC σ40 := congrArg Prod.fst e55.2.1.1
    have u62 : spC σ52 = spC σ40 := congrArg Prod.snd e55.2.1.1
    have u63 : cnC σ52 = cnC σ40 := congrArg (fun z => z.1.1) (e55.2.1.2.1 (by decide))
    have u64 : slC σ52 = slC σ40 := congrArg (fun z => z.1.2) (e55.2.1.2.1 (by decide))
    have l60 := l57.trans l46
    refine k_st (st' := [.inr (.inr (some a39)), .inr (.inr (some p0))]) rfl ?_
    have r65 := r30.x e43
    have r66 := r65.xt (r65.nr r44 (by decide)) e55
    refine k_putRW (c := 7) H54 r66 rfl fk211 (fun σ67 H68 e69 r70 c71 f72 f73 l74 => ?_)
    have u75 : cpC σ67 = cpC σ52 := congrArg Prod.fst e69.2.1.1
    have u76 : spC σ67 = spC σ52 := congrArg Prod.snd e69.2.1.1
    have u77 : cnC σ67 = cnC σ52 := congrArg (fun z => z.1.1) (e69.2.1.2.1 (by decide))
    have u78 : slC σ67 = slC σ52 := congrArg (fun z => z.1.2) (e69.2.1.2.1 (by decide))
    refine k_aload_n rfl ?_
    refine k_new (c := 0) (g := 11) H68 (by decide) rfl (by omega) (by have hn : nfC 0 = 3 := rfl; omega) (fun a79 σ80 q81 H82 e83 r84 z85 l86 u87 u88 => ?_)
    rw [show nfC 0 = 3 from rfl] at u88
    have u89 : cpC σ80 = cpC σ67 := congrArg Prod.fst e83.2.1.1
    have u90 : spC σ80 = spC σ67 := congrArg Prod.snd e83.2.1.1
    refine k_dupR ?_
    refine k_spec (P := P_Jx4a65c_init_da8c8) (Q := Q_Jx4a65c_init_da8c8) rfl rfl rfl rfl (Nat.le_of_ble_eq_true rfl) ⟨_, rfl, H82, r84, z85, (by omega), (by omega)⟩ (fun w91 σ92 q93 => ?_)
    obtain ⟨rfl, H94, e95, t96, l97, u98, u99⟩ := q93
    have u101 : cpC σ92 = cpC σ80 := congrArg Prod.fst e95.2.1.1
    have u102 : spC σ92 = spC σ80 := congrArg Prod.snd e95.2.1.1
    have u103 : cnC σ92 = cnC σ80 := congrArg (fun z => z.1.1) (e95.2.1.2.1 (by decide))
    have u104 : slC σ92 = slC σ80 := congrArg (fun z => z.1.2) (e95.2.1.2.1 (by decide))
    have l100 := l97.trans l86
    refine k_st (st' := [.inr (.inr (some a79)), .inr (.inr (some p0))]) rfl ?_
    have r105 := r70.x e83
    have r106 := r105.xt (r105.nr r84 (by decide)) e95
    refine k_putRW (c := 7) H94 r106 rfl fk212 (fun σ107 H108 e109 r110 c111 f112 f113 l114 => ?_)
    have u115 : cpC σ107 = cpC σ92 := congrArg Prod.fst e109.2.1.1
    have u116 : spC σ107 = spC σ92 := congrArg Prod.snd e109.2.1.1
    have u117 : cnC σ107 = cnC σ92 := congrArg (fun z => z.1.1) (e109.2.1.2.1 (by decide))
    have u118 : slC σ107 = slC σ92 := congrArg (fun z => z.1.2) (e109.2.1.2.1 (by decide))
    refine k_aload_n rfl ?_
    refine k_new (c := 0) (g := 2) H108 (by decide) rfl (by omega) (by have hn : nfC 0 = 3 := rfl; omega) (fun a119 σ120 q121 H122 e123 r124 z125 l126 u127 u128 => ?_)
    rw [show nfC 0 = 3 from rfl] at u128
    have u129 : cpC σ120 = cpC σ107 := congrArg Prod.fst e123.2.1.1
    have u130 : spC σ120 = spC σ107 := congrArg Prod.snd e123.2.1.1
    refine k_dupR ?_
    refine k_spec (P := P_Jx4a65c_init_da8c8) (Q := Q_Jx4a65c_init_da8c8) rfl rfl rfl rfl (Nat.le_of_ble_eq_true rfl) ⟨_, rfl, H122, r124, z125, (by omega), (by omega)⟩ (fun w131 σ132 q133 => ?_)
    obtain ⟨rfl, H134, e135, t136, l137, u138, u139⟩ := q133
    have u141 : cpC σ132 = cpC σ120 := congrArg Prod.fst e135.2.1.1
    have u142 : spC σ132 = spC σ120 := congrArg Prod.snd e135.2.1.1
    have u143 : cnC σ132 = cnC σ120 := congrArg (fun z => z.1.1) (e135.2.1.2.1 (by decide))
    have u144 : slC σ132 = slC σ120 := congrArg (fun z => z.1.2) (e135.2.1.2.1 (by decide))
    have l140 := l137.trans l126
    refine k_st (st' := [.inr (.inr (some a119)), .inr (.inr (some p0))]) rfl ?_
    have r145 := r110.x e123
    have r146 := r145.xt (r145.nr r124 (by decide)) e135
    refine k_putRW (c := 7) H134 r146 rfl fk213 (fun σ147 H148 e149 r150 c151 f152 f153 l154 => ?_)
    have u155 : cpC σ147 = cpC σ132 := congrArg Prod.fst e149.2.1.1
    have u156 : spC σ147 = spC σ132 := congrArg Prod.snd e149.2.1.1
    have u157 : cnC σ147 = cnC σ132 := congrArg (fun z => z.1.1) (e149.2.1.2.1 (by decide))
    have u158 : slC σ147 = slC σ132 := congrArg (fun z => z.1.2) (e149.2.1.2.1 (by decide))
    refine k_aload_n rfl ?_
    refine k_new (c := 0) (g := 9) H148 (by decide) rfl (by omega) (by have hn : nfC 0 = 3 := rfl; omega) (fun a159 σ160 q161 H162 e163 r164 z165 l166 u167 u168 => ?_)
    rw [show nfC 0 = 3 from rfl] at u168
    have u169 : cpC σ160 = cpC σ147 := congrArg Prod.fst e163.2.1.1
    have u170 : spC σ160 = spC σ147 := congrArg Prod.snd e163.2.1.1
    refine k_dupR ?_
    refine k_spec (P := P_Jx4a65c_init_da8c8) (Q := Q_Jx4a65c_init_da8c8) rfl rfl rfl rfl (Nat.le_of_ble_eq_true rfl) ⟨_, rfl, H162, r164, z165, (by omega), (by omega)⟩ (fun w171 σ172 q173 => ?_)
    obtain ⟨rfl, H174, e175, t176, l177, u178, u179⟩ := q173
    have u181 : cpC σ172 = cpC σ160 := congrArg Prod.fst e175.2.1.1
    have u182 : spC σ172 = spC σ160 := congrArg Prod.snd e175.2.1.1
    have u183 : cnC σ172 = cnC σ160 := congrArg (fun z => z.1.1) (e175.2.1.2.1 (by decide))
    have u184 : slC σ172 = slC σ160 := congrArg (fun z => z.1.2) (e175.2.1.2.1 (by decide))
    have l180 := l177.trans l166
    refine k_st (st' := [.inr (.inr (some a159)), .inr (.inr (some p0))]) rfl ?_
    have r185 := r150.x e163
    have r186 := r185.xt (r185.nr r164 (by decide)) e175
    refine k_putRW (c := 7) H174 r186 rfl fk214 (fun σ187 H188 e189 r190 c191 f192 f193 l194 => ?_)
    have u195 : cpC σ187 = cpC σ172 := congrArg Prod.fst e189.2.1.1
    have u196 : spC σ187 = spC σ172 := congrArg Prod.snd e189.2.1.1
    have u197 : cnC σ187 = cnC σ172 := congrArg (fun z => z.1.1) (e189.2.1.2.1 (by decide))
    have u198 : slC σ187 = slC σ172 := congrArg (fun z => z.1.2) (e189.2.1.2.1 (by decide))
    refine k_aload_n rfl ?_
    refine k_new (c := 6) (g := 0) H188 (by decide) rfl (by omega) (by have hn : nfC 6 = 7 := rfl; omega) (fun a199 σ200 q201 H202 e203 r204 z205 l206 u207 u208 => ?_)
    rw [show nfC 6 = 7 from rfl] at u208
    have u209 : cpC σ200 = cpC σ187 := congrArg Prod.fst e203.2.1.1
    have u210 : spC σ200 = spC σ187 := congrArg Prod.snd e203.2.1.1
    refine k_dupR ?_
    refine k_iconst (m := (-1)) rfl (fun x211 h212 => ?_)
    refine k_ldcR rfl ?_
    refine k_stat (P := P_X9_keyOf) (Q := Q_X9_keyOf) rfl rfl (Nat.le_of_ble_eq_true rfl) rfl rfl (Nat.le_of_ble_eq_true rfl) ⟨_, rfl, H202, (by decide)⟩ (fun w213 σ214 q215 => ?_)
    obtain ⟨y216, rfl, rfl⟩ := q215
    refine k_st (st' := [.inr (.inl y216), .inl x211, .inr (.inr (some a199)), .inr (.inr (some a199)), .inr (.inr (some p0))]) rfl ?_
    refine k_iconst (m := 5) rfl (fun x217 h218 => ?_)
    refine k_iconst (m := 0) rfl (fun x219 h220 => ?_)
    refine k_spec (P := P_X5_init) (Q := Q_X5_init) rfl rfl rfl rfl (Nat.le_of_ble_eq_true rfl) ⟨_, _, _, _, _, rfl, H202, r204, z205, (by omega), (by omega), (by omega), (by omega)⟩ (fun w221 σ222 q223 => ?_)
    obtain ⟨rfl, H224, e225, t226, l227, u228, u229, g230, q232, q233, q234, q235⟩ := q223
    have u236 : cpC σ222 = cpC σ200 := congrArg Prod.fst e225.2.1.1
    have u237 : spC σ222 = spC σ200 := congrArg Prod.snd e225.2.1.1
    have l231 := l227.trans l206
    refine k_st (st' := [.inr (.inr (some a199)), .inr (.inr (some p0))]) rfl ?_
    have r238 := r190.x e203
    have r239 := r238.xt (r238.nr r204 (by decide)) e225
    refine k_putRW (c := 7) H224 r239 rfl fk215 (fun σ240 H241 e242 r243 c244 f245 f246 l247 => ?_)
    have u248 : cpC σ240 = cpC σ222 := congrArg Prod.fst e242.2.1.1
    have u249 : spC σ240 = spC σ222 := congrArg Prod.snd e242.2.1.1
    have u250 : cnC σ240 = cnC σ222 := congrArg (fun z => z.1.1) (e242.2.1.2.1 (by decide))
    have u251 : slC σ240 = slC σ222 := congrArg (fun z => z.1.2) (e242.2.1.2.1 (by decide))
    refine k_aload_n rfl ?_
    refine k_new (c := 6) (g := 0) H241 (by decide) rfl (by omega) (by have hn : nfC 6 = 7 := rfl; omega) (fun a252 σ253 q254 H255 e256 r257 z258 l259 u260 u261 => ?_)
    rw [show nfC 6 = 7 from rfl] at u261
    have u262 : cpC σ253 = cpC σ240 := congrArg Prod.fst e256.2.1.1
    have u263 : spC σ253 = spC σ240 := congrArg Prod.snd e256.2.1.1
    refine k_dupR ?_
    refine k_iconst (m := (-1)) rfl (fun x264 h265 => ?_)
    refine k_ldcR rfl ?_
    refine k_stat (P := P_X9_keyOf) (Q := Q_X9_keyOf) rfl rfl (Nat.le_of_ble_eq_true rfl) rfl rfl (Nat.le_of_ble_eq_true rfl) ⟨_, rfl, H255, (by decide)⟩ (fun w266 σ267 q268 => ?_)
    obtain ⟨y269, rfl, rfl⟩ := q268
    refine k_st (st' := [.inr (.inl y269), .inl x264, .inr (.inr (some a252)), .inr (.inr (some a252)), .inr (.inr (some p0))]) rfl ?_
    refine k_iconst (m := 3) rfl (fun x270 h271 => ?_)
    refine k_iconst (m := 0) rfl (fun x272 h273 => ?_)
    refine k_spec (P := P_X5_init) (Q := Q_X5_init) rfl rfl rfl rfl (Nat.le_of_ble_eq_true rfl) ⟨_, _, _, _, _, rfl, H255, r257, z258, (by omega), (by omega), (by omega), (by omega)⟩ (fun w274 σ275 q276 => ?_)
    obtain ⟨rfl, H277, e278, t279, l280, u281, u282, g283, q285, q286, q287, q288⟩ := q276
    have u289 : cpC σ275 = cpC σ253 := congrArg Prod.fst e278.2.1.1
    have u290 : spC σ275 = spC σ253 := congrArg Prod.snd e278.2.1.1
    have l284 := l280.trans l259
    refine k_st (st' := [.inr (.inr (some a252)), .inr (.inr (some p0))]) rfl ?_
    have r291 := r243.x e256
    have r292 := r291.xt (r291.nr r257 (by decide)) e278
    refine k_putRW (c := 7) H277 r292 rfl fk216 (fun σ293 H294 e295 r296 c297 f298 f299 l300 => ?_)
    have u301 : cpC σ293 = cpC σ275 := congrArg Prod.fst e295.2.1.1
    have u302 : spC σ293 = spC σ275 := congrArg Prod.snd e295.2.1.1
    have u303 : cnC σ293 = cnC σ275 := congrArg (fun z => z.1.1) (e295.2.1.2.1 (by decide))
    have u304 : slC σ293 = slC σ275 := congrArg (fun z => z.1.2) (e295.2.1.2.1 (by decide))
    refine k_aload_n rfl ?_
    have c305 := (r243.mr e256 (by decide)).trans c244
    have c306 := (r291.mrt (r291.nr r257 (by decide)) e278 (by decide)).trans c305
    have c307 := (f299 215 (by decide)).trans c306
    refine k_getO (k := 215) r296.ob (congrArg (fun z : Option Nat => (Sum.inr (Sum.inr z) : AvC)) c307) ?_
    refine k_iconst (m := 4) rfl (fun x308 h309 => ?_)
    have t310 := t226.xt r239 (by decide) e242
    have t311 := t310.x e256
    have t312 := t311.xt r257 (by decide) e278
    have t313 := t312.xt r292 (by decide) e295
    refine k_inv (P := P_X5_addParam) (Q := Q_X5_addParam) rfl rfl rfl rfl (Nat.le_of_ble_eq_true rfl) (t313.rc (by decide)) ⟨_, _, rfl, H294, t313⟩ (fun w314 σ315 q316 => ?_)
    obtain ⟨rfl, H317, e318, q319, q320, q321, q322, q323, q324⟩ := q316
    have u325 : cpC σ315 = cpC σ293 := congrArg Prod.fst e318.2.1.1
    have u326 : spC σ315 = spC σ293 := congrArg Prod.snd e318.2.1.1
    have u327 : cnC σ315 = cnC σ293 := congrArg (fun z => z.1.1) (e318.2.1.2.1 (by decide))
    have u328 : slC σ315 = slC σ293 := congrArg (fun z => z.1.2) (e318.2.1.2.1 (by decide))
    refine k_st (st' := []) rfl ?_
    have r329 := r296.x e318
    have c330 := (r30.mr e43 (by decide)).trans c31
    have c331 := (r65.mrt (r65.nr r44 (by decide)) e55 (by decide)).trans c330
    have c332 := (f73 210 (by decide)).trans c331
    have c333 := (r70.mr e83 (by decide)).trans c332
    have c334 := (r105.mrt (r105.nr r84 (by decide)) e95 (by decide)).trans c333
    have c335 := (f113 210 (by decide)).trans c334
    have c336 := (r110.mr e123 (by decide)).trans c335
    have c337 := (r145.mrt (r145.nr r124 (by decide)) e135 (by decide)).trans c336
    have c338 := (f153 210 (by decide)).trans c337
    have c339 := (r150.mr e163 (by decide)).trans c338
    have c340 := (r185.mrt (r185.nr r164 (by decide)) e175 (by decide)).trans c339
    have c341 := (f193 210 (by decide)).trans c340
    have c342 := (r190.mr e203 (by decide)).trans c341
    have c343 := (r238.mrt (r238.nr r204 (by decide)) e225 (by decide)).trans c342
    have c344 := (f246 210 (by decide)).trans c343
    have c345 := (r243.mr e256 (by decide)).trans c344
    have c346 := (r291.mrt (r291.nr r257 (by decide)) e278 (by decide)).trans c345
    have c347 := (f299 210 (by decide)).trans c346
    have c348 := (r296.mr e318 (by decide)).trans c347
    have t350 := t18.xt r26 (by decide) e29
    have t351 := t350.x e43
    have t352 := t351.xt r44 (by decide) e55
    have t353 := t352.xt r66 (by decide) e69
    have t354 := t353.x e83
    have t355 := t354.xt r84 (by decide) e95
    have t356 := t355.xt r106 (by decide) e109
    have t357 := t356.x e123
    have t358 := t357.xt r124 (by decide) e135
    have t359 := t358.xt r146 (by decide) e149
    have t360 := t359.x e163
    have t361 := t360.xt r164 (by decide) e175
    have t362 := t361.xt r186 (by decide) e189
    have t363 := t362.x e203
    have t364 := t363.xt r204 (by decide) e225
    have t365 := t364.xt r239 (by decide) e242
    have t366 := t365.x e256
    have t367 := t366.xt r257 (by decide) e278
    have t368 := t367.xt r292 (by decide) e295
    have t369 := t368.x e318
    have F349 : RfC σ315 p0 210 (fRC σ315 p0 210) := by rw [c348]; exact Or.inr ⟨t369, Or.inl rfl, Or.inl rfl, fun z => absurd z (by decide), fun z => absurd z (by decide)⟩
    have c370 := (r70.mr e83 (by decide)).trans c71
    have c371 := (r105.mrt (r105.nr r84 (by decide)) e95 (by decide)).trans c370
    have c372 := (f113 211 (by decide)).trans c371
    have c373 := (r110.mr e123 (by decide)).trans c372
    have c374 := (r145.mrt (r145.nr r124 (by decide)) e135 (by decide)).trans c373
    have c375 := (f153 211 (by decide)).trans c374
    have c376 := (r150.mr e163 (by decide)).trans c375
    have c377 := (r185.mrt (r185.nr r164 (by decide)) e175 (by decide)).trans c376
    have c378 := (f193 211 (by decide)).trans c377
    have c379 := (r190.mr e203 (by decide)).trans c378
    have c380 := (r238.mrt (r238.nr r204 (by decide)) e225 (by decide)).trans c379
    have c381 := (f246 211 (by decide)).trans c380
    have c382 := (r243.mr e256 (by decide)).trans c381
    have c383 := (r291.mrt (r291.nr r257 (by decide)) e278 (by decide)).trans c382
    have c384 := (f299 211 (by decide)).trans c383
    have c385 := (r296.mr e318 (by decide)).trans c384
    have t387 := t56.xt r66 (by decide) e69
    have t388 := t387.x e83
    have t389 := t388.xt r84 (by decide) e95
    have t390 := t389.xt r106 (by decide) e109
    have t391 := t390.x e123
    have t392 := t391.xt r124 (by decide) e135
    have t393 := t392.xt r146 (by decide) e149
    have t394 := t393.x e163
    have t395 := t394.xt r164 (by decide) e175
    have t396 := t395.xt r186 (by decide) e189
    have t397 := t396.x e203
    have t398 := t397.xt r204 (by decide) e225
    have t399 := t398.xt r239 (by decide) e242
    have t400 := t399.x e256
    have t401 := t400.xt r257 (by decide) e278
    have t402 := t401.xt r292 (by decide) e295
    have t403 := t402.x e318
    have l404 := (t56.ght r66 (by decide) e69).trans l60
    have l405 := (t387.gh e83).trans l404
    have l406 := (t388.ght r84 (by decide) e95).trans l405
    have l407 := (t389.ght r106 (by decide) e109).trans l406
    have l408 := (t390.gh e123).trans l407
    have l409 := (t391.ght r124 (by decide) e135).trans l408
    have l410 := (t392.ght r146 (by decide) e149).trans l409
    have l411 := (t393.gh e163).trans l410
    have l412 := (t394.ght r164 (by decide) e175).trans l411
    have l413 := (t395.ght r186 (by decide) e189).trans l412
    have l414 := (t396.gh e203).trans l413
    have l415 := (t397.ght r204 (by decide) e225).trans l414
    have l416 := (t398.ght r239 (by decide) e242).trans l415
    have l417 := (t399.gh e256).trans l416
    have l418 := (t400.ght r257 (by decide) e278).trans l417
    have l419 := (t401.ght r292 (by decide) e295).trans l418
    have l420 := (t402.gh e318).trans l419
    have F386 : RfC σ315 p0 211 (fRC σ315 p0 211) := by rw [c385]; exact Or.inr ⟨t403, Or.inl rfl, Or.inr l420, fun z => absurd z (by decide), fun z => absurd z (by decide)⟩
    have c421 := (r110.mr e123 (by decide)).trans c111
    have c422 := (r145.mrt (r145.nr r124 (by decide)) e135 (by decide)).trans c421
    have c423 := (f153 212 (by decide)).trans c422
    have c424 := (r150.mr e163 (by decide)).trans c423
    have c425 := (r185.mrt (r185.nr r164 (by decide)) e175 (by decide)).trans c424
    have c426 := (f193 212 (by decide)).trans c425
    have c427 := (r190.mr e203 (by decide)).trans c426
    have c428 := (r238.mrt (r238.nr r204 (by decide)) e225 (by decide)).trans c427
    have c429 := (f246 212 (by decide)).trans c428
    have c430 := (r243.mr e256 (by decide)).trans c429
    have c431 := (r291.mrt (r291.nr r257 (by decide)) e278 (by decide)).trans c430
    have c432 := (f299 212 (by decide)).trans c431
    have c433 := (r296.mr e318 (by decide)).trans c432
    have t435 := t96.xt r106 (by decide) e109
    have t436 := t435.x e123
    have t437 := t436.xt r124 (by decide) e135
    have t438 := t437.xt r146 (by decide) e149
    have t439 := t438.x e163
    have t440 := t439.xt r164 (by decide) e175
    have t441 := t440.xt r186 (by decide) e189
    have t442 := t441.x e203
    have t443 := t442.xt r204 (by decide) e225
    have t444 := t443.xt r239 (by decide) e242
    have t445 := t444.x e256
    have t446 := t445.xt r257 (by decide) e278
    have t447 := t446.xt r292 (by decide) e295
    have t448 := t447.x e318
    have l449 := (t96.ght r106 (by decide) e109).trans l100
    have l450 := (t435.gh e123).trans l449
    have l451 := (t436.ght r124 (by decide) e135).trans l450
    have l452 := (t437.ght r146 (by decide) e149).trans l451
    have l453 := (t438.gh e163).trans l452
    have l454 := (t439.ght r164 (by decide) e175).trans l453
    have l455 := (t440.ght r186 (by decide) e189).trans l454
    have l456 := (t441.gh e203).trans l455
    have l457 := (t442.ght r204 (by decide) e225).trans l456
    have l458 := (t443.ght r239 (by decide) e242).trans l457
    have l459 := (t444.gh e256).trans l458
    have l460 := (t445.ght r257 (by decide) e278).trans l459
    have l461 := (t446.ght r292 (by decide) e295).trans l460
    have l462 := (t447.gh e318).trans l461
    have F434 : RfC σ315 p0 212 (fRC σ315 p0 212) := by rw [c433]; exact Or.inr ⟨t448, Or.inl rfl, Or.inr l462, fun z => absurd z (by decide), fun z => absurd z (by decide)⟩
    have c463 := (r150.mr e163 (by decide)).trans c151
    have c464 := (r185.mrt (r185.nr r164 (by decide)) e175 (by decide)).trans c463
    have c465 := (f193 213 (by decide)).trans c464
    have c466 := (r190.mr e203 (by decide)).trans c465
    have c467 := (r238.mrt (r238.nr r204 (by decide)) e225 (by decide)).trans c466
    have c468 := (f246 213 (by decide)).trans c467
    have c469 := (r243.mr e256 (by decide)).trans c468
    have c470 := (r291.mrt (r291.nr r257 (by decide)) e278 (by decide)).trans c469
    have c471 := (f299 213 (by decide)).trans c470
    have c472 := (r296.mr e318 (by decide)).trans c471
    have t474 := t136.xt r146 (by decide) e149
    have t475 := t474.x e163
    have t476 := t475.xt r164 (by decide) e175
    have t477 := t476.xt r186 (by decide) e189
    have t478 := t477.x e203
    have t479 := t478.xt r204 (by decide) e225
    have t480 := t479.xt r239 (by decide) e242
    have t481 := t480.x e256
    have t482 := t481.xt r257 (by decide) e278
    have t483 := t482.xt r292 (by decide) e295
    have t484 := t483.x e318
    have l485 := (t136.ght r146 (by decide) e149).trans l140
    have l486 := (t474.gh e163).trans l485
    have l487 := (t475.ght r164 (by decide) e175).trans l486
    have l488 := (t476.ght r186 (by decide) e189).trans l487
    have l489 := (t477.gh e203).trans l488
    have l490 := (t478.ght r204 (by decide) e225).trans l489
    have l491 := (t479.ght r239 (by decide) e242).trans l490
    have l492 := (t480.gh e256).trans l491
    have l493 := (t481.ght r257 (by decide) e278).trans l492
    have l494 := (t482.ght r292 (by decide) e295).trans l493
    have l495 := (t483.gh e318).trans l494
    have F473 : RfC σ315 p0 213 (fRC σ315 p0 213) := by rw [c472]; exact Or.inr ⟨t484, Or.inl rfl, Or.inr l495, fun z => absurd z (by decide), fun z => absurd z (by decide)⟩
    have c496 := (r190.mr e203 (by decide)).trans c191
    have c497 := (r238.mrt (r238.nr r204 (by decide)) e225 (by decide)).trans c496
    have c498 := (f246 214 (by decide)).trans c497
    have c499 := (r243.mr e256 (by decide)).trans c498
    have c500 := (r291.mrt (r291.nr r257 (by decide)) e278 (by decide)).trans c499
    have c501 := (f299 214 (by decide)).trans c500
    have c502 := (r296.mr e318 (by decide)).trans c501
    have t504 := t176.xt r186 (by decide) e189
    have t505 := t504.x e203
    have t506 := t505.xt r204 (by decide) e225
    have t507 := t506.xt r239 (by decide) e242
    have t508 := t507.x e256
    have t509 := t508.xt r257 (by decide) e278
    have t510 := t509.xt r292 (by decide) e295
    have t511 := t510.x e318
    have l512 := (t176.ght r186 (by decide) e189).trans l180
    have l513 := (t504.gh e203).trans l512
    have l514 := (t505.ght r204 (by decide) e225).trans l513
    have l515 := (t506.ght r239 (by decide) e242).trans l514
    have l516 := (t507.gh e256).trans l515
    have l517 := (t508.ght r257 (by decide) e278).trans l516
    have l518 := (t509.ght r292 (by decide) e295).trans l517
    have l519 := (t510.gh e318).trans l518
    have F503 : RfC σ315 p0 214 (fRC σ315 p0 214) := by rw [c502]; exact Or.inr ⟨t511, Or.inl rfl, Or.inr l519, fun z => absurd z (by decide), fun z => absurd z (by decide)⟩
    have c520 := (r296.mr e318 (by decide)).trans c307
    have t522 := t313.x e318
    have F521 : RfC σ315 p0 215 (fRC σ315 p0 215) := by rw [c520]; exact Or.inr ⟨t522, Or.inl rfl, Or.inl rfl, fun z => absurd z (by decide), fun z => absurd z (by decide)⟩
    have c523 := (r296.mr e318 (by decide)).trans c297
    have t525 := t279.xt r292 (by decide) e295
    have t526 := t525.x e318
    have F524 : RfC σ315 p0 216 (fRC σ315 p0 216) := by rw [c523]; exact Or.inr ⟨t526, Or.inl rfl, Or.inl rfl, fun z => absurd z (by decide), fun z => absurd z (by decide)⟩
    have X527 : XaC (rTC σ315 p0 7 (ghC σ315 p0)) p0 := XaC.no rT_tg (by decide)
    have H528 : HIC (rTC σ315 p0 7 (ghC σ315 p0)) := HIC.fin H317 r329 rfl (fn7 F349 F386 F434 F473 F503 F521 F524) X527 (fun z => absurd z (by decide))
    have u529 : cnC (rTC σ315 p0 7 (ghC σ315 p0)) = cnC σ315 := rfl
    have u530 : slC (rTC σ315 p0 7 (ghC σ315 p0)) = slC σ315 := rfl
    refine k_returnW (r329.we (g := ghC σ315 p0)) ?_
    have X531 : ExC [185, 995, 996, 999] σ240 σ253 := ExC.rf.tr (e256.mo (by decide))
    have X532 : ExC [185, 995, 996, 999] σ240 σ275 := (X531 : ExC [185, 995, 996, 999] σ240 σ253).nt (Nat.le_of_eq q254.symm) (e278.mo (by decide))
    have X533 : ExC [185, 995, 996, 999] σ187 σ200 := ExC.rf.tr (e203.mo (by decide))
    have X534 : ExC [185, 995, 996, 999] σ187 σ222 := (X533 : ExC [185, 995, 996, 999] σ187 σ200).nt (Nat.le_of_eq q201.symm) (e225.mo (by decide))
    have X535 : ExC [185, 995, 996, 999] σ147 σ160 := ExC.rf.tr (e163.mo (by decide))
    have X536 : ExC [185, 995, 996, 999] σ147 σ172 := (X535 : ExC [185, 995, 996, 999] σ147 σ160).nt (Nat.le_of_eq q161.symm) (e175.mo (by decide))
    have X537 : ExC [185, 995, 996, 999] σ107 σ120 := ExC.rf.tr (e123.mo (by decide))
    have X538 : ExC [185, 995, 996, 999] σ107 σ132 := (X537 : ExC [185, 995, 996, 999] σ107 σ120).nt (Nat.le_of_eq q121.symm) (e135.mo (by decide))
    have X539 : ExC [185, 995, 996, 999] σ67 σ80 := ExC.rf.tr (e83.mo (by decide))
    have X540 : ExC [185, 995, 996, 999] σ67 σ92 := (X539 : ExC [185, 995, 996, 999] σ67 σ80).nt (Nat.le_of_eq q81.symm) (e95.mo (by decide))
    have X541 : ExC [185, 995, 996, 999] σ27 σ40 := ExC.rf.tr (e43.mo (by decide))
    have X542 : ExC [185, 995, 996, 999] σ27 σ52 := (X541 : ExC [185, 995, 996, 999] σ27 σ40).nt (Nat.le_of_eq q41.symm) (e55.mo (by decide))
    have X543 : ExC [185, 995, 996, 999] σ0 σ2 := ExC.rf.tr (e5.mo (by decide))
    have X544 : ExC [185, 995, 996, 999] σ0 σ14 := (X543 : ExC [185, 995, 996, 999] σ0 σ2).nt (Nat.le_of_eq q3.symm) (e17.mo (by decide))
    have X545 : ExT p0 [185, 995, 996, 999] σ0 σ14 := (ExC.rf).t.tr X544.t
    have X546 : ExT p0 [185, 995, 996, 999] σ0 σ27 := X545.tr (e29.mo (by decide))
    have X547 : ExT p0 [185, 995, 996, 999] σ0 σ52 := X546.tr X542.t
    have X548 : ExT p0 [185, 995, 996, 999] σ0 σ67 := X547.tr (e69.mo (by decide))
    have X549 : ExT p0 [185, 995, 996, 999] σ0 σ92 := X548.tr X540.t
    have X550 : ExT p0 [185, 995, 996, 999] σ0 σ107 := X549.tr (e109.mo (by decide))
    have X551 : ExT p0 [185, 995, 996, 999] σ0 σ132 := X550.tr X538.t
    have X552 : ExT p0 [185, 995, 996, 999] σ0 σ147 := X551.tr (e149.mo (by decide))
    have X553 : ExT p0 [185, 995, 996, 999] σ0 σ172 := X552.tr X536.t
    have X554 : ExT p0 [185, 995, 996, 999] σ0 σ187 := X553.tr (e189.mo (by decide))
    have X555 : ExT p0 [185, 995, 996, 999] σ0 σ222 := X554.tr X534.t
    have X556 : ExT p0 [185, 995, 996, 999] σ0 σ240 := X555.tr (e242.mo (by decide))
    have X557 : ExT p0 [185, 995, 996, 999] σ0 σ275 := X556.tr X532.t
    have X558 : ExT p0 [185, 995, 996, 999] σ0 σ293 := X557.tr (e295.mo (by decide))
    have X559 : ExT p0 [185, 995, 996, 999] σ0 σ315 := X558.tr (e318.mo (by decide)).t
    have X560 : ExT p0 [185, 995, 996, 999] σ0 (rTC σ315 p0 7 (ghC σ315 p0)) := X559.tr ((ExT.rT : ExT p0 [] σ315 (rTC σ315 p0 7 (ghC σ315 p0))).mo (by decide))
    exact ⟨rfl, H528, X560, ⟨r329.1, rT_tg, fun q => absurd q (by decide)⟩, ((((((((((((((((((((((rT_gh.trans (e318.2.2 p0 r296.1).1.2.2).trans l300).trans (e278.2.2 p0 r291.1 (r291.nr r257 (by decide))).1.2.2).trans (e256.2.2 p0 r243.1).1.2.2).trans l247).trans (e225.2.2 p0 r238.1 (r238.nr r204 (by decide))).1.2.2).trans (e203.2.2 p0 r190.1).1.2.2).trans l194).trans (e175.2.2 p0 r185.1 (r185.nr r164 (by decide))).1.2.2).trans (e163.2.2 p0 r150.1).1.2.2).trans l154).trans (e135.2.2 p0 r145.1 (r145.nr r124 (by decide))).1.2.2).trans (e123.2.2 p0 r110.1).1.2.2).trans l114).trans (e95.2.2 p0 r105.1 (r105.nr r84 (by decide))).1.2.2).trans (e83.2.2 p0 r70.1).1.2.2).trans l74).trans (e55.2.2 p0 r65.1 (r65.nr r44 (by decide))).1.2.2).trans (e43.2.2 p0 r30.1).1.2.2).trans l34).trans (e17.2.2 p0 r25.1 (r25.nr r6 (by decide))).1.2.2).trans (e5.2.2 p0 h_0_0.1).1.2.2), (by omega), (by omega)⟩
theorem lg_X6_init : ∀ (As : List AvC) (σ : CsC), P_X6_init As σ → lgC As ≤ rX6_init.2.2.1 := by
  rintro As σ ⟨p0, rfl, -⟩
  exact Nat.le_of_ble_eq_true rfl
theorem m_X6_init (l : Launch) : CMetC l 12 116 P_X6_init Q_X6_init :=
  CMetC.of KX6_init [(184, P_X9_init, Q_X9_init), (233, P_Jx4a65c_init_da8c8, Q_Jx4a65c_init_da8c8), (186, P_X9_keyOf, Q_X9_keyOf), (111, P_X5_init, Q_X5_init), (112, P_X5_addParam, Q_X5_addParam)] hX6_init (by decide) (by decide) okX6_init (cc1C (m_X9_init l) (by decide) (cc1C (m_Jx4a65c_init_da8c8 l) (by decide) (cc1C (m_X9_keyOf l) (by decide) (cc1C (m_X5_init l) (by decide) (cc1C (m_X5_addParam l) (by decide) cc0C))))) (lg_X6_init) (b_X6_init)

abbrev P_X11_init : CpC := fun As σ => ∃ (p0 : Nat), As = [.inr (.inr (some p0))] ∧ HIC σ ∧ RawC σ p0 12 ∧ ZrC σ p0 ∧ cnC σ + 61 ≤ cpC σ ∧ slC σ + 23835 ≤ spC σ
abbrev Q_X11_init : CqC := fun As σ w τ => match As with
  | [.inr (.inr (some p0))] => w = none ∧ HIC τ ∧ ExT p0 [185, 995, 996, 999] σ τ ∧ TyC τ p0 12 ∧ ghC τ p0 = ghC σ p0 ∧ cnC τ = cnC σ + 61 ∧ slC τ = slC σ + 23835 ∧ (fIC τ p0 369 = 0) ∧ (fIC τ p0 370 = 0)
  | _ => False
set_option maxRecDepth 100000 in
set_option maxHeartbeats 4000000 in
theorem b_X11_init : TbC KX11_init [(116, P_X6_init, Q_X6_init), (122, P_X7_init, Q_X7_init), (48, P_X3_init, Q_X3_init), (0, P_X0_init, Q_X0_init), (87, P_X4_init, Q_X4_init)] P_X11_init Q_X11_init := by
  · rintro As σ0 ⟨p0, rfl, H0, h_0_0, h_0_1, rm_0, rm_1⟩ hgr G hB hW
    change G 0 [(0, .inr (.inr (some p0)))] [] σ0
    refine hB _ _ _ _ (kgoC (is := KX11_init_0) rfl ?_)
    refine k_aload_n rfl ?_
    refine k_obj (Nat.le_of_ble_eq_true rfl) ?_
    refine k_aload_n rfl ?_
    refine k_sipush (m := 2500) rfl (fun x1 h2 => ?_)
    refine k_newarray (t := 101) (g := 0) (n := 2500) H0 (by decide) rfl (by omega) (by decide) (by omega) (by omega) (fun a3 σ4 q5 H6 e7 t8 l9 l10 u11 u12 => ?_)
    have u13 : cpC σ4 = cpC σ0 := congrArg Prod.fst e7.2.1.1
    have u14 : spC σ4 = spC σ0 := congrArg Prod.snd e7.2.1.1
    have r15 := h_0_0.x e7
    refine k_putRW (c := 12) H6 r15 rfl fk360 (fun σ16 H17 e18 r19 c20 f21 f22 l23 => ?_)
    have u24 : cpC σ16 = cpC σ4 := congrArg Prod.fst e18.2.1.1
    have u25 : spC σ16 = spC σ4 := congrArg Prod.snd e18.2.1.1
    have u26 : cnC σ16 = cnC σ4 := congrArg (fun z => z.1.1) (e18.2.1.2.1 (by decide))
    have u27 : slC σ16 = slC σ4 := congrArg (fun z => z.1.2) (e18.2.1.2.1 (by decide))
    refine k_aload_n rfl ?_
    refine k_bipush (m := 40) rfl (fun x28 h29 => ?_)
    refine k_newarray (t := 100) (g := 0) (n := 40) H17 (by decide) rfl (by omega) (by decide) (by omega) (by omega) (fun a30 σ31 q32 H33 e34 t35 l36 l37 u38 u39 => ?_)
    have u40 : cpC σ31 = cpC σ16 := congrArg Prod.fst e34.2.1.1
    have u41 : spC σ31 = spC σ16 := congrArg Prod.snd e34.2.1.1
    have r42 := r19.x e34
    refine k_putRW (c := 12) H33 r42 rfl fk361 (fun σ43 H44 e45 r46 c47 f48 f49 l50 => ?_)
    have u51 : cpC σ43 = cpC σ31 := congrArg Prod.fst e45.2.1.1
    have u52 : spC σ43 = spC σ31 := congrArg Prod.snd e45.2.1.1
    have u53 : cnC σ43 = cnC σ31 := congrArg (fun z => z.1.1) (e45.2.1.2.1 (by decide))
    have u54 : slC σ43 = slC σ31 := congrArg (fun z => z.1.2) (e45.2.1.2.1 (by decide))
    refine k_aload_n rfl ?_
    refine k_bipush (m := 6) rfl (fun x55 h56 => ?_)
    refine k_newarray (t := 102) (g := 0) (n := 6) H44 (by decide) rfl (by omega) (by decide) (by omega) (by omega) (fun a57 σ58 q59 H60 e61 t62 l63 l64 u65 u66 => ?_)
    have u67 : cpC σ58 = cpC σ43 := congrArg Prod.fst e61.2.1.1
    have u68 : spC σ58 = spC σ43 := congrArg Prod.snd e61.2.1.1
    have r69 := r46.x e61
    refine k_putRW (c := 12) H60 r69 rfl fk362 (fun σ70 H71 e72 r73 c74 f75 f76 l77 => ?_)
    have u78 : cpC σ70 = cpC σ58 := congrArg Prod.fst e72.2.1.1
    have u79 : spC σ70 = spC σ58 := congrArg Prod.snd e72.2.1.1
    have u80 : cnC σ70 = cnC σ58 := congrArg (fun z => z.1.1) (e72.2.1.2.1 (by decide))
    have u81 : slC σ70 = slC σ58 := congrArg (fun z => z.1.2) (e72.2.1.2.1 (by decide))
    refine k_aload_n rfl ?_
    refine k_new (c := 7) (g := 0) H71 (by decide) rfl (by omega) (by have hn : nfC 7 = 9 := rfl; omega) (fun a82 σ83 q84 H85 e86 r87 z88 l89 u90 u91 => ?_)
    rw [show nfC 7 = 9 from rfl] at u91
    have u92 : cpC σ83 = cpC σ70 := congrArg Prod.fst e86.2.1.1
    have u93 : spC σ83 = spC σ70 := congrArg Prod.snd e86.2.1.1
    refine k_dupR ?_
    refine k_spec (P := P_X6_init) (Q := Q_X6_init) rfl rfl rfl rfl (Nat.le_of_ble_eq_true rfl) ⟨_, rfl, H85, r87, z88, (by omega), (by omega)⟩ (fun w94 σ95 q96 => ?_)
    obtain ⟨rfl, H97, e98, t99, l100, u101, u102⟩ := q96
    have u104 : cpC σ95 = cpC σ83 := congrArg Prod.fst e98.2.1.1
    have u105 : spC σ95 = spC σ83 := congrArg Prod.snd e98.2.1.1
    have l103 := l100.trans l89
    refine k_st (st' := [.inr (.inr (some a82)), .inr (.inr (some p0))]) rfl ?_
    have r106 := r73.x e86
    have r107 := r106.xt (r106.nr r87 (by decide)) e98
    refine k_putRW (c := 12) H97 r107 rfl fk363 (fun σ108 H109 e110 r111 c112 f113 f114 l115 => ?_)
    have u116 : cpC σ108 = cpC σ95 := congrArg Prod.fst e110.2.1.1
    have u117 : spC σ108 = spC σ95 := congrArg Prod.snd e110.2.1.1
    have u118 : cnC σ108 = cnC σ95 := congrArg (fun z => z.1.1) (e110.2.1.2.1 (by decide))
    have u119 : slC σ108 = slC σ95 := congrArg (fun z => z.1.2) (e110.2.1.2.1 (by decide))
    refine k_aload_n rfl ?_
    refine k_new (c := 7) (g := 0) H109 (by decide) rfl (by omega) (by have hn : nfC 7 = 9 := rfl; omega) (fun a120 σ121 q122 H123 e124 r125 z126 l127 u128 u129 => ?_)
    rw [show nfC 7 = 9 from rfl] at u129
    have u130 : cpC σ121 = cpC σ108 := congrArg Prod.fst e124.2.1.1
    have u131 : spC σ121 = spC σ108 := congrArg Prod.snd e124.2.1.1
    refine k_dupR ?_
    refine k_spec (P := P_X6_init) (Q := Q_X6_init) rfl rfl rfl rfl (Nat.le_of_ble_eq_true rfl) ⟨_, rfl, H123, r125, z126, (by omega), (by omega)⟩ (fun w132 σ133 q134 => ?_)
    obtain ⟨rfl, H135, e136, t137, l138, u139, u140⟩ := q134
    have u142 : cpC σ133 = cpC σ121 := congrArg Prod.fst e136.2.1.1
    have u143 : spC σ133 = spC σ121 := congrArg Prod.snd e136.2.1.1
    have l141 := l138.trans l127
    refine k_st (st' := [.inr (.inr (some a120)), .inr (.inr (some p0))]) rfl ?_
    have r144 := r111.x e124
    have r145 := r144.xt (r144.nr r125 (by decide)) e136
    refine k_putRW (c := 12) H135 r145 rfl fk364 (fun σ146 H147 e148 r149 c150 f151 f152 l153 => ?_)
    have u154 : cpC σ146 = cpC σ133 := congrArg Prod.fst e148.2.1.1
    have u155 : spC σ146 = spC σ133 := congrArg Prod.snd e148.2.1.1
    have u156 : cnC σ146 = cnC σ133 := congrArg (fun z => z.1.1) (e148.2.1.2.1 (by decide))
    have u157 : slC σ146 = slC σ133 := congrArg (fun z => z.1.2) (e148.2.1.2.1 (by decide))
    refine k_aload_n rfl ?_
    refine k_new (c := 8) (g := 0) H147 (by decide) rfl (by omega) (by have hn : nfC 8 = 7 := rfl; omega) (fun a158 σ159 q160 H161 e162 r163 z164 l165 u166 u167 => ?_)
    rw [show nfC 8 = 7 from rfl] at u167
    have u168 : cpC σ159 = cpC σ146 := congrArg Prod.fst e162.2.1.1
    have u169 : spC σ159 = spC σ146 := congrArg Prod.snd e162.2.1.1
    refine k_dupR ?_
    refine k_aload_n rfl ?_
    have c170 := (r149.mr e162 (by decide)).trans c150
    have r171 := r149.x e162
    refine k_getO (k := 364) r171.ob (congrArg (fun z : Option Nat => (Sum.inr (Sum.inr z) : AvC)) c170) ?_
    have t172 := t137.xt r145 (by decide) e148
    have t173 := t172.x e162
    refine k_spec (P := P_X7_init) (Q := Q_X7_init) rfl rfl rfl rfl (Nat.le_of_ble_eq_true rfl) ⟨_, _, rfl, H161, r163, z164, t173, (by omega), (by omega)⟩ (fun w174 σ175 q176 => ?_)
    obtain ⟨rfl, H177, e178, t179, l180, u181, u182⟩ := q176
    have u184 : cpC σ175 = cpC σ159 := congrArg Prod.fst e178.2.1.1
    have u185 : spC σ175 = spC σ159 := congrArg Prod.snd e178.2.1.1
    have u186 : cnC σ175 = cnC σ159 := congrArg (fun z => z.1.1) (e178.2.1.2.1 (by decide))
    have u187 : slC σ175 = slC σ159 := congrArg (fun z => z.1.2) (e178.2.1.2.1 (by decide))
    have l183 := l180.trans l165
    refine k_st (st' := [.inr (.inr (some a158)), .inr (.inr (some p0))]) rfl ?_
    have r188 := r171.xt (r171.nr r163 (by decide)) e178
    refine k_putRW (c := 12) H177 r188 rfl fk365 (fun σ189 H190 e191 r192 c193 f194 f195 l196 => ?_)
    have u197 : cpC σ189 = cpC σ175 := congrArg Prod.fst e191.2.1.1
    have u198 : spC σ189 = spC σ175 := congrArg Prod.snd e191.2.1.1
    have u199 : cnC σ189 = cnC σ175 := congrArg (fun z => z.1.1) (e191.2.1.2.1 (by decide))
    have u200 : slC σ189 = slC σ175 := congrArg (fun z => z.1.2) (e191.2.1.2.1 (by decide))
    refine k_aload_n rfl ?_
    refine k_new (c := 4) (g := 0) H190 (by decide) rfl (by omega) (by have hn : nfC 4 = 2 := rfl; omega) (fun a201 σ202 q203 H204 e205 r206 z207 l208 u209 u210 => ?_)
    rw [show nfC 4 = 2 from rfl] at u210
    have u211 : cpC σ202 = cpC σ189 := congrArg Prod.fst e205.2.1.1
    have u212 : spC σ202 = spC σ189 := congrArg Prod.snd e205.2.1.1
    refine k_dupR ?_
    refine k_aload_n rfl ?_
    have c213 := (r111.mr e124 (by decide)).trans c112
    have c214 := (r144.mrt (r144.nr r125 (by decide)) e136 (by decide)).trans c213
    have c215 := (f152 363 (by decide)).trans c214
    have c216 := (r149.mr e162 (by decide)).trans c215
    have c217 := (r171.mrt (r171.nr r163 (by decide)) e178 (by decide)).trans c216
    have c218 := (f195 363 (by decide)).trans c217
    have c219 := (r192.mr e205 (by decide)).trans c218
    have r220 := r192.x e205
    refine k_getO (k := 363) r220.ob (congrArg (fun z : Option Nat => (Sum.inr (Sum.inr z) : AvC)) c219) ?_
    have t221 := t99.xt r107 (by decide) e110
    have t222 := t221.x e124
    have t223 := t222.xt r125 (by decide) e136
    have t224 := t223.xt r145 (by decide) e148
    have t225 := t224.x e162
    have t226 := t225.xt r163 (by decide) e178
    have t227 := t226.xt r188 (by decide) e191
    have t228 := t227.x e205
    refine k_spec (P := P_X3_init) (Q := Q_X3_init) rfl rfl rfl rfl (Nat.le_of_ble_eq_true rfl) ⟨_, _, rfl, H204, r206, z207, t228, (by omega), (by omega)⟩ (fun w229 σ230 q231 => ?_)
    obtain ⟨rfl, H232, e233, t234, l235, u236, u237⟩ := q231
    have u239 : cpC σ230 = cpC σ202 := congrArg Prod.fst e233.2.1.1
    have u240 : spC σ230 = spC σ202 := congrArg Prod.snd e233.2.1.1
    have l238 := l235.trans l208
    refine k_st (st' := [.inr (.inr (some a201)), .inr (.inr (some p0))]) rfl ?_
    have r241 := r220.xt (r220.nr r206 (by decide)) e233
    refine k_putRW (c := 12) H232 r241 rfl fk366 (fun σ242 H243 e244 r245 c246 f247 f248 l249 => ?_)
    have u250 : cpC σ242 = cpC σ230 := congrArg Prod.fst e244.2.1.1
    have u251 : spC σ242 = spC σ230 := congrArg Prod.snd e244.2.1.1
    have u252 : cnC σ242 = cnC σ230 := congrArg (fun z => z.1.1) (e244.2.1.2.1 (by decide))
    have u253 : slC σ242 = slC σ230 := congrArg (fun z => z.1.2) (e244.2.1.2.1 (by decide))
    refine k_aload_n rfl ?_
    refine k_new (c := 1) (g := 0) H243 (by decide) rfl (by omega) (by have hn : nfC 1 = 7 := rfl; omega) (fun a254 σ255 q256 H257 e258 r259 z260 l261 u262 u263 => ?_)
    rw [show nfC 1 = 7 from rfl] at u263
    have u264 : cpC σ255 = cpC σ242 := congrArg Prod.fst e258.2.1.1
    have u265 : spC σ255 = spC σ242 := congrArg Prod.snd e258.2.1.1
    refine k_dupR ?_
    refine k_aload_n rfl ?_
    have c266 := (r220.mrt (r220.nr r206 (by decide)) e233 (by decide)).trans c219
    have c267 := (f248 363 (by decide)).trans c266
    have c268 := (r245.mr e258 (by decide)).trans c267
    have r269 := r245.x e258
    refine k_getO (k := 363) r269.ob (congrArg (fun z : Option Nat => (Sum.inr (Sum.inr z) : AvC)) c268) ?_
    have t270 := t228.xt r206 (by decide) e233
    have t271 := t270.xt r241 (by decide) e244
    have t272 := t271.x e258
    refine k_spec (P := P_X0_init) (Q := Q_X0_init) rfl rfl rfl rfl (Nat.le_of_ble_eq_true rfl) ⟨_, _, rfl, H257, r259, z260, t272, (by omega), (by omega)⟩ (fun w273 σ274 q275 => ?_)
    obtain ⟨rfl, H276, e277, t278, l279, u280, u281⟩ := q275
    have u283 : cpC σ274 = cpC σ255 := congrArg Prod.fst e277.2.1.1
    have u284 : spC σ274 = spC σ255 := congrArg Prod.snd e277.2.1.1
    have l282 := l279.trans l261
    refine k_st (st' := [.inr (.inr (some a254)), .inr (.inr (some p0))]) rfl ?_
    have r285 := r269.xt (r269.nr r259 (by decide)) e277
    refine k_putRW (c := 12) H276 r285 rfl fk367 (fun σ286 H287 e288 r289 c290 f291 f292 l293 => ?_)
    have u294 : cpC σ286 = cpC σ274 := congrArg Prod.fst e288.2.1.1
    have u295 : spC σ286 = spC σ274 := congrArg Prod.snd e288.2.1.1
    have u296 : cnC σ286 = cnC σ274 := congrArg (fun z => z.1.1) (e288.2.1.2.1 (by decide))
    have u297 : slC σ286 = slC σ274 := congrArg (fun z => z.1.2) (e288.2.1.2.1 (by decide))
    refine k_aload_n rfl ?_
    refine k_new (c := 5) (g := 0) H287 (by decide) rfl (by omega) (by have hn : nfC 5 = 21 := rfl; omega) (fun a298 σ299 q300 H301 e302 r303 z304 l305 u306 u307 => ?_)
    rw [show nfC 5 = 21 from rfl] at u307
    have u308 : cpC σ299 = cpC σ286 := congrArg Prod.fst e302.2.1.1
    have u309 : spC σ299 = spC σ286 := congrArg Prod.snd e302.2.1.1
    refine k_dupR ?_
    refine k_aload_n rfl ?_
    have c310 := (r289.mr e302 (by decide)).trans c290
    have r311 := r289.x e302
    refine k_getO (k := 367) r311.ob (congrArg (fun z : Option Nat => (Sum.inr (Sum.inr z) : AvC)) c310) ?_
    have t312 := t278.xt r285 (by decide) e288
    have t313 := t312.x e302
    refine k_spec (P := P_X4_init) (Q := Q_X4_init) rfl rfl rfl rfl (Nat.le_of_ble_eq_true rfl) ⟨_, _, rfl, H301, r303, z304, t313, (by omega), (by omega)⟩ (fun w314 σ315 q316 => ?_)
    obtain ⟨rfl, H317, e318, t319, l320, u321, u322⟩ := q316
    have u324 : cpC σ315 = cpC σ299 := congrArg Prod.fst e318.2.1.1
    have u325 : spC σ315 = spC σ299 := congrArg Prod.snd e318.2.1.1
    have l323 := l320.trans l305
    refine k_st (st' := [.inr (.inr (some a298)), .inr (.inr (some p0))]) rfl ?_
    have r326 := r311.xt (r311.nr r303 (by decide)) e318
    refine k_putRW (c := 12) H317 r326 rfl fk368 (fun σ327 H328 e329 r330 c331 f332 f333 l334 => ?_)
    have u335 : cpC σ327 = cpC σ315 := congrArg Prod.fst e329.2.1.1
    have u336 : spC σ327 = spC σ315 := congrArg Prod.snd e329.2.1.1
    have u337 : cnC σ327 = cnC σ315 := congrArg (fun z => z.1.1) (e329.2.1.2.1 (by decide))
    have u338 : slC σ327 = slC σ315 := congrArg (fun z => z.1.2) (e329.2.1.2.1 (by decide))
    refine k_aload_n rfl ?_
    refine k_bipush (m := (-2)) rfl (fun x339 h340 => ?_)
    refine k_putIW (c := 12) H328 r330 rfl (Or.inl fk371) (fun σ341 H342 e343 r344 c345 f346 f347 l348 => ?_)
    have u349 : cpC σ341 = cpC σ327 := congrArg Prod.fst e343.2.1.1
    have u350 : spC σ341 = spC σ327 := congrArg Prod.snd e343.2.1.1
    have u351 : cnC σ341 = cnC σ327 := congrArg (fun z => z.1.1) (e343.2.1.2.1 (by decide))
    have u352 : slC σ341 = slC σ327 := congrArg (fun z => z.1.2) (e343.2.1.2.1 (by decide))
    have c353 := (r19.mr e34 (by decide)).trans c20
    have c354 := (f49 360 (by decide)).trans c353
    have c355 := (r46.mr e61 (by decide)).trans c354
    have c356 := (f76 360 (by decide)).trans c355
    have c357 := (r73.mr e86 (by decide)).trans c356
    have c358 := (r106.mrt (r106.nr r87 (by decide)) e98 (by decide)).trans c357
    have c359 := (f114 360 (by decide)).trans c358
    have c360 := (r111.mr e124 (by decide)).trans c359
    have c361 := (r144.mrt (r144.nr r125 (by decide)) e136 (by decide)).trans c360
    have c362 := (f152 360 (by decide)).trans c361
    have c363 := (r149.mr e162 (by decide)).trans c362
    have c364 := (r171.mrt (r171.nr r163 (by decide)) e178 (by decide)).trans c363
    have c365 := (f195 360 (by decide)).trans c364
    have c366 := (r192.mr e205 (by decide)).trans c365
    have c367 := (r220.mrt (r220.nr r206 (by decide)) e233 (by decide)).trans c366
    have c368 := (f248 360 (by decide)).trans c367
    have c369 := (r245.mr e258 (by decide)).trans c368
    have c370 := (r269.mrt (r269.nr r259 (by decide)) e277 (by decide)).trans c369
    have c371 := (f292 360 (by decide)).trans c370
    have c372 := (r289.mr e302 (by decide)).trans c371
    have c373 := (r311.mrt (r311.nr r303 (by decide)) e318 (by decide)).trans c372
    have c374 := (f333 360 (by decide)).trans c373
    have c375 := (f347 360).trans c374
    have t377 := t8.xt r15 (by decide) e18
    have t378 := t377.x e34
    have t379 := t378.xt r42 (by decide) e45
    have t380 := t379.x e61
    have t381 := t380.xt r69 (by decide) e72
    have t382 := t381.x e86
    have t383 := t382.xt r87 (by decide) e98
    have t384 := t383.xt r107 (by decide) e110
    have t385 := t384.x e124
    have t386 := t385.xt r125 (by decide) e136
    have t387 := t386.xt r145 (by decide) e148
    have t388 := t387.x e162
    have t389 := t388.xt r163 (by decide) e178
    have t390 := t389.xt r188 (by decide) e191
    have t391 := t390.x e205
    have t392 := t391.xt r206 (by decide) e233
    have t393 := t392.xt r241 (by decide) e244
    have t394 := t393.x e258
    have t395 := t394.xt r259 (by decide) e277
    have t396 := t395.xt r285 (by decide) e288
    have t397 := t396.x e302
    have t398 := t397.xt r303 (by decide) e318
    have t399 := t398.xt r326 (by decide) e329
    have t400 := t399.xt r330 (by decide) e343
    have l401 := (t8.alt r15 (by decide) e18).trans l9
    have l402 := (t377.al e34).trans l401
    have l403 := (t378.alt r42 (by decide) e45).trans l402
    have l404 := (t379.al e61).trans l403
    have l405 := (t380.alt r69 (by decide) e72).trans l404
    have l406 := (t381.al e86).trans l405
    have l407 := (t382.alt r87 (by decide) e98).trans l406
    have l408 := (t383.alt r107 (by decide) e110).trans l407
    have l409 := (t384.al e124).trans l408
    have l410 := (t385.alt r125 (by decide) e136).trans l409
    have l411 := (t386.alt r145 (by decide) e148).trans l410
    have l412 := (t387.al e162).trans l411
    have l413 := (t388.alt r163 (by decide) e178).trans l412
    have l414 := (t389.alt r188 (by decide) e191).trans l413
    have l415 := (t390.al e205).trans l414
    have l416 := (t391.alt r206 (by decide) e233).trans l415
    have l417 := (t392.alt r241 (by decide) e244).trans l416
    have l418 := (t393.al e258).trans l417
    have l419 := (t394.alt r259 (by decide) e277).trans l418
    have l420 := (t395.alt r285 (by decide) e288).trans l419
    have l421 := (t396.al e302).trans l420
    have l422 := (t397.alt r303 (by decide) e318).trans l421
    have l423 := (t398.alt r326 (by decide) e329).trans l422
    have l424 := (t399.alt r330 (by decide) e343).trans l423
    have F376 : RfC σ341 p0 360 (fRC σ341 p0 360) := by rw [c375]; exact Or.inr ⟨t400, Or.inr l424, Or.inl rfl, fun z => absurd z (by decide), fun z => absurd z (by decide)⟩
    have c425 := (r46.mr e61 (by decide)).trans c47
    have c426 := (f76 361 (by decide)).trans c425
    have c427 := (r73.mr e86 (by decide)).trans c426
    have c428 := (r106.mrt (r106.nr r87 (by decide)) e98 (by decide)).trans c427
    have c429 := (f114 361 (by decide)).trans c428
    have c430 := (r111.mr e124 (by decide)).trans c429
    have c431 := (r144.mrt (r144.nr r125 (by decide)) e136 (by decide)).trans c430
    have c432 := (f152 361 (by decide)).trans c431
    have c433 := (r149.mr e162 (by decide)).trans c432
    have c434 := (r171.mrt (r171.nr r163 (by decide)) e178 (by decide)).trans c433
    have c435 := (f195 361 (by decide)).trans c434
    have c436 := (r192.mr e205 (by decide)).trans c435
    have c437 := (r220.mrt (r220.nr r206 (by decide)) e233 (by decide)).trans c436
    have c438 := (f248 361 (by decide)).trans c437
    have c439 := (r245.mr e258 (by decide)).trans c438
    have c440 := (r269.mrt (r269.nr r259 (by decide)) e277 (by decide)).trans c439
    have c441 := (f292 361 (by decide)).trans c440
    have c442 := (r289.mr e302 (by decide)).trans c441
    have c443 := (r311.mrt (r311.nr r303 (by decide)) e318 (by decide)).trans c442
    have c444 := (f333 361 (by decide)).trans c443
    have c445 := (f347 361).trans c444
    have t447 := t35.xt r42 (by decide) e45
    have t448 := t447.x e61
    have t449 := t448.xt r69 (by decide) e72
    have t450 := t449.x e86
    have t451 := t450.xt r87 (by decide) e98
    have t452 := t451.xt r107 (by decide) e110
    have t453 := t452.x e124
    have t454 := t453.xt r125 (by decide) e136
    have t455 := t454.xt r145 (by decide) e148
    have t456 := t455.x e162
    have t457 := t456.xt r163 (by decide) e178
    have t458 := t457.xt r188 (by decide) e191
    have t459 := t458.x e205
    have t460 := t459.xt r206 (by decide) e233
    have t461 := t460.xt r241 (by decide) e244
    have t462 := t461.x e258
    have t463 := t462.xt r259 (by decide) e277
    have t464 := t463.xt r285 (by decide) e288
    have t465 := t464.x e302
    have t466 := t465.xt r303 (by decide) e318
    have t467 := t466.xt r326 (by decide) e329
    have t468 := t467.xt r330 (by decide) e343
    have l469 := (t35.alt r42 (by decide) e45).trans l36
    have l470 := (t447.al e61).trans l469
    have l471 := (t448.alt r69 (by decide) e72).trans l470
    have l472 := (t449.al e86).trans l471
    have l473 := (t450.alt r87 (by decide) e98).trans l472
    have l474 := (t451.alt r107 (by decide) e110).trans l473
    have l475 := (t452.al e124).trans l474
    have l476 := (t453.alt r125 (by decide) e136).trans l475
    have l477 := (t454.alt r145 (by decide) e148).trans l476
    have l478 := (t455.al e162).trans l477
    have l479 := (t456.alt r163 (by decide) e178).trans l478
    have l480 := (t457.alt r188 (by decide) e191).trans l479
    have l481 := (t458.al e205).trans l480
    have l482 := (t459.alt r206 (by decide) e233).trans l481
    have l483 := (t460.alt r241 (by decide) e244).trans l482
    have l484 := (t461.al e258).trans l483
    have l485 := (t462.alt r259 (by decide) e277).trans l484
    have l486 := (t463.alt r285 (by decide) e288).trans l485
    have l487 := (t464.al e302).trans l486
    have l488 := (t465.alt r303 (by decide) e318).trans l487
    have l489 := (t466.alt r326 (by decide) e329).trans l488
    have l490 := (t467.alt r330 (by decide) e343).trans l489
    have l491 := (t35.ght r42 (by decide) e45).trans l37
    have l492 := (t447.gh e61).trans l491
    have l493 := (t448.ght r69 (by decide) e72).trans l492
    have l494 := (t449.gh e86).trans l493
    have l495 := (t450.ght r87 (by decide) e98).trans l494
    have l496 := (t451.ght r107 (by decide) e110).trans l495
    have l497 := (t452.gh e124).trans l496
    have l498 := (t453.ght r125 (by decide) e136).trans l497
    have l499 := (t454.ght r145 (by decide) e148).trans l498
    have l500 := (t455.gh e162).trans l499
    have l501 := (t456.ght r163 (by decide) e178).trans l500
    have l502 := (t457.ght r188 (by decide) e191).trans l501
    have l503 := (t458.gh e205).trans l502
    have l504 := (t459.ght r206 (by decide) e233).trans l503
    have l505 := (t460.ght r241 (by decide) e244).trans l504
    have l506 := (t461.gh e258).trans l505
    have l507 := (t462.ght r259 (by decide) e277).trans l506
    have l508 := (t463.ght r285 (by decide) e288).trans l507
    have l509 := (t464.gh e302).trans l508
    have l510 := (t465.ght r303 (by decide) e318).trans l509
    have l511 := (t466.ght r326 (by decide) e329).trans l510
    have l512 := (t467.ght r330 (by decide) e343).trans l511
    have F446 : RfC σ341 p0 361 (fRC σ341 p0 361) := by rw [c445]; exact Or.inr ⟨t468, Or.inr l490, Or.inr l512, fun z => absurd z (by decide), fun z => absurd z (by decide)⟩
    have c513 := (r73.mr e86 (by decide)).trans c74
    have c514 := (r106.mrt (r106.nr r87 (by decide)) e98 (by decide)).trans c513
    have c515 := (f114 362 (by decide)).trans c514
    have c516 := (r111.mr e124 (by decide)).trans c515
    have c517 := (r144.mrt (r144.nr r125 (by decide)) e136 (by decide)).trans c516
    have c518 := (f152 362 (by decide)).trans c517
    have c519 := (r149.mr e162 (by decide)).trans c518
    have c520 := (r171.mrt (r171.nr r163 (by decide)) e178 (by decide)).trans c519
    have c521 := (f195 362 (by decide)).trans c520
    have c522 := (r192.mr e205 (by decide)).trans c521
    have c523 := (r220.mrt (r220.nr r206 (by decide)) e233 (by decide)).trans c522
    have c524 := (f248 362 (by decide)).trans c523
    have c525 := (r245.mr e258 (by decide)).trans c524
    have c526 := (r269.mrt (r269.nr r259 (by decide)) e277 (by decide)).trans c525
    have c527 := (f292 362 (by decide)).trans c526
    have c528 := (r289.mr e302 (by decide)).trans c527
    have c529 := (r311.mrt (r311.nr r303 (by decide)) e318 (by decide)).trans c528
    have c530 := (f333 362 (by decide)).trans c529
    have c531 := (f347 362).trans c530
    have t533 := t62.xt r69 (by decide) e72
    have t534 := t533.x e86
    have t535 := t534.xt r87 (by decide) e98
    have t536 := t535.xt r107 (by decide) e110
    have t537 := t536.x e124
    have t538 := t537.xt r125 (by decide) e136
    have t539 := t538.xt r145 (by decide) e148
    have t540 := t539.x e162
    have t541 := t540.xt r163 (by decide) e178
    have t542 := t541.xt r188 (by decide) e191
    have t543 := t542.x e205
    have t544 := t543.xt r206 (by decide) e233
    have t545 := t544.xt r241 (by decide) e244
    have t546 := t545.x e258
    have t547 := t546.xt r259 (by decide) e277
    have t548 := t547.xt r285 (by decide) e288
    have t549 := t548.x e302
    have t550 := t549.xt r303 (by decide) e318
    have t551 := t550.xt r326 (by decide) e329
    have t552 := t551.xt r330 (by decide) e343
    have l553 := (t62.alt r69 (by decide) e72).trans l63
    have l554 := (t533.al e86).trans l553
    have l555 := (t534.alt r87 (by decide) e98).trans l554
    have l556 := (t535.alt r107 (by decide) e110).trans l555
    have l557 := (t536.al e124).trans l556
    have l558 := (t537.alt r125 (by decide) e136).trans l557
    have l559 := (t538.alt r145 (by decide) e148).trans l558
    have l560 := (t539.al e162).trans l559
    have l561 := (t540.alt r163 (by decide) e178).trans l560
    have l562 := (t541.alt r188 (by decide) e191).trans l561
    have l563 := (t542.al e205).trans l562
    have l564 := (t543.alt r206 (by decide) e233).trans l563
    have l565 := (t544.alt r241 (by decide) e244).trans l564
    have l566 := (t545.al e258).trans l565
    have l567 := (t546.alt r259 (by decide) e277).trans l566
    have l568 := (t547.alt r285 (by decide) e288).trans l567
    have l569 := (t548.al e302).trans l568
    have l570 := (t549.alt r303 (by decide) e318).trans l569
    have l571 := (t550.alt r326 (by decide) e329).trans l570
    have l572 := (t551.alt r330 (by decide) e343).trans l571
    have l573 := (t62.ght r69 (by decide) e72).trans l64
    have l574 := (t533.gh e86).trans l573
    have l575 := (t534.ght r87 (by decide) e98).trans l574
    have l576 := (t535.ght r107 (by decide) e110).trans l575
    have l577 := (t536.gh e124).trans l576
    have l578 := (t537.ght r125 (by decide) e136).trans l577
    have l579 := (t538.ght r145 (by decide) e148).trans l578
    have l580 := (t539.gh e162).trans l579
    have l581 := (t540.ght r163 (by decide) e178).trans l580
    have l582 := (t541.ght r188 (by decide) e191).trans l581
    have l583 := (t542.gh e205).trans l582
    have l584 := (t543.ght r206 (by decide) e233).trans l583
    have l585 := (t544.ght r241 (by decide) e244).trans l584
    have l586 := (t545.gh e258).trans l585
    have l587 := (t546.ght r259 (by decide) e277).trans l586
    have l588 := (t547.ght r285 (by decide) e288).trans l587
    have l589 := (t548.gh e302).trans l588
    have l590 := (t549.ght r303 (by decide) e318).trans l589
    have l591 := (t550.ght r326 (by decide) e329).trans l590
    have l592 := (t551.ght r330 (by decide) e343).trans l591
    have F532 : RfC σ341 p0 362 (fRC σ341 p0 362) := by rw [c531]; exact Or.inr ⟨t552, Or.inr l572, Or.inr l592, fun z => absurd z (by decide), fun z => absurd z (by decide)⟩
    have c593 := (r269.mrt (r269.nr r259 (by decide)) e277 (by decide)).trans c268
    have c594 := (f292 363 (by decide)).trans c593
    have c595 := (r289.mr e302 (by decide)).trans c594
    have c596 := (r311.mrt (r311.nr r303 (by decide)) e318 (by decide)).trans c595
    have c597 := (f333 363 (by decide)).trans c596
    have c598 := (f347 363).trans c597
    have t600 := t272.xt r259 (by decide) e277
    have t601 := t600.xt r285 (by decide) e288
    have t602 := t601.x e302
    have t603 := t602.xt r303 (by decide) e318
    have t604 := t603.xt r326 (by decide) e329
    have t605 := t604.xt r330 (by decide) e343
    have F599 : RfC σ341 p0 363 (fRC σ341 p0 363) := by rw [c598]; exact Or.inr ⟨t605, Or.inl rfl, Or.inl rfl, fun z => absurd z (by decide), fun z => absurd z (by decide)⟩
    have c606 := (r171.mrt (r171.nr r163 (by decide)) e178 (by decide)).trans c170
    have c607 := (f195 364 (by decide)).trans c606
    have c608 := (r192.mr e205 (by decide)).trans c607
    have c609 := (r220.mrt (r220.nr r206 (by decide)) e233 (by decide)).trans c608
    have c610 := (f248 364 (by decide)).trans c609
    have c611 := (r245.mr e258 (by decide)).trans c610
    have c612 := (r269.mrt (r269.nr r259 (by decide)) e277 (by decide)).trans c611
    have c613 := (f292 364 (by decide)).trans c612
    have c614 := (r289.mr e302 (by decide)).trans c613
    have c615 := (r311.mrt (r311.nr r303 (by decide)) e318 (by decide)).trans c614
    have c616 := (f333 364 (by decide)).trans c615
    have c617 := (f347 364).trans c616
    have t619 := t173.xt r163 (by decide) e178
    have t620 := t619.xt r188 (by decide) e191
    have t621 := t620.x e205
    have t622 := t621.xt r206 (by decide) e233
    have t623 := t622.xt r241 (by decide) e244
    have t624 := t623.x e258
    have t625 := t624.xt r259 (by decide) e277
    have t626 := t625.xt r285 (by decide) e288
    have t627 := t626.x e302
    have t628 := t627.xt r303 (by decide) e318
    have t629 := t628.xt r326 (by decide) e329
    have t630 := t629.xt r330 (by decide) e343
    have F618 : RfC σ341 p0 364 (fRC σ341 p0 364) := by rw [c617]; exact Or.inr ⟨t630, Or.inl rfl, Or.inl rfl, fun z => absurd z (by decide), fun z => absurd z (by decide)⟩
    have c631 := (r192.mr e205 (by decide)).trans c193
    have c632 := (r220.mrt (r220.nr r206 (by decide)) e233 (by decide)).trans c631
    have c633 := (f248 365 (by decide)).trans c632
    have c634 := (r245.mr e258 (by decide)).trans c633
    have c635 := (r269.mrt (r269.nr r259 (by decide)) e277 (by decide)).trans c634
    have c636 := (f292 365 (by decide)).trans c635
    have c637 := (r289.mr e302 (by decide)).trans c636
    have c638 := (r311.mrt (r311.nr r303 (by decide)) e318 (by decide)).trans c637
    have c639 := (f333 365 (by decide)).trans c638
    have c640 := (f347 365).trans c639
    have t642 := t179.xt r188 (by decide) e191
    have t643 := t642.x e205
    have t644 := t643.xt r206 (by decide) e233
    have t645 := t644.xt r241 (by decide) e244
    have t646 := t645.x e258
    have t647 := t646.xt r259 (by decide) e277
    have t648 := t647.xt r285 (by decide) e288
    have t649 := t648.x e302
    have t650 := t649.xt r303 (by decide) e318
    have t651 := t650.xt r326 (by decide) e329
    have t652 := t651.xt r330 (by decide) e343
    have F641 : RfC σ341 p0 365 (fRC σ341 p0 365) := by rw [c640]; exact Or.inr ⟨t652, Or.inl rfl, Or.inl rfl, fun z => absurd z (by decide), fun z => absurd z (by decide)⟩
    have c653 := (r245.mr e258 (by decide)).trans c246
    have c654 := (r269.mrt (r269.nr r259 (by decide)) e277 (by decide)).trans c653
    have c655 := (f292 366 (by decide)).trans c654
    have c656 := (r289.mr e302 (by decide)).trans c655
    have c657 := (r311.mrt (r311.nr r303 (by decide)) e318 (by decide)).trans c656
    have c658 := (f333 366 (by decide)).trans c657
    have c659 := (f347 366).trans c658
    have t661 := t234.xt r241 (by decide) e244
    have t662 := t661.x e258
    have t663 := t662.xt r259 (by decide) e277
    have t664 := t663.xt r285 (by decide) e288
    have t665 := t664.x e302
    have t666 := t665.xt r303 (by decide) e318
    have t667 := t666.xt r326 (by decide) e329
    have t668 := t667.xt r330 (by decide) e343
    have F660 : RfC σ341 p0 366 (fRC σ341 p0 366) := by rw [c659]; exact Or.inr ⟨t668, Or.inl rfl, Or.inl rfl, fun z => absurd z (by decide), fun z => absurd z (by decide)⟩
    have c669 := (r311.mrt (r311.nr r303 (by decide)) e318 (by decide)).trans c310
    have c670 := (f333 367 (by decide)).trans c669
    have c671 := (f347 367).trans c670
    have t673 := t313.xt r303 (by decide) e318
    have t674 := t673.xt r326 (by decide) e329
    have t675 := t674.xt r330 (by decide) e343
    have F672 : RfC σ341 p0 367 (fRC σ341 p0 367) := by rw [c671]; exact Or.inr ⟨t675, Or.inl rfl, Or.inl rfl, fun z => absurd z (by decide), fun z => absurd z (by decide)⟩
    have c676 := (f347 368).trans c331
    have t678 := t319.xt r326 (by decide) e329
    have t679 := t678.xt r330 (by decide) e343
    have F677 : RfC σ341 p0 368 (fRC σ341 p0 368) := by rw [c676]; exact Or.inr ⟨t679, Or.inl rfl, Or.inl rfl, fun z => absurd z (by decide), fun z => absurd z (by decide)⟩
    have c680 := (h_0_0.mi e7 (by decide)).trans (h_0_1 369).1
    have c681 := (f21 369).trans c680
    have c682 := (r19.mi e34 (by decide)).trans c681
    have c683 := (f48 369).trans c682
    have c684 := (r46.mi e61 (by decide)).trans c683
    have c685 := (f75 369).trans c684
    have c686 := (r73.mi e86 (by decide)).trans c685
    have c687 := (r106.mit (r106.nr r87 (by decide)) e98 (by decide)).trans c686
    have c688 := (f113 369).trans c687
    have c689 := (r111.mi e124 (by decide)).trans c688
    have c690 := (r144.mit (r144.nr r125 (by decide)) e136 (by decide)).trans c689
    have c691 := (f151 369).trans c690
    have c692 := (r149.mi e162 (by decide)).trans c691
    have c693 := (r171.mit (r171.nr r163 (by decide)) e178 (by decide)).trans c692
    have c694 := (f194 369).trans c693
    have c695 := (r192.mi e205 (by decide)).trans c694
    have c696 := (r220.mit (r220.nr r206 (by decide)) e233 (by decide)).trans c695
    have c697 := (f247 369).trans c696
    have c698 := (r245.mi e258 (by decide)).trans c697
    have c699 := (r269.mit (r269.nr r259 (by decide)) e277 (by decide)).trans c698
    have c700 := (f291 369).trans c699
    have c701 := (r289.mi e302 (by decide)).trans c700
    have c702 := (r311.mit (r311.nr r303 (by decide)) e318 (by decide)).trans c701
    have c703 := (f332 369).trans c702
    have c704 := (f346 369 (by decide)).trans c703
    have F705 : IvC 369 (fIC σ341 p0 369) := by rw [c704]; exact ⟨by show (0 : Int) ≤ _; decide, by show _ ≤ (2500 : Int); decide⟩
    have c706 := (h_0_0.mi e7 (by decide)).trans (h_0_1 370).1
    have c707 := (f21 370).trans c706
    have c708 := (r19.mi e34 (by decide)).trans c707
    have c709 := (f48 370).trans c708
    have c710 := (r46.mi e61 (by decide)).trans c709
    have c711 := (f75 370).trans c710
    have c712 := (r73.mi e86 (by decide)).trans c711
    have c713 := (r106.mit (r106.nr r87 (by decide)) e98 (by decide)).trans c712
    have c714 := (f113 370).trans c713
    have c715 := (r111.mi e124 (by decide)).trans c714
    have c716 := (r144.mit (r144.nr r125 (by decide)) e136 (by decide)).trans c715
    have c717 := (f151 370).trans c716
    have c718 := (r149.mi e162 (by decide)).trans c717
    have c719 := (r171.mit (r171.nr r163 (by decide)) e178 (by decide)).trans c718
    have c720 := (f194 370).trans c719
    have c721 := (r192.mi e205 (by decide)).trans c720
    have c722 := (r220.mit (r220.nr r206 (by decide)) e233 (by decide)).trans c721
    have c723 := (f247 370).trans c722
    have c724 := (r245.mi e258 (by decide)).trans c723
    have c725 := (r269.mit (r269.nr r259 (by decide)) e277 (by decide)).trans c724
    have c726 := (f291 370).trans c725
    have c727 := (r289.mi e302 (by decide)).trans c726
    have c728 := (r311.mit (r311.nr r303 (by decide)) e318 (by decide)).trans c727
    have c729 := (f332 370).trans c728
    have c730 := (f346 370 (by decide)).trans c729
    have F731 : IvC 370 (fIC σ341 p0 370) := by rw [c730]; exact ⟨by show (0 : Int) ≤ _; decide, by show _ ≤ (40 : Int); decide⟩
    have c732 := (h_0_0.mi e7 (by decide)).trans (h_0_1 372).1
    have c733 := (f21 372).trans c732
    have c734 := (r19.mi e34 (by decide)).trans c733
    have c735 := (f48 372).trans c734
    have c736 := (r46.mi e61 (by decide)).trans c735
    have c737 := (f75 372).trans c736
    have c738 := (r73.mi e86 (by decide)).trans c737
    have c739 := (r106.mit (r106.nr r87 (by decide)) e98 (by decide)).trans c738
    have c740 := (f113 372).trans c739
    have c741 := (r111.mi e124 (by decide)).trans c740
    have c742 := (r144.mit (r144.nr r125 (by decide)) e136 (by decide)).trans c741
    have c743 := (f151 372).trans c742
    have c744 := (r149.mi e162 (by decide)).trans c743
    have c745 := (r171.mit (r171.nr r163 (by decide)) e178 (by decide)).trans c744
    have c746 := (f194 372).trans c745
    have c747 := (r192.mi e205 (by decide)).trans c746
    have c748 := (r220.mit (r220.nr r206 (by decide)) e233 (by decide)).trans c747
    have c749 := (f247 372).trans c748
    have c750 := (r245.mi e258 (by decide)).trans c749
    have c751 := (r269.mit (r269.nr r259 (by decide)) e277 (by decide)).trans c750
    have c752 := (f291 372).trans c751
    have c753 := (r289.mi e302 (by decide)).trans c752
    have c754 := (r311.mit (r311.nr r303 (by decide)) e318 (by decide)).trans c753
    have c755 := (f332 372).trans c754
    have c756 := (f346 372 (by decide)).trans c755
    have F757 : IvC 372 (fIC σ341 p0 372) := by rw [c756]; exact ⟨by show (0 : Int) ≤ _; decide, by show _ ≤ (1 : Int); decide⟩
    have X758 : XaC (rTC σ341 p0 12 (ghC σ341 p0)) p0 := XaC.no rT_tg (by decide)
    have H759 : HIC (rTC σ341 p0 12 (ghC σ341 p0)) := HIC.fin H342 r344 rfl (fn12 F376 F446 F532 F599 F618 F641 F660 F672 F677 F705 F731 F757) X758 (fun z => absurd z (by decide))
    have u760 : cnC (rTC σ341 p0 12 (ghC σ341 p0)) = cnC σ341 := rfl
    have u761 : slC (rTC σ341 p0 12 (ghC σ341 p0)) = slC σ341 := rfl
    refine k_returnW (r344.we (g := ghC σ341 p0)) ?_
    have X762 : ExC [185, 995, 996, 999] σ286 σ299 := ExC.rf.tr (e302.mo (by decide))
    have X763 : ExC [185, 995, 996, 999] σ286 σ315 := (X762 : ExC [185, 995, 996, 999] σ286 σ299).nt (Nat.le_of_eq q300.symm) (e318.mo (by decide))
    have X764 : ExC [185, 995, 996, 999] σ242 σ255 := ExC.rf.tr (e258.mo (by decide))
    have X765 : ExC [185, 995, 996, 999] σ242 σ274 := (X764 : ExC [185, 995, 996, 999] σ242 σ255).nt (Nat.le_of_eq q256.symm) (e277.mo (by decide))
    have X766 : ExC [185, 995, 996, 999] σ189 σ202 := ExC.rf.tr (e205.mo (by decide))
    have X767 : ExC [185, 995, 996, 999] σ189 σ230 := (X766 : ExC [185, 995, 996, 999] σ189 σ202).nt (Nat.le_of_eq q203.symm) (e233.mo (by decide))
    have X768 : ExC [185, 995, 996, 999] σ146 σ159 := ExC.rf.tr (e162.mo (by decide))
    have X769 : ExC [185, 995, 996, 999] σ146 σ175 := (X768 : ExC [185, 995, 996, 999] σ146 σ159).nt (Nat.le_of_eq q160.symm) (e178.mo (by decide))
    have X770 : ExC [185, 995, 996, 999] σ108 σ121 := ExC.rf.tr (e124.mo (by decide))
    have X771 : ExC [185, 995, 996, 999] σ108 σ133 := (X770 : ExC [185, 995, 996, 999] σ108 σ121).nt (Nat.le_of_eq q122.symm) (e136.mo (by decide))
    have X772 : ExC [185, 995, 996, 999] σ70 σ83 := ExC.rf.tr (e86.mo (by decide))
    have X773 : ExC [185, 995, 996, 999] σ70 σ95 := (X772 : ExC [185, 995, 996, 999] σ70 σ83).nt (Nat.le_of_eq q84.symm) (e98.mo (by decide))
    have X774 : ExT p0 [185, 995, 996, 999] σ0 σ4 := (ExC.rf).t.tr (e7.mo (by decide)).t
    have X775 : ExT p0 [185, 995, 996, 999] σ0 σ16 := X774.tr (e18.mo (by decide))
    have X776 : ExT p0 [185, 995, 996, 999] σ0 σ31 := X775.tr (e34.mo (by decide)).t
    have X777 : ExT p0 [185, 995, 996, 999] σ0 σ43 := X776.tr (e45.mo (by decide))
    have X778 : ExT p0 [185, 995, 996, 999] σ0 σ58 := X777.tr (e61.mo (by decide)).t
    have X779 : ExT p0 [185, 995, 996, 999] σ0 σ70 := X778.tr (e72.mo (by decide))
    have X780 : ExT p0 [185, 995, 996, 999] σ0 σ95 := X779.tr X773.t
    have X781 : ExT p0 [185, 995, 996, 999] σ0 σ108 := X780.tr (e110.mo (by decide))
    have X782 : ExT p0 [185, 995, 996, 999] σ0 σ133 := X781.tr X771.t
    have X783 : ExT p0 [185, 995, 996, 999] σ0 σ146 := X782.tr (e148.mo (by decide))
    have X784 : ExT p0 [185, 995, 996, 999] σ0 σ175 := X783.tr X769.t
    have X785 : ExT p0 [185, 995, 996, 999] σ0 σ189 := X784.tr (e191.mo (by decide))
    have X786 : ExT p0 [185, 995, 996, 999] σ0 σ230 := X785.tr X767.t
    have X787 : ExT p0 [185, 995, 996, 999] σ0 σ242 := X786.tr (e244.mo (by decide))
    have X788 : ExT p0 [185, 995, 996, 999] σ0 σ274 := X787.tr X765.t
    have X789 : ExT p0 [185, 995, 996, 999] σ0 σ286 := X788.tr (e288.mo (by decide))
    have X790 : ExT p0 [185, 995, 996, 999] σ0 σ315 := X789.tr X763.t
    have X791 : ExT p0 [185, 995, 996, 999] σ0 σ327 := X790.tr (e329.mo (by decide))
    have X792 : ExT p0 [185, 995, 996, 999] σ0 σ341 := X791.tr (e343.mo (by decide))
    have X793 : ExT p0 [185, 995, 996, 999] σ0 (rTC σ341 p0 12 (ghC σ341 p0)) := X792.tr ((ExT.rT : ExT p0 [] σ341 (rTC σ341 p0 12 (ghC σ341 p0))).mo (by decide))
    exact ⟨rfl, H759, X793, ⟨r344.1, rT_tg, fun q => absurd q (by decide)⟩, (((((((((((((((((((((((((rT_gh.trans l348).trans l334).trans (e318.2.2 p0 r311.1 (r311.nr r303 (by decide))).1.2.2).trans (e302.2.2 p0 r289.1).1.2.2).trans l293).trans (e277.2.2 p0 r269.1 (r269.nr r259 (by decide))).1.2.2).trans (e258.2.2 p0 r245.1).1.2.2).trans l249).trans (e233.2.2 p0 r220.1 (r220.nr r206 (by decide))).1.2.2).trans (e205.2.2 p0 r192.1).1.2.2).trans l196).trans (e178.2.2 p0 r171.1 (r171.nr r163 (by decide))).1.2.2).trans (e162.2.2 p0 r149.1).1.2.2).trans l153).trans (e136.2.2 p0 r144.1 (r144.nr r125 (by decide))).1.2.2).trans (e124.2.2 p0 r111.1).1.2.2).trans l115).trans (e98.2.2 p0 r106.1 (r106.nr r87 (by decide))).1.2.2).trans (e86.2.2 p0 r73.1).1.2.2).trans l77).trans (e61.2.2 p0 r46.1).1.2.2).trans l50).trans (e34.2.2 p0 r19.1).1.2.2).trans l23).trans (e7.2.2 p0 h_0_0.1).1.2.2), (by omega), (by omega), (show fIC σ341 p0 369 = _ from c704), (show fIC σ341 p0 370 = _ from c730)⟩
theorem lg_X11_init : ∀ (As : List AvC) (σ : CsC), P_X11_init As σ → lgC As ≤ rX11_init.2.2.1 := by
  rintro As σ ⟨p0, rfl, -⟩
  exact Nat.le_of_ble_eq_true rfl
theorem m_X11_init (l : Launch) : CMetC l 13 200 P_X11_init Q_X11_init :=
  CMetC.of KX11_init [(116, P_X6_init, Q_X6_init), (122, P_X7_init, Q_X7_init), (48, P_X3_init, Q_X3_init), (0, P_X0_init, Q_X0_init), (87, P_X4_init, Q_X4_init)] hX11_init (by decide) (by decide) okX11_init (cc1C (m_X6_init l) (by decide) (cc1C (m_X7_init l) (by decide) (cc1C (m_X3_init l) (by decide) (cc1C (m_X0_init l) (by decide) (cc1C (m_X4_init l) (by decide) cc0C))))) (lg_X11_init) (b_X11_init)
