theorem lstC {σ : CsC} {q k a : Nat} (h : HI0 σ) (t : TyC σ q 7) (hk : [211, 212, 213, 214].elem k = true) (ha : fRC σ q k = some a) : TyC σ a 0 := by
  have z := ((h q t.1).1 k (by rw [t.2.1]; simp only [List.elem_eq_mem, List.mem_cons, List.not_mem_nil, or_false, decide_eq_true_eq] at hk; omega)).2
  rw [ha] at z
  simp only [List.elem_eq_mem, List.mem_cons, List.not_mem_nil, or_false, decide_eq_true_eq] at hk
  rcases hk with rfl | rfl | rfl | rfl <;> exact (z.resolve_left (by decide)).1
abbrev P_X7_readProgram : CpC := fun As σ => ∃ (p0 : Nat) (p1 : Nat) (p2 : Nat) (p3 : Int32), As = [.inr (.inr (some p0)), .inr (.inr (some p1)), .inr (.inr (some p2)), .inl p3] ∧ HIC σ ∧ TyC σ p0 8 ∧ TyC σ p1 7 ∧ TyC σ p2 101 ∧ alC σ p2 = 2500 ∧ 0 ≤ p3.toInt ∧ p3.toInt ≤ 2500 ∧ cnC σ + 4208 ≤ cpC σ ∧ slC σ + 4 * gsC σ (cnC σ) + 22 * 4208 + 20000 ≤ spC σ
abbrev Q_X7_readProgram : CqC := fun As σ w τ => match As with
  | [.inr (.inr (some p0)), .inr (.inr (some p1)), .inr (.inr (some p2)), .inl p3] => ∃ r : Int32, w = some (.inl r) ∧ HIC τ ∧ ExC [0, 1, 2, 60, 61, 62, 63, 64, 65, 66, 67, 68, 69, 70, 72, 73, 74, 75, 76, 180, 182, 183, 184, 185, 186, 217, 218, 240, 241, 242, 243, 244, 246, 270, 271, 272, 273, 275, 276, 277, 278, 279, 280, 305, 307, 308, 330, 331, 332, 333, 334, 995, 998, 999] σ τ ∧ 0 ≤ r.toInt ∧ r.toInt ≤ 3 ∧ ((cnC τ : Int) ≤ cnC σ + 8 * p3.toInt + 200) ∧ (slC τ + 4 * gsC τ (cnC τ) ≤ slC σ + 4 * gsC σ (cnC σ) + 22 * (cnC τ - cnC σ)) ∧ (fRC τ p0 240 = some p1) ∧ (∃ s, Z0Y s ∧ ReC τ p0 (prlY 11 s) ∧ r.toInt = zFt (prlY 11 s))
  | _ => False
set_option maxRecDepth 100000 in
set_option maxHeartbeats 4000000 in
theorem b_X7_readProgram : TbC KX7_readProgram [(117, P_X6_clear, Q_X6_clear), (188, P_X9_cutText, Q_X9_cutText), (125, P_X7_code, Q_X7_code), (134, P_X7_readMethod, Q_X7_readMethod)] P_X7_readProgram Q_X7_readProgram := by
  · rintro As σ0 ⟨p0, p1, p2, p3, rfl, H0, h_0_0, h_1_0, h_2_0, h_2_1, h_3_0, h_3_1, q_0, q_1⟩ hgr G hB hW
    change G 0 [(0, .inr (.inr (some p0))), (1, .inr (.inr (some p1))), (2, .inr (.inr (some p2))), (3, .inl p3)] [] σ0
    refine hB _ _ _ _ (kgoC (is := KX7_readProgram_0) rfl ?_)
    refine k_aload_n rfl ?_
    refine k_aload_n rfl ?_
    refine k_putR kp240 H0 h_0_0 fk240 (rf240 h_1_0) (fun σ1 H2 e3 c4 => ?_)
    refine k_aload_n rfl ?_
    refine k_aload_n rfl ?_
    have t5 := h_1_0.x e3
    obtain ⟨a8, e6, c7, t9⟩ := cg210 H2.1 t5
    refine k_get kg210 t5 e6 ?_
    have t10 := h_0_0.x e3
    refine k_putR kp241 H2 t10 fk241 (rf241 t9) (fun σ11 H12 e13 c14 => ?_)
    refine k_aload_n rfl ?_
    have t15 := t10.x e13
    have c16 := (t10.mr e13 (by decide)).trans c4
    refine k_get kg240 t15 (congrArg (fun z : Option Nat => (Sum.inr (Sum.inr z) : AvC)) c16) ?_
    have t17 := t5.x e13
    refine k_inv (P := P_X6_clear) (Q := Q_X6_clear) rfl rfl rfl rfl (Nat.le_of_ble_eq_true rfl) (t17.rc (by decide)) ⟨_, rfl, H12, t17⟩ (fun w18 σ19 q20 => ?_)
    obtain ⟨rfl, H21, e22, q23⟩ := q20
    refine k_st (st' := []) rfl ?_
    refine k_aload_n rfl ?_
    have t24 := t15.x e22
    have c25 := (t15.mr e22 (by decide)).trans c14
    refine k_get kg241 t24 (congrArg (fun z : Option Nat => (Sum.inr (Sum.inr z) : AvC)) c25) ?_
    refine k_aload_n rfl ?_
    refine k_iload_n rfl ?_
    have t26 := t9.x e13
    have t27 := t26.x e22
    have t28 := h_2_0.x e3
    have t29 := t28.x e13
    have t30 := t29.x e22
    have l31 := (h_2_0.al e3).trans h_2_1
    have l32 := (t28.al e13).trans l31
    have l33 := (t29.al e22).trans l32
    refine k_inv (P := P_X9_cutText) (Q := Q_X9_cutText) rfl rfl rfl rfl (Nat.le_of_ble_eq_true rfl) (t27.rc (by decide)) ⟨_, _, _, rfl, H21, t27, t30, l33, (by omega), (by omega)⟩ (fun w34 σ35 q36 => ?_)
    obtain ⟨rfl, H37, e38, q39, q40⟩ := q36
    refine k_st (st' := []) rfl ?_
    refine k_aload_n rfl ?_
    refine k_iconst (m := 0) rfl (fun x41 h42 => ?_)
    have t43 := t24.x e38
    refine k_putI kp242 H37 t43 (Or.inl fk242) (by show 0 ≤ _; omega) (by show _ ≤ 500; omega) (fun σ44 H45 e46 c47 => ?_)
    refine k_aload_n rfl ?_
    refine k_iconst (m := 0) rfl (fun x48 h49 => ?_)
    have t50 := t43.x e46
    refine k_putI kp243 H45 t50 (Or.inl fk243) (by show 0 ≤ _; omega) (by show _ ≤ 3; omega) (fun σ51 H52 e53 c54 => ?_)
    have c56 := (t24.mr e38 (by decide)).trans c25
    have D55 : CdC σ35 p0 := fun z hz c hq => by cases c56.symm.trans hz; exact q39 c hq
    have D57 := D55.st H37 t43 e46 (e46.gw (x := none) H37.1 (by decide)) (by decide)
    have D58 := D57.st H45 t50 e53 (e53.gw (x := none) H45.1 (by decide)) (by decide)
    have c59 := (t50.mi e53 (by decide)).trans c47
    have c60 := (t43.mr e46 (by decide)).trans c56
    have c61 := (t50.mr e53 (by decide)).trans c60
    have t67 := t27.x e38
    have t68 := t67.x e46
    have t69 := t68.x e53
    obtain ⟨x62, e63, c64, h65, h66⟩ := cg305 H52.1 t69
    have z70 : CtC σ51 p0 = x62.toInt := by unfold CtC; rw [c61]; dsimp only; rw [c64]
    have z71 := congrArg Int32.toInt (t67.mi e46 (k := 305) (by decide))
    have z72 := congrArg Int32.toInt (t68.mi e53 (k := 305) (by decide))
    have z73 := congrArg Int32.toInt c64
    have A74 : (fIC σ51 p0 242).toInt ≤ CtC σ51 p0 := by rw [c59, z70]; omega
    obtain ⟨u75, u76⟩ := e3.sg H0.1 (by decide)
    have u77 : cpC σ1 = cpC σ0 := congrArg Prod.fst e3.2.1.1
    have u78 : spC σ1 = spC σ0 := congrArg Prod.snd e3.2.1.1
    obtain ⟨u79, u80⟩ := e13.sg H2.1 (by decide)
    have u81 : cpC σ11 = cpC σ1 := congrArg Prod.fst e13.2.1.1
    have u82 : spC σ11 = spC σ1 := congrArg Prod.snd e13.2.1.1
    obtain ⟨u83, u84⟩ := e22.sg H12.1 (by decide)
    have u85 : cpC σ19 = cpC σ11 := congrArg Prod.fst e22.2.1.1
    have u86 : spC σ19 = spC σ11 := congrArg Prod.snd e22.2.1.1
    obtain ⟨u87, u88⟩ := e38.sg H21.1 (by decide)
    have u89 : cpC σ35 = cpC σ19 := congrArg Prod.fst e38.2.1.1
    have u90 : spC σ35 = spC σ19 := congrArg Prod.snd e38.2.1.1
    obtain ⟨u91, u92⟩ := e46.sg H37.1 (by decide)
    have u93 : cpC σ44 = cpC σ35 := congrArg Prod.fst e46.2.1.1
    have u94 : spC σ44 = spC σ35 := congrArg Prod.snd e46.2.1.1
    obtain ⟨u95, u96⟩ := e53.sg H45.1 (by decide)
    have u97 : cpC σ51 = cpC σ44 := congrArg Prod.fst e53.2.1.1
    have u98 : spC σ51 = spC σ44 := congrArg Prod.snd e53.2.1.1
    have c100 := (t15.mr e22 (by decide)).trans c16
    have c101 := (t24.mr e38 (by decide)).trans c100
    have c102 := (t43.mr e46 (by decide)).trans c101
    have c103 := (t50.mr e53 (by decide)).trans c102
    have t104 := t17.x e22
    have t105 := t104.x e38
    have t106 := t105.x e46
    have t107 := t106.x e53
    have B99 : BgC σ51 p0 200 0 := by
      refine ⟨fun _ => ⟨by rw [c59]; omega, by rw [c59]; omega, fun q hq k hk a ha => ?_⟩, fun hz => absurd (by rw [c54] <;> omega) hz⟩
      have hk' := hk
      obtain rfl : p1 = q := Option.some.inj (c103.symm.trans hq)
      have hf : finC k = true := by simp only [List.elem_eq_mem, List.mem_cons, List.not_mem_nil, or_false, decide_eq_true_eq] at hk'; rcases hk' with rfl | rfl | rfl | rfl <;> decide
      rw [t106.fr e53 (by decide) hf] at ha
      rw [t105.fr e46 (by decide) hf] at ha
      rw [t104.fr e38 (by decide) hf] at ha
      have hs := q23 k hk a ha
      have ta : TyC σ19 a 0 := lstC H21.1 t104 hk ha
      have e4_ := congrArg Int32.toInt (ta.mi e38 (k := 2) (by decide))
      have ta4_ := ta.x e38
      have e5_ := congrArg Int32.toInt (ta4_.mi e46 (k := 2) (by decide))
      have ta5_ := ta4_.x e46
      have e6_ := congrArg Int32.toInt (ta5_.mi e53 (k := 2) (by decide))
      have ta6_ := ta5_.x e53
      rw [c59]
      omega
    have hsz0 : ∀ k, [211, 212, 213, 214].elem k = true → ∀ a, fRC σ51 p1 k = some a → (fIC σ51 a 2).toInt = 0 := by
      intro k hk a ha
      have ta0 : TyC σ51 a 0 := lstC H52.1 t107 hk ha
      have hk' := hk
      have hf : finC k = true := by simp only [List.elem_eq_mem, List.mem_cons, List.not_mem_nil, or_false, decide_eq_true_eq] at hk'; rcases hk' with rfl | rfl | rfl | rfl <;> decide
      rw [t106.fr e53 (by decide) hf] at ha
      rw [t105.fr e46 (by decide) hf] at ha
      rw [t104.fr e38 (by decide) hf] at ha
      have hs := q23 k hk a ha
      have ta : TyC σ19 a 0 := lstC H21.1 t104 hk ha
      have e4_ := congrArg Int32.toInt (ta.mi e38 (k := 2) (by decide))
      have ta4_ := ta.x e38
      have e5_ := congrArg Int32.toInt (ta4_.mi e46 (k := 2) (by decide))
      have ta5_ := ta4_.x e46
      have e6_ := congrArg Int32.toInt (ta5_.mi e53 (k := 2) (by decide))
      have ta6_ := ta5_.x e53
      obtain ⟨xz_, -, cz_, hz1_, hz2_⟩ := cg2 H52.1 ta0
      have hz3_ : 0 ≤ (fIC σ51 a 2).toInt := by rw [cz_]; exact hz1_
      clear cz_ hz1_ hz2_
      omega
    have t108 := t50.x e53
    obtain ⟨s, hZ0, hs⟩ := ReC.ini H52.1 t108 (by rw [c59]; omega) (by rw [c54]; omega) c103 c61 hsz0
    have z109 := congrArg Int32.toInt c59
    have z110 := congrArg Int32.toInt c54
    have R111 := (RdC.rf : RdC p0 none 0 0 0 σ51 σ51).nf (-1000) (-1000) (by rw [c54]; omega)
    have z112 := R111.2.2.1
    have z113 := R111.2.2.2.1 A74
    refine k_iconst (m := 0) rfl (fun x114 h115 => ?_)
    refine k_istore (ls' := [(4, .inl x114), (0, .inr (.inr (some p0))), (1, .inr (.inr (some p1))), (2, .inr (.inr (some p2))), (3, .inl p3)]) rfl ?_
    refine k_nil ?_
    have L42 : ∀ (n42 : Nat), ∀ (σ116 : CsC) (v42_4 : Int32), (2147483647 - v42_4.toInt).toNat = n42 → HIC σ116 → ExC [0, 1, 2, 60, 61, 62, 63, 64, 65, 66, 67, 68, 69, 70, 72, 73, 74, 75, 76, 180, 182, 183, 184, 185, 186, 242, 243, 244, 246, 270, 271, 272, 273, 275, 276, 277, 278, 279, 280, 330, 331, 332, 333, 334, 995, 999] σ51 σ116 → RdC p0 none (0) (200) (-1000) σ51 σ116 → 0 ≤ v42_4.toInt → v42_4.toInt ≤ 11 → (∃ s s', Z0Y s ∧ ReC σ116 p0 s' ∧ prlY (11 - v42_4.toInt).toNat s' = prlY 11 s) → G 42 [(0, .inr (.inr (some p0))), (4, .inl v42_4)] [] σ116 := by
      intro n42
      induction n42 using Nat.strongRecOn with
      | _ n42 ih42 =>
        intro σ116 v42_4 n42_ H117 e118 R119 h120 h121 h122
        have t128 := t108.x e118
        obtain ⟨x123, e124, c125, h126, h127⟩ := cg242 H117.1 t128
        obtain ⟨x129, e130, c131, h132, h133⟩ := cg243 H117.1 t128
        have z134 := congrArg Int32.toInt c125
        have z135 := congrArg Int32.toInt c131
        obtain ⟨s, s', hZ0, hs', hp⟩ := h122
        refine hB _ _ _ _ (kgoC (is := KX7_readProgram_42) rfl ?_)
        refine k_iload rfl ?_
        refine k_bipush (m := 10) rfl (fun x136 h137 => ?_)
        refine k_ic_gt (fun h138 => ?_) (fun h138 => ?_)
        · refine hB _ _ _ _ (kgoC (is := KX7_readProgram_75) rfl ?_)
          refine k_aload_n rfl ?_
          refine k_get kg243 t128 (congrArg (Sum.inl : Int32 → AvC) c131) ?_
          refine k_ireturn (fun hz => absurd hz (by decide)) ?_
          have X139 : ExC [0, 1, 2, 60, 61, 62, 63, 64, 65, 66, 67, 68, 69, 70, 72, 73, 74, 75, 76, 180, 182, 183, 184, 185, 186, 217, 218, 240, 241, 242, 243, 244, 246, 270, 271, 272, 273, 275, 276, 277, 278, 279, 280, 305, 307, 308, 330, 331, 332, 333, 334, 995, 998, 999] σ0 σ1 := ExC.rf.tr (e3.mo (by decide))
          have X140 : ExC [0, 1, 2, 60, 61, 62, 63, 64, 65, 66, 67, 68, 69, 70, 72, 73, 74, 75, 76, 180, 182, 183, 184, 185, 186, 217, 218, 240, 241, 242, 243, 244, 246, 270, 271, 272, 273, 275, 276, 277, 278, 279, 280, 305, 307, 308, 330, 331, 332, 333, 334, 995, 998, 999] σ0 σ11 := X139.tr (e13.mo (by decide))
          have X141 : ExC [0, 1, 2, 60, 61, 62, 63, 64, 65, 66, 67, 68, 69, 70, 72, 73, 74, 75, 76, 180, 182, 183, 184, 185, 186, 217, 218, 240, 241, 242, 243, 244, 246, 270, 271, 272, 273, 275, 276, 277, 278, 279, 280, 305, 307, 308, 330, 331, 332, 333, 334, 995, 998, 999] σ0 σ19 := X140.tr (e22.mo (by decide))
          have X142 : ExC [0, 1, 2, 60, 61, 62, 63, 64, 65, 66, 67, 68, 69, 70, 72, 73, 74, 75, 76, 180, 182, 183, 184, 185, 186, 217, 218, 240, 241, 242, 243, 244, 246, 270, 271, 272, 273, 275, 276, 277, 278, 279, 280, 305, 307, 308, 330, 331, 332, 333, 334, 995, 998, 999] σ0 σ35 := X141.tr (e38.mo (by decide))
          have X143 : ExC [0, 1, 2, 60, 61, 62, 63, 64, 65, 66, 67, 68, 69, 70, 72, 73, 74, 75, 76, 180, 182, 183, 184, 185, 186, 217, 218, 240, 241, 242, 243, 244, 246, 270, 271, 272, 273, 275, 276, 277, 278, 279, 280, 305, 307, 308, 330, 331, 332, 333, 334, 995, 998, 999] σ0 σ44 := X142.tr (e46.mo (by decide))
          have X144 : ExC [0, 1, 2, 60, 61, 62, 63, 64, 65, 66, 67, 68, 69, 70, 72, 73, 74, 75, 76, 180, 182, 183, 184, 185, 186, 217, 218, 240, 241, 242, 243, 244, 246, 270, 271, 272, 273, 275, 276, 277, 278, 279, 280, 305, 307, 308, 330, 331, 332, 333, 334, 995, 998, 999] σ0 σ51 := X143.tr (e53.mo (by decide))
          have X145 : ExC [0, 1, 2, 60, 61, 62, 63, 64, 65, 66, 67, 68, 69, 70, 72, 73, 74, 75, 76, 180, 182, 183, 184, 185, 186, 217, 218, 240, 241, 242, 243, 244, 246, 270, 271, 272, 273, 275, 276, 277, 278, 279, 280, 305, 307, 308, 330, 331, 332, 333, 334, 995, 998, 999] σ0 σ116 := X144.tr (e118.mo (by decide))
          have z146 := R119.2.2.1
          have z147 := R119.2.2.2.1 A74
          have c148 := (t108.mr e118 (by decide)).trans c103
          have S150 : ∃ s, Z0Y s ∧ ReC σ116 p0 (prlY 11 s) ∧ x129.toInt = zFt (prlY 11 s) := by
            first | rw [show (11 - v42_4.toInt).toNat = 0 from by omega] at hp | rw [show (11 - v42_4.toInt).toNat = (10 - v42_4.toInt).toNat + 1 from by omega] at hp
            rw [prlY] at hp
            have f149 := hs'.ft c131
            refine ⟨s, hZ0, hs'.eq ?_, ?_⟩
            · rw [← hp]
              try unfold tkY
              repeat (split <;> try (exfalso; omega))
              try unfold dpY
              repeat (split <;> try (exfalso; omega))
              all_goals rfl
            · rw [← hp]
              try unfold tkY
              repeat (split <;> try (exfalso; omega))
              try unfold dpY
              repeat (split <;> try (exfalso; omega))
              all_goals omega
          exact ⟨_, rfl, H117, X145, (by omega), (by omega), (by have z1 := R119.2.2.2.2.2.1.2.1; have z2 := R119.2.2.2.2.2.1.2.2; have z3 := R119.2.2.1; omega), (by have z1 := R119.1.2.1; have z2 := R119.1.1; omega), c148, S150⟩
        · refine k_nil ?_
          refine hB _ _ _ _ (kgoC (is := KX7_readProgram_49) rfl ?_)
          refine k_aload_n rfl ?_
          refine k_get kg243 t128 (congrArg (Sum.inl : Int32 → AvC) c131) ?_
          refine k_if_ne (fun h151 => ?_) (fun h151 => ?_)
          · refine hB _ _ _ _ (kgoC (is := KX7_readProgram_75) rfl ?_)
            refine k_aload_n rfl ?_
            refine k_get kg243 t128 (congrArg (Sum.inl : Int32 → AvC) c131) ?_
            refine k_ireturn (fun hz => absurd hz (by decide)) ?_
            have X152 : ExC [0, 1, 2, 60, 61, 62, 63, 64, 65, 66, 67, 68, 69, 70, 72, 73, 74, 75, 76, 180, 182, 183, 184, 185, 186, 217, 218, 240, 241, 242, 243, 244, 246, 270, 271, 272, 273, 275, 276, 277, 278, 279, 280, 305, 307, 308, 330, 331, 332, 333, 334, 995, 998, 999] σ0 σ1 := ExC.rf.tr (e3.mo (by decide))
            have X153 : ExC [0, 1, 2, 60, 61, 62, 63, 64, 65, 66, 67, 68, 69, 70, 72, 73, 74, 75, 76, 180, 182, 183, 184, 185, 186, 217, 218, 240, 241, 242, 243, 244, 246, 270, 271, 272, 273, 275, 276, 277, 278, 279, 280, 305, 307, 308, 330, 331, 332, 333, 334, 995, 998, 999] σ0 σ11 := X152.tr (e13.mo (by decide))
            have X154 : ExC [0, 1, 2, 60, 61, 62, 63, 64, 65, 66, 67, 68, 69, 70, 72, 73, 74, 75, 76, 180, 182, 183, 184, 185, 186, 217, 218, 240, 241, 242, 243, 244, 246, 270, 271, 272, 273, 275, 276, 277, 278, 279, 280, 305, 307, 308, 330, 331, 332, 333, 334, 995, 998, 999] σ0 σ19 := X153.tr (e22.mo (by decide))
            have X155 : ExC [0, 1, 2, 60, 61, 62, 63, 64, 65, 66, 67, 68, 69, 70, 72, 73, 74, 75, 76, 180, 182, 183, 184, 185, 186, 217, 218, 240, 241, 242, 243, 244, 246, 270, 271, 272, 273, 275, 276, 277, 278, 279, 280, 305, 307, 308, 330, 331, 332, 333, 334, 995, 998, 999] σ0 σ35 := X154.tr (e38.mo (by decide))
            have X156 : ExC [0, 1, 2, 60, 61, 62, 63, 64, 65, 66, 67, 68, 69, 70, 72, 73, 74, 75, 76, 180, 182, 183, 184, 185, 186, 217, 218, 240, 241, 242, 243, 244, 246, 270, 271, 272, 273, 275, 276, 277, 278, 279, 280, 305, 307, 308, 330, 331, 332, 333, 334, 995, 998, 999] σ0 σ44 := X155.tr (e46.mo (by decide))
            have X157 : ExC [0, 1, 2, 60, 61, 62, 63, 64, 65, 66, 67, 68, 69, 70, 72, 73, 74, 75, 76, 180, 182, 183, 184, 185, 186, 217, 218, 240, 241, 242, 243, 244, 246, 270, 271, 272, 273, 275, 276, 277, 278, 279, 280, 305, 307, 308, 330, 331, 332, 333, 334, 995, 998, 999] σ0 σ51 := X156.tr (e53.mo (by decide))
            have X158 : ExC [0, 1, 2, 60, 61, 62, 63, 64, 65, 66, 67, 68, 69, 70, 72, 73, 74, 75, 76, 180, 182, 183, 184, 185, 186, 217, 218, 240, 241, 242, 243, 244, 246, 270, 271, 272, 273, 275, 276, 277, 278, 279, 280, 305, 307, 308, 330, 331, 332, 333, 334, 995, 998, 999] σ0 σ116 := X157.tr (e118.mo (by decide))
            have z159 := R119.2.2.1
            have z160 := R119.2.2.2.1 A74
            have c161 := (t108.mr e118 (by decide)).trans c103
            have S164 : ∃ s, Z0Y s ∧ ReC σ116 p0 (prlY 11 s) ∧ x129.toInt = zFt (prlY 11 s) := by
              first | rw [show (11 - v42_4.toInt).toNat = 0 from by omega] at hp | rw [show (11 - v42_4.toInt).toNat = (10 - v42_4.toInt).toNat + 1 from by omega] at hp
              rw [prlY] at hp
              have f162 := hs'.ft c131
              have f163 := hs'.ft c131
              refine ⟨s, hZ0, hs'.eq ?_, ?_⟩
              · rw [← hp]
                try unfold tkY
                repeat (split <;> try (exfalso; omega))
                try unfold dpY
                repeat (split <;> try (exfalso; omega))
                all_goals rfl
              · rw [← hp]
                try unfold tkY
                repeat (split <;> try (exfalso; omega))
                try unfold dpY
                repeat (split <;> try (exfalso; omega))
                all_goals omega
            exact ⟨_, rfl, H117, X158, (by omega), (by omega), (by have z1 := R119.2.2.2.2.2.1.2.1; have z2 := R119.2.2.2.2.2.1.2.2; have z3 := R119.2.2.1; omega), (by have z1 := R119.1.2.1; have z2 := R119.1.1; omega), c161, S164⟩
          · refine k_nil ?_
            refine hB _ _ _ _ (kgoC (is := KX7_readProgram_56) rfl ?_)
            refine k_aload_n rfl ?_
            have R165 := R119.nf (-1000) (-1000) (by rw [c131]; omega)
            have X166 : ExC [0, 1, 2, 60, 61, 62, 63, 64, 65, 66, 67, 68, 69, 70, 72, 73, 74, 75, 76, 180, 182, 183, 184, 185, 186, 242, 243, 244, 246, 270, 271, 272, 273, 275, 276, 277, 278, 279, 280, 330, 331, 332, 333, 334, 995, 999] σ51 σ116 := ExC.rf.tr (e118.mo (by decide))
            refine k_inv (P := P_X7_code) (Q := Q_X7_code) rfl rfl rfl rfl (Nat.le_of_ble_eq_true rfl) (t128.rc (by decide)) ⟨_, rfl, H117, t128, (D58.st H52 t108 X166 R165.1 (by decide))⟩ (fun w167 σ168 q169 => ?_)
            obtain ⟨x170, rfl, rfl, q171, q172, q173, q174⟩ := q169
            refine k_st (st' := [.inl x170]) rfl ?_
            have z175 := R165.2.2.1
            have z176 := R165.2.2.2.1 A74
            refine k_bipush (m := 84) rfl (fun x177 h178 => ?_)
            refine k_ic_eq (fun h179 => ?_) (fun h179 => ?_)
            · refine hB _ _ _ _ (kgoC (is := KX7_readProgram_75) rfl ?_)
              refine k_aload_n rfl ?_
              refine k_get kg243 t128 (congrArg (Sum.inl : Int32 → AvC) c131) ?_
              refine k_ireturn (fun hz => absurd hz (by decide)) ?_
              have X180 : ExC [0, 1, 2, 60, 61, 62, 63, 64, 65, 66, 67, 68, 69, 70, 72, 73, 74, 75, 76, 180, 182, 183, 184, 185, 186, 217, 218, 240, 241, 242, 243, 244, 246, 270, 271, 272, 273, 275, 276, 277, 278, 279, 280, 305, 307, 308, 330, 331, 332, 333, 334, 995, 998, 999] σ0 σ1 := ExC.rf.tr (e3.mo (by decide))
              have X181 : ExC [0, 1, 2, 60, 61, 62, 63, 64, 65, 66, 67, 68, 69, 70, 72, 73, 74, 75, 76, 180, 182, 183, 184, 185, 186, 217, 218, 240, 241, 242, 243, 244, 246, 270, 271, 272, 273, 275, 276, 277, 278, 279, 280, 305, 307, 308, 330, 331, 332, 333, 334, 995, 998, 999] σ0 σ11 := X180.tr (e13.mo (by decide))
              have X182 : ExC [0, 1, 2, 60, 61, 62, 63, 64, 65, 66, 67, 68, 69, 70, 72, 73, 74, 75, 76, 180, 182, 183, 184, 185, 186, 217, 218, 240, 241, 242, 243, 244, 246, 270, 271, 272, 273, 275, 276, 277, 278, 279, 280, 305, 307, 308, 330, 331, 332, 333, 334, 995, 998, 999] σ0 σ19 := X181.tr (e22.mo (by decide))
              have X183 : ExC [0, 1, 2, 60, 61, 62, 63, 64, 65, 66, 67, 68, 69, 70, 72, 73, 74, 75, 76, 180, 182, 183, 184, 185, 186, 217, 218, 240, 241, 242, 243, 244, 246, 270, 271, 272, 273, 275, 276, 277, 278, 279, 280, 305, 307, 308, 330, 331, 332, 333, 334, 995, 998, 999] σ0 σ35 := X182.tr (e38.mo (by decide))
              have X184 : ExC [0, 1, 2, 60, 61, 62, 63, 64, 65, 66, 67, 68, 69, 70, 72, 73, 74, 75, 76, 180, 182, 183, 184, 185, 186, 217, 218, 240, 241, 242, 243, 244, 246, 270, 271, 272, 273, 275, 276, 277, 278, 279, 280, 305, 307, 308, 330, 331, 332, 333, 334, 995, 998, 999] σ0 σ44 := X183.tr (e46.mo (by decide))
              have X185 : ExC [0, 1, 2, 60, 61, 62, 63, 64, 65, 66, 67, 68, 69, 70, 72, 73, 74, 75, 76, 180, 182, 183, 184, 185, 186, 217, 218, 240, 241, 242, 243, 244, 246, 270, 271, 272, 273, 275, 276, 277, 278, 279, 280, 305, 307, 308, 330, 331, 332, 333, 334, 995, 998, 999] σ0 σ51 := X184.tr (e53.mo (by decide))
              have X186 : ExC [0, 1, 2, 60, 61, 62, 63, 64, 65, 66, 67, 68, 69, 70, 72, 73, 74, 75, 76, 180, 182, 183, 184, 185, 186, 217, 218, 240, 241, 242, 243, 244, 246, 270, 271, 272, 273, 275, 276, 277, 278, 279, 280, 305, 307, 308, 330, 331, 332, 333, 334, 995, 998, 999] σ0 σ116 := X185.tr (e118.mo (by decide))
              have c187 := (t108.mr e118 (by decide)).trans c103
              have S191 : ∃ s, Z0Y s ∧ ReC σ116 p0 (prlY 11 s) ∧ x129.toInt = zFt (prlY 11 s) := by
                first | rw [show (11 - v42_4.toInt).toNat = 0 from by omega] at hp | rw [show (11 - v42_4.toInt).toNat = (10 - v42_4.toInt).toNat + 1 from by omega] at hp
                rw [prlY] at hp
                have f188 := hs'.ft c131
                have f189 := q174 _ hs'
                have f190 := hs'.ft c131
                refine ⟨s, hZ0, hs'.eq ?_, ?_⟩
                · rw [← hp]
                  try unfold tkY
                  repeat (split <;> try (exfalso; omega))
                  try unfold dpY
                  repeat (split <;> try (exfalso; omega))
                  all_goals rfl
                · rw [← hp]
                  try unfold tkY
                  repeat (split <;> try (exfalso; omega))
                  try unfold dpY
                  repeat (split <;> try (exfalso; omega))
                  all_goals omega
              exact ⟨_, rfl, H117, X186, (by omega), (by omega), (by have z1 := R165.2.2.2.2.2.1.2.1; have z2 := R165.2.2.2.2.2.1.2.2; have z3 := R165.2.2.1; omega), (by have z1 := R165.1.2.1; have z2 := R165.1.1; omega), c187, S191⟩
            · refine k_nil ?_
              refine hB _ _ _ _ (kgoC (is := KX7_readProgram_65) rfl ?_)
              refine k_aload_n rfl ?_
              refine k_inv (P := P_X7_readMethod) (Q := Q_X7_readMethod) rfl rfl rfl rfl (Nat.le_of_ble_eq_true rfl) (t128.rc (by decide)) ⟨_, rfl, H117, t128, (D58.st H52 t108 X166 R165.1 (by decide)), (R165.2.2.2.1 A74), ((show BgC σ116 p0 (200) 0 from (B99.stn H52 t108 X166 R165 (by decide) (by rw [c131]; omega) (by omega))).1 (by rw [c131]; omega)), (by rw [c131]; omega)⟩ (fun w192 σ193 q194 => ?_)
              obtain ⟨rfl, H195, e196, R197, q198⟩ := q194
              have t204 := t128.x e196
              obtain ⟨x199, e200, c201, h202, h203⟩ := cg242 H195.1 t204
              obtain ⟨x205, e206, c207, h208, h209⟩ := cg243 H195.1 t204
              have z210 := congrArg Int32.toInt c201
              have z211 := congrArg Int32.toInt c207
              refine k_st (st' := []) rfl ?_
              have R212 : RdC p0 none (0) (200) (-1000) σ51 σ193 := R165.tr ⟨R197.1, R197.2⟩ (by omega) (by omega) (by omega) (by omega)
              have z213 := R212.2.2.1
              have z214 := R212.2.2.2.1 A74
              obtain ⟨x215, e217, h216⟩ := iincC (n := 1) (m := 1) (v := v42_4) rfl (by omega) (by omega)
              refine k_iinc (ls' := [(4, .inl x215), (0, .inr (.inr (some p0)))]) rfl e217 rfl ?_
              refine k_goto ?_
              have S222 : (∃ s s', Z0Y s ∧ ReC σ193 p0 s' ∧ prlY (11 - x215.toInt).toNat s' = prlY 11 s) := by
                first | rw [show (11 - v42_4.toInt).toNat = 0 from by omega] at hp | rw [show (11 - v42_4.toInt).toNat = (10 - v42_4.toInt).toNat + 1 from by omega] at hp
                rw [prlY] at hp
                have f218 := hs'.ft c131
                have f219 := q174 _ hs'
                have y220 := q198 _ hs'
                refine ⟨s, _, hZ0, y220, ?_⟩
                rw [← hp]
                all_goals try rw [show (11 - x215.toInt).toNat = (10 - v42_4.toInt).toNat from by omega]
                try unfold tkY
                repeat (split <;> try (exfalso; omega))
                try unfold dpY
                repeat (split <;> try (exfalso; omega))
                all_goals rfl
              have X223 : ExC [0, 1, 2, 60, 61, 62, 63, 64, 65, 66, 67, 68, 69, 70, 72, 73, 74, 75, 76, 180, 182, 183, 184, 185, 186, 242, 243, 244, 246, 270, 271, 272, 273, 275, 276, 277, 278, 279, 280, 330, 331, 332, 333, 334, 995, 999] σ51 σ193 := X166.tr (e196.mo (by decide))
              exact hW _ _ _ _ _ (List.forall_mem_cons.2 ⟨List.Mem.tail _ (List.Mem.head _), (List.forall_mem_cons.2 ⟨List.Mem.head _, fun _ h => absurd h List.not_mem_nil⟩)⟩) (ih42 ((2147483647 - x215.toInt).toNat) (by omega) σ193 x215 rfl H195 X223 (R212.mo (by omega) (by omega) (by omega)) (by omega) (by omega) S222)
    have S224 : (∃ s s', Z0Y s ∧ ReC σ51 p0 s' ∧ prlY (11 - x114.toInt).toNat s' = prlY 11 s) := by
      refine ⟨s, _, hZ0, hs, ?_⟩
      all_goals try rw [show (11 - x114.toInt).toNat = 11 from by omega]
      try unfold tkY
      repeat (split <;> try (exfalso; omega))
      try unfold dpY
      repeat (split <;> try (exfalso; omega))
      all_goals rfl
    exact hW _ _ _ _ _ (List.forall_mem_cons.2 ⟨List.Mem.tail _ (List.Mem.head _), (List.forall_mem_cons.2 ⟨List.Mem.head _, fun _ h => absurd h List.not_mem_nil⟩)⟩) (L42 _ σ51 x114 rfl H52 ExC.rf (R111.mo (by omega) (by omega) (by omega)) (by omega) (by omega) S224)
theorem lg_X7_readProgram : ∀ (As : List AvC) (σ : CsC), P_X7_readProgram As σ → lgC As ≤ rX7_readProgram.2.2.1 := by
  rintro As σ ⟨p0, p1, p2, p3, rfl, -⟩
  exact Nat.le_of_ble_eq_true rfl
theorem m_X7_readProgram (l : Launch) : CMetC l 313 123 P_X7_readProgram Q_X7_readProgram :=
  CMetC.of KX7_readProgram [(117, P_X6_clear, Q_X6_clear), (188, P_X9_cutText, Q_X9_cutText), (125, P_X7_code, Q_X7_code), (134, P_X7_readMethod, Q_X7_readMethod)] hX7_readProgram (by decide) (by decide) okX7_readProgram (cc1C (m_X6_clear l) (by decide) (cc1C (m_X9_cutText l) (by decide) (cc1C (m_X7_code l) (by decide) (cc1C (m_X7_readMethod l) (by decide) cc0C)))) (lg_X7_readProgram) (b_X7_readProgram)
