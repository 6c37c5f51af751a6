set_option maxRecDepth 100000 in
set_option maxHeartbeats 4000000 in
theorem b_X7_readRow (d : Nat) : TbC KX7_readRow [(131, P_X7_isTooDeep, Q_X7_isTooDeep), (125, P_X7_code, Q_X7_code), (146, (P_X7_readRowPart d), (Q_X7_readRowPart d))] (P_X7_readRow d) (Q_X7_readRow d) := by
  · rintro As σ0 ⟨p0, p1, p2, rfl, H0, h_0_0, h_1_0, h_1_1, h_2_0, h_2_1, rd_cd, rd_at, rd_bg, rd_dp⟩ hgr G hB hW
    change G 0 [(0, .inr (.inr (some p0))), (1, .inl p1), (2, .inl p2)] [] σ0
    obtain ⟨x1, e2, c3, h4, h5⟩ := cg242 H0.1 h_0_0
    obtain ⟨x6, e7, c8, h9, h10⟩ := cg243 H0.1 h_0_0
    have z11 := congrArg Int32.toInt c3
    have z12 := congrArg Int32.toInt c8
    have L14 : ∀ (n14 : Nat), ∀ (σ13 : CsC) (v14_3 : Option Nat) (v14_4 : Option Nat) (v14_5 : Int32), (2147483647 - v14_5.toInt).toNat = n14 → HIC σ13 → ExC [0, 1, 2, 60, 61, 62, 63, 64, 65, 66, 67, 68, 69, 70, 72, 73, 74, 75, 76, 242, 243, 244, 246, 270, 271, 272, 273, 275, 276, 277, 278, 279, 280, 330, 331, 332, 333, 334, 999] σ0 σ13 → RdC p0 none (0) (24 + 8 * (d : Int)) (0) σ0 σ13 → OtC σ13 v14_3 9 → OtC σ13 v14_4 9 → 0 ≤ v14_5.toInt → v14_5.toInt ≤ 502 → (∀ s, ReC σ0 p0 s → ∃ s', ReC σ13 p0 s' ∧ rwlY d (stY d) p2.toInt (501 - v14_5.toInt).toNat (fsY v14_3) s' = rwY d p2.toInt s) → (v14_3 = none → v14_4 = none) → (p1.toInt ≤ 20 ∨ ¬ (fIC σ13 p0 243).toInt = 0) → (∀ b, v14_3 = some b → (cnC σ0 ≤ b ∧ (fIC σ13 b 272).toInt = p1.toInt ∧ (fIC σ13 b 270).toInt ≤ 92)) → (∀ b, v14_4 = some b → ((fIC σ13 b 272).toInt = p1.toInt ∧ (fIC σ13 b 270).toInt ≤ 92)) → G 14 [(0, .inr (.inr (some p0))), (1, .inl p1), (2, .inl p2), (3, .inr (.inr v14_3)), (4, .inr (.inr v14_4)), (5, .inl v14_5)] [] σ13 := by
      intro n14
      induction n14 using Nat.strongRecOn with
      | _ n14 ih14 =>
        intro σ13 v14_3 v14_4 v14_5 n14_ H14 e15 R16 h17 h18 h19 h20 h21 h22 h23 h24 h25
        have t31 := h_0_0.x e15
        obtain ⟨x26, e27, c28, h29, h30⟩ := cg242 H14.1 t31
        obtain ⟨x32, e33, c34, h35, h36⟩ := cg243 H14.1 t31
        have z37 := congrArg Int32.toInt c28
        have z38 := congrArg Int32.toInt c34
        refine hB _ _ _ _ (kgoC (is := KX7_readRow_14) rfl ?_)
        refine k_iload rfl ?_
        refine k_sipush (m := 500) rfl (fun x39 h40 => ?_)
        refine k_ic_gt (fun h41 => ?_) (fun h41 => ?_)
        · refine hB _ _ _ _ (kgoC (is := KX7_readRow_82) rfl ?_)
          refine k_aload_n rfl ?_
          refine k_areturn ?_
          have X42 : ExC [0, 1, 2, 60, 61, 62, 63, 64, 65, 66, 67, 68, 69, 70, 72, 73, 74, 75, 76, 242, 243, 244, 246, 270, 271, 272, 273, 275, 276, 277, 278, 279, 280, 330, 331, 332, 333, 334, 999] σ0 σ13 := ExC.rf.tr (e15.mo (by decide))
          have S43 : ∀ s, ReC σ0 p0 s → ReC σ13 p0 (rwY d p2.toInt s) := by
            intro s hs
            obtain ⟨s', hs', hp⟩ := h21 s hs
            first | rw [show (501 - v14_5.toInt).toNat = 0 from by omega] at hp | rw [show (501 - v14_5.toInt).toNat = (500 - v14_5.toInt).toNat + 1 from by omega] at hp
            rw [rwlY] at hp
            refine hs'.eq ?_
            rw [← hp]
            try unfold tkY
            repeat (split <;> try (exfalso; omega))
            try unfold dpY
            repeat (split <;> try (exfalso; omega))
            all_goals first | rfl | exact absurd (h22 rfl) (fun h => by cases h)
          exact ⟨v14_3, rfl, H14, X42, h17, (R16.mo (by omega) (by omega) (by omega)), (fun b hb => ⟨(h24 b hb).1, (h24 b hb).2.1⟩), S43⟩
        · refine k_nil ?_
          refine hB _ _ _ _ (kgoC (is := KX7_readRow_22) rfl ?_)
          refine k_aload_n rfl ?_
          refine k_get kg243 t31 (congrArg (Sum.inl : Int32 → AvC) c34) ?_
          refine k_if_ne (fun h44 => ?_) (fun h44 => ?_)
          · refine hB _ _ _ _ (kgoC (is := KX7_readRow_82) rfl ?_)
            refine k_aload_n rfl ?_
            refine k_areturn ?_
            have X45 : ExC [0, 1, 2, 60, 61, 62, 63, 64, 65, 66, 67, 68, 69, 70, 72, 73, 74, 75, 76, 242, 243, 244, 246, 270, 271, 272, 273, 275, 276, 277, 278, 279, 280, 330, 331, 332, 333, 334, 999] σ0 σ13 := ExC.rf.tr (e15.mo (by decide))
            have S47 : ∀ s, ReC σ0 p0 s → ReC σ13 p0 (rwY d p2.toInt s) := by
              intro s hs
              obtain ⟨s', hs', hp⟩ := h21 s hs
              first | rw [show (501 - v14_5.toInt).toNat = 0 from by omega] at hp | rw [show (501 - v14_5.toInt).toNat = (500 - v14_5.toInt).toNat + 1 from by omega] at hp
              rw [rwlY] at hp
              have f46 := hs'.ft c34
              refine hs'.eq ?_
              rw [← hp]
              try unfold tkY
              repeat (split <;> try (exfalso; omega))
              try unfold dpY
              repeat (split <;> try (exfalso; omega))
              all_goals first | rfl | exact absurd (h22 rfl) (fun h => by cases h)
            exact ⟨v14_3, rfl, H14, X45, h17, ((R16.ft (0) (by rw [c34]; omega)).mo (by omega) (by omega) (by omega)), (fun b hb => ⟨(h24 b hb).1, (h24 b hb).2.1⟩), S47⟩
          · refine k_nil ?_
            refine hB _ _ _ _ (kgoC (is := KX7_readRow_29) rfl ?_)
            refine k_aload_n rfl ?_
            have R48 := R16.nf (-1000) (-1000) (by rw [c34]; omega)
            have X49 : ExC [0, 1, 2, 60, 61, 62, 63, 64, 65, 66, 67, 68, 69, 70, 72, 73, 74, 75, 76, 242, 243, 244, 246, 270, 271, 272, 273, 275, 276, 277, 278, 279, 280, 330, 331, 332, 333, 334, 999] σ0 σ13 := ExC.rf.tr (e15.mo (by decide))
            refine k_inv (P := P_X7_code) (Q := Q_X7_code) rfl rfl rfl rfl (Nat.le_of_ble_eq_true rfl) (t31.rc (by decide)) ⟨_, rfl, H14, t31, (rd_cd.st H0 h_0_0 X49 R48.1 (by decide))⟩ (fun w50 σ51 q52 => ?_)
            obtain ⟨x53, rfl, rfl, q54, q55, q56, q57⟩ := q52
            refine k_st (st' := [.inl x53]) rfl ?_
            have z58 := R48.2.2.1
            have z59 := R48.2.2.2.1 rd_at
            refine k_iconst (m := 3) rfl (fun x60 h61 => ?_)
            refine k_ic_eq (fun h62 => ?_) (fun h62 => ?_)
            · refine hB _ _ _ _ (kgoC (is := KX7_readRow_82) rfl ?_)
              refine k_aload_n rfl ?_
              refine k_areturn ?_
              have S65 : ∀ s, ReC σ0 p0 s → ReC σ13 p0 (rwY d p2.toInt s) := by
                intro s hs
                obtain ⟨s', hs', hp⟩ := h21 s hs
                first | rw [show (501 - v14_5.toInt).toNat = 0 from by omega] at hp | rw [show (501 - v14_5.toInt).toNat = (500 - v14_5.toInt).toNat + 1 from by omega] at hp
                rw [rwlY] at hp
                have f63 := hs'.ft c34
                have f64 := q57 _ hs'
                refine hs'.eq ?_
                rw [← hp]
                try unfold tkY
                repeat (split <;> try (exfalso; omega))
                try unfold dpY
                repeat (split <;> try (exfalso; omega))
                all_goals first | rfl | exact absurd (h22 rfl) (fun h => by cases h)
              exact ⟨v14_3, rfl, H14, X49, h17, ((R48.nf (24 + 8 * (d : Int)) (0) (by rw [c34]; omega)).mo (by omega) (by omega) (by omega)), (fun b hb => ⟨(h24 b hb).1, (h24 b hb).2.1⟩), S65⟩
            · refine k_nil ?_
              refine hB _ _ _ _ (kgoC (is := KX7_readRow_37) rfl ?_)
              refine k_aload_n rfl ?_
              refine k_iload_n rfl ?_
              refine k_iload_n rfl ?_
              refine k_aload_n rfl ?_
              refine k_ifnonnull (fun b66 h67 => ?_) (fun h67 => ?_)
              · subst h67
                have t68 := h17 b66 rfl
                have f69 := h24 b66 rfl
                obtain ⟨x70, e71, c72, h73, h74⟩ := cg272 H14.1 t68
                rw [c72] at f69
                obtain ⟨x75, e76, c77, h78, h79⟩ := cg270 H14.1 t68
                rw [c77] at f69
                refine hB _ _ _ _ (kgoC (is := KX7_readRow_48) rfl ?_)
                refine k_iconst (m := 0) rfl (fun x80 h81 => ?_)
                refine k_nil ?_
                refine hB _ _ _ _ (kgoC (is := KX7_readRow_49) rfl ?_)
                refine k_inv (P := (P_X7_readRowPart d)) (Q := (Q_X7_readRowPart d)) rfl rfl rfl rfl (Nat.le_of_ble_eq_true rfl) (t31.rc (by decide)) ⟨_, _, _, _, rfl, H14, t31, (by omega), (by omega), (by omega), (by omega), (by omega), (by omega), (rd_cd.st H0 h_0_0 X49 R48.1 (by decide)), (R48.2.2.2.1 rd_at), ((show BgC σ13 p0 (24 + 8 * (d : Int)) 0 from (rd_bg.stn H0 h_0_0 X49 R48 (by decide) (by rw [c34]; omega) (by omega))).1 (by rw [c34]; omega)), (by rw [c34]; omega), (by omega)⟩ (fun w82 σ83 q84 => ?_)
                obtain ⟨a85, rfl, H86, e87, h89, R88, q90, q91, q92, q93⟩ := q84
                have t99 := t31.x e87
                obtain ⟨x94, e95, c96, h97, h98⟩ := cg242 H86.1 t99
                obtain ⟨x100, e101, c102, h103, h104⟩ := cg243 H86.1 t99
                have z105 := congrArg Int32.toInt c96
                have z106 := congrArg Int32.toInt c102
                refine k_st (st' := [.inr (.inr (some a85))]) rfl ?_
                have z107 := R48.1.1
                obtain ⟨x108, e109, c110, h111, h112⟩ := cg272 H86.1 h89
                rw [c110] at q91
                obtain ⟨x113, e114, c115, h116, h117⟩ := cg270 H86.1 h89
                rw [c115] at q92
                have R118 : RdC p0 none (0) (24 + 8 * (d : Int)) (-1000) σ0 σ83 := R48.tr ⟨R88.1, R88.2⟩ (by omega) (by omega) (by omega) (by omega)
                have z119 := R118.2.2.1
                have z120 := R118.2.2.2.1 rd_at
                refine k_astore (ls' := [(6, .inr (.inr (some a85))), (0, .inr (.inr (some p0))), (1, .inl p1), (2, .inl p2), (3, .inr (.inr (some b66))), (4, .inr (.inr v14_4)), (5, .inl v14_5)]) rfl ?_
                refine k_aload rfl ?_
                have t123 := h18.x e87
                refine k_ifnonnull (fun b121 h122 => ?_) (fun h122 => ?_)
                · subst h122
                  have t124 := h18 b121 rfl
                  have t125 := t123 b121 rfl
                  have f126 := h25 b121 rfl
                  have X127 : ExC [0, 1, 2, 60, 61, 62, 63, 64, 65, 66, 67, 68, 69, 70, 72, 73, 74, 75, 76, 242, 243, 244, 246, 270, 271, 272, 273, 275, 276, 277, 278, 279, 280, 330, 331, 332, 333, 334, 999] σ13 σ83 := ExC.rf.tr (e87.mo (by decide))
                  rw [← t124.fi (X127) (k := 272) (by decide) (by decide), ← t124.fi (X127) (k := 270) (by decide) (by decide)] at f126
                  obtain ⟨x128, e129, c130, h131, h132⟩ := cg272 H86.1 t125
                  rw [c130] at f126
                  obtain ⟨x133, e134, c135, h136, h137⟩ := cg270 H86.1 t125
                  rw [c135] at f126
                  refine hB _ _ _ _ (kgoC (is := KX7_readRow_65) rfl ?_)
                  refine k_aload rfl ?_
                  refine k_aload rfl ?_
                  have z142 := t124.1
                  refine k_p275 H86 t125 (h89.ot) (fun z hz => by cases hz; exact ⟨by omega, by unfold NxC; rw [c135, c130, c115, c110]; omega⟩) (fun σ138 H139 e140 c141 => ?_)
                  refine k_nil ?_
                  refine hB _ _ _ _ (kgoC (is := KX7_readRow_72) rfl ?_)
                  refine k_aload rfl ?_
                  refine k_astore (ls' := [(4, .inr (.inr (some a85))), (6, .inr (.inr (some a85))), (0, .inr (.inr (some p0))), (1, .inl p1), (2, .inl p2), (3, .inr (.inr (some b66))), (5, .inl v14_5)]) rfl ?_
                  obtain ⟨x143, e145, h144⟩ := iincC (n := 1) (m := 1) (v := v14_5) rfl (by omega) (by omega)
                  refine k_iinc (ls' := [(5, .inl x143), (4, .inr (.inr (some a85))), (6, .inr (.inr (some a85))), (0, .inr (.inr (some p0))), (1, .inl p1), (2, .inl p2), (3, .inr (.inr (some b66)))]) rfl e145 rfl ?_
                  refine k_goto ?_
                  have R146 : RdC p0 none (0) (24 + 8 * (d : Int)) (-1000) σ0 σ138 := R118.tr ⟨(e140.gw H86.1 (by decide)), (e140.cou (u := 0) H86.1 t99 (by decide) (by rw [e140.cn (by decide)]; omega))⟩ (by omega) (by omega) (by omega) (by omega)
                  have c147 := (t99.mi e140 (by decide)).trans c102
                  have t148 := t68.x e87
                  have t149 := t148.x e140
                  have t150 := h89.x e140
                  have S156 : (∀ s, ReC σ0 p0 s → ∃ s', ReC σ138 p0 s' ∧ rwlY d (stY d) p2.toInt (501 - x143.toInt).toNat (fsY (some b66)) s' = rwY d p2.toInt s) := by
                    intro s hs
                    obtain ⟨s', hs', hp⟩ := h21 s hs
                    first | rw [show (501 - v14_5.toInt).toNat = 0 from by omega] at hp | rw [show (501 - v14_5.toInt).toNat = (500 - v14_5.toInt).toNat + 1 from by omega] at hp
                    rw [rwlY] at hp
                    have f151 := hs'.ft c34
                    have f152 := q57 _ hs'
                    have y153 := q93 _ hs'
                    rw [h81] at y153
                    have y155 := y153.x H86.1 t99 e140 (by decide)
                    refine ⟨_, y155, ?_⟩
                    rw [← hp]
                    all_goals try rw [show (501 - x143.toInt).toNat = (500 - v14_5.toInt).toNat from by omega]
                    try unfold tkY
                    repeat (split <;> try (exfalso; omega))
                    try unfold dpY
                    repeat (split <;> try (exfalso; omega))
                    all_goals first | rfl | exact absurd (h22 rfl) (fun h => by cases h)
                  have c157 := (t99.mi e140 (by decide)).trans c96
                  have c158 := (t68.fi e87 (by decide) (by decide)).trans c72
                  have c159 := (t148.mi e140 (by decide)).trans c158
                  have c160 := (t68.fi e87 (by decide) (by decide)).trans c77
                  have c161 := (t148.mi e140 (by decide)).trans c160
                  have c162 := (h89.mi e140 (by decide)).trans c110
                  have c163 := (h89.mi e140 (by decide)).trans c115
                  have X164 : ExC [0, 1, 2, 60, 61, 62, 63, 64, 65, 66, 67, 68, 69, 70, 72, 73, 74, 75, 76, 242, 243, 244, 246, 270, 271, 272, 273, 275, 276, 277, 278, 279, 280, 330, 331, 332, 333, 334, 999] σ0 σ83 := X49.tr (e87.mo (by decide))
                  have X165 : ExC [0, 1, 2, 60, 61, 62, 63, 64, 65, 66, 67, 68, 69, 70, 72, 73, 74, 75, 76, 242, 243, 244, 246, 270, 271, 272, 273, 275, 276, 277, 278, 279, 280, 330, 331, 332, 333, 334, 999] σ0 σ138 := X164.tr (e140.mo (by decide))
                  exact hW _ _ _ _ _ (List.forall_mem_cons.2 ⟨List.Mem.tail _ (List.Mem.tail _ (List.Mem.tail _ (List.Mem.head _))), (List.forall_mem_cons.2 ⟨List.Mem.tail _ (List.Mem.tail _ (List.Mem.tail _ (List.Mem.tail _ (List.Mem.head _)))), (List.forall_mem_cons.2 ⟨List.Mem.tail _ (List.Mem.tail _ (List.Mem.tail _ (List.Mem.tail _ (List.Mem.tail _ (List.Mem.head _))))), (List.forall_mem_cons.2 ⟨List.Mem.tail _ (List.Mem.tail _ (List.Mem.tail _ (List.Mem.tail _ (List.Mem.tail _ (List.Mem.tail _ (List.Mem.head _)))))), (List.forall_mem_cons.2 ⟨List.Mem.tail _ (List.Mem.head _), (List.forall_mem_cons.2 ⟨List.Mem.head _, fun _ h => absurd h List.not_mem_nil⟩)⟩)⟩)⟩)⟩)⟩) (ih14 ((2147483647 - x143.toInt).toNat) (by omega) σ138 (some b66) (some a85) x143 rfl H139 X165 (R146.mo (by omega) (by omega) (by omega)) t149.ot t150.ot (by omega) (by omega) S156 (fun h => by cases h) (by rw [c147] <;> omega) (fun b hb => by cases hb; exact ⟨by omega, by rw [c159] <;> omega, by rw [c161] <;> omega⟩) (fun b hb => by cases hb; exact ⟨by rw [c162] <;> omega, by rw [c163] <;> omega⟩))
                · subst h122
                  refine k_nil ?_
                  refine hB _ _ _ _ (kgoC (is := KX7_readRow_59) rfl ?_)
                  refine k_aload rfl ?_
                  refine k_astore_n (ls' := [(3, .inr (.inr (some a85))), (6, .inr (.inr (some a85))), (0, .inr (.inr (some p0))), (1, .inl p1), (2, .inl p2), (4, .inr (.inr none)), (5, .inl v14_5)]) rfl ?_
                  refine k_goto ?_
                  refine hB _ _ _ _ (kgoC (is := KX7_readRow_72) rfl ?_)
                  refine k_aload rfl ?_
                  refine k_astore (ls' := [(4, .inr (.inr (some a85))), (3, .inr (.inr (some a85))), (6, .inr (.inr (some a85))), (0, .inr (.inr (some p0))), (1, .inl p1), (2, .inl p2), (5, .inl v14_5)]) rfl ?_
                  obtain ⟨x166, e168, h167⟩ := iincC (n := 1) (m := 1) (v := v14_5) rfl (by omega) (by omega)
                  refine k_iinc (ls' := [(5, .inl x166), (4, .inr (.inr (some a85))), (3, .inr (.inr (some a85))), (6, .inr (.inr (some a85))), (0, .inr (.inr (some p0))), (1, .inl p1), (2, .inl p2)]) rfl e168 rfl ?_
                  refine k_goto ?_
                  have S173 : (∀ s, ReC σ0 p0 s → ∃ s', ReC σ83 p0 s' ∧ rwlY d (stY d) p2.toInt (501 - x166.toInt).toNat (fsY (some a85)) s' = rwY d p2.toInt s) := by
                    intro s hs
                    obtain ⟨s', hs', hp⟩ := h21 s hs
                    first | rw [show (501 - v14_5.toInt).toNat = 0 from by omega] at hp | rw [show (501 - v14_5.toInt).toNat = (500 - v14_5.toInt).toNat + 1 from by omega] at hp
                    rw [rwlY] at hp
                    have f169 := hs'.ft c34
                    have f170 := q57 _ hs'
                    have y171 := q93 _ hs'
                    rw [h81] at y171
                    refine ⟨_, y171, ?_⟩
                    rw [← hp]
                    all_goals try rw [show (501 - x166.toInt).toNat = (500 - v14_5.toInt).toNat from by omega]
                    try unfold tkY
                    repeat (split <;> try (exfalso; omega))
                    try unfold dpY
                    repeat (split <;> try (exfalso; omega))
                    all_goals first | rfl | exact absurd (h22 rfl) (fun h => by cases h)
                  have X174 : ExC [0, 1, 2, 60, 61, 62, 63, 64, 65, 66, 67, 68, 69, 70, 72, 73, 74, 75, 76, 242, 243, 244, 246, 270, 271, 272, 273, 275, 276, 277, 278, 279, 280, 330, 331, 332, 333, 334, 999] σ0 σ83 := X49.tr (e87.mo (by decide))
                  exact hW _ _ _ _ _ (List.forall_mem_cons.2 ⟨List.Mem.tail _ (List.Mem.tail _ (List.Mem.tail _ (List.Mem.tail _ (List.Mem.head _)))), (List.forall_mem_cons.2 ⟨List.Mem.tail _ (List.Mem.tail _ (List.Mem.tail _ (List.Mem.tail _ (List.Mem.tail _ (List.Mem.head _))))), (List.forall_mem_cons.2 ⟨List.Mem.tail _ (List.Mem.tail _ (List.Mem.tail _ (List.Mem.tail _ (List.Mem.tail _ (List.Mem.tail _ (List.Mem.head _)))))), (List.forall_mem_cons.2 ⟨List.Mem.tail _ (List.Mem.tail _ (List.Mem.head _)), (List.forall_mem_cons.2 ⟨List.Mem.tail _ (List.Mem.head _), (List.forall_mem_cons.2 ⟨List.Mem.head _, fun _ h => absurd h List.not_mem_nil⟩)⟩)⟩)⟩)⟩)⟩) (ih14 ((2147483647 - x166.toInt).toNat) (by omega) σ83 (some a85) (some a85) x166 rfl H86 X174 (R118.mo (by omega) (by omega) (by omega)) h89.ot h89.ot (by omega) (by omega) S173 (fun h => by cases h) (by rw [c102] <;> omega) (fun b hb => by cases hb; exact ⟨by omega, by rw [c110] <;> omega, by rw [c115] <;> omega⟩) (fun b hb => by cases hb; exact ⟨by rw [c110] <;> omega, by rw [c115] <;> omega⟩))
              · subst h67
                refine k_nil ?_
                refine hB _ _ _ _ (kgoC (is := KX7_readRow_44) rfl ?_)
                refine k_iconst (m := 1) rfl (fun x175 h176 => ?_)
                refine k_goto ?_
                refine hB _ _ _ _ (kgoC (is := KX7_readRow_49) rfl ?_)
                refine k_inv (P := (P_X7_readRowPart d)) (Q := (Q_X7_readRowPart d)) rfl rfl rfl rfl (Nat.le_of_ble_eq_true rfl) (t31.rc (by decide)) ⟨_, _, _, _, rfl, H14, t31, (by omega), (by omega), (by omega), (by omega), (by omega), (by omega), (rd_cd.st H0 h_0_0 X49 R48.1 (by decide)), (R48.2.2.2.1 rd_at), ((show BgC σ13 p0 (24 + 8 * (d : Int)) 0 from (rd_bg.stn H0 h_0_0 X49 R48 (by decide) (by rw [c34]; omega) (by omega))).1 (by rw [c34]; omega)), (by rw [c34]; omega), (by omega)⟩ (fun w177 σ178 q179 => ?_)
                obtain ⟨a180, rfl, H181, e182, h184, R183, q185, q186, q187, q188⟩ := q179
                have t194 := t31.x e182
                obtain ⟨x189, e190, c191, h192, h193⟩ := cg242 H181.1 t194
                obtain ⟨x195, e196, c197, h198, h199⟩ := cg243 H181.1 t194
                have z200 := congrArg Int32.toInt c191
                have z201 := congrArg Int32.toInt c197
                refine k_st (st' := [.inr (.inr (some a180))]) rfl ?_
                have z202 := R48.1.1
                obtain ⟨x203, e204, c205, h206, h207⟩ := cg272 H181.1 h184
                rw [c205] at q186
                obtain ⟨x208, e209, c210, h211, h212⟩ := cg270 H181.1 h184
                rw [c210] at q187
                have R213 : RdC p0 none (0) (24 + 8 * (d : Int)) (-1000) σ0 σ178 := R48.tr ⟨R183.1, R183.2⟩ (by omega) (by omega) (by omega) (by omega)
                have z214 := R213.2.2.1
                have z215 := R213.2.2.2.1 rd_at
                refine k_astore (ls' := [(6, .inr (.inr (some a180))), (0, .inr (.inr (some p0))), (1, .inl p1), (2, .inl p2), (3, .inr (.inr none)), (4, .inr (.inr v14_4)), (5, .inl v14_5)]) rfl ?_
                refine k_aload rfl ?_
                have t218 := h18.x e182
                refine k_ifnonnull (fun b216 h217 => ?_) (fun h217 => ?_)
                · subst h217
                  have t219 := h18 b216 rfl
                  have t220 := t218 b216 rfl
                  have f221 := h25 b216 rfl
                  have X222 : ExC [0, 1, 2, 60, 61, 62, 63, 64, 65, 66, 67, 68, 69, 70, 72, 73, 74, 75, 76, 242, 243, 244, 246, 270, 271, 272, 273, 275, 276, 277, 278, 279, 280, 330, 331, 332, 333, 334, 999] σ13 σ178 := ExC.rf.tr (e182.mo (by decide))
                  rw [← t219.fi (X222) (k := 272) (by decide) (by decide), ← t219.fi (X222) (k := 270) (by decide) (by decide)] at f221
                  obtain ⟨x223, e224, c225, h226, h227⟩ := cg272 H181.1 t220
                  rw [c225] at f221
                  obtain ⟨x228, e229, c230, h231, h232⟩ := cg270 H181.1 t220
                  rw [c230] at f221
                  refine hB _ _ _ _ (kgoC (is := KX7_readRow_65) rfl ?_)
                  refine k_aload rfl ?_
                  refine k_aload rfl ?_
                  have z237 := t219.1
                  refine k_p275 H181 t220 (h184.ot) (fun z hz => by cases hz; exact ⟨by omega, by unfold NxC; rw [c230, c225, c210, c205]; omega⟩) (fun σ233 H234 e235 c236 => ?_)
                  refine k_nil ?_
                  refine hB _ _ _ _ (kgoC (is := KX7_readRow_72) rfl ?_)
                  refine k_aload rfl ?_
                  refine k_astore (ls' := [(4, .inr (.inr (some a180))), (6, .inr (.inr (some a180))), (0, .inr (.inr (some p0))), (1, .inl p1), (2, .inl p2), (3, .inr (.inr none)), (5, .inl v14_5)]) rfl ?_
                  obtain ⟨x238, e240, h239⟩ := iincC (n := 1) (m := 1) (v := v14_5) rfl (by omega) (by omega)
                  refine k_iinc (ls' := [(5, .inl x238), (4, .inr (.inr (some a180))), (6, .inr (.inr (some a180))), (0, .inr (.inr (some p0))), (1, .inl p1), (2, .inl p2), (3, .inr (.inr none))]) rfl e240 rfl ?_
                  refine k_goto ?_
                  have R241 : RdC p0 none (0) (24 + 8 * (d : Int)) (-1000) σ0 σ233 := R213.tr ⟨(e235.gw H181.1 (by decide)), (e235.cou (u := 0) H181.1 t194 (by decide) (by rw [e235.cn (by decide)]; omega))⟩ (by omega) (by omega) (by omega) (by omega)
                  have c242 := (t194.mi e235 (by decide)).trans c197
                  have t243 := h184.x e235
                  have S249 : (∀ s, ReC σ0 p0 s → ∃ s', ReC σ233 p0 s' ∧ rwlY d (stY d) p2.toInt (501 - x238.toInt).toNat (fsY none) s' = rwY d p2.toInt s) := by
                    intro s hs
                    obtain ⟨s', hs', hp⟩ := h21 s hs
                    first | rw [show (501 - v14_5.toInt).toNat = 0 from by omega] at hp | rw [show (501 - v14_5.toInt).toNat = (500 - v14_5.toInt).toNat + 1 from by omega] at hp
                    rw [rwlY] at hp
                    have f244 := hs'.ft c34
                    have f245 := q57 _ hs'
                    have y246 := q188 _ hs'
                    rw [h176] at y246
                    have y248 := y246.x H181.1 t194 e235 (by decide)
                    refine ⟨_, y248, ?_⟩
                    rw [← hp]
                    all_goals try rw [show (501 - x238.toInt).toNat = (500 - v14_5.toInt).toNat from by omega]
                    try unfold tkY
                    repeat (split <;> try (exfalso; omega))
                    try unfold dpY
                    repeat (split <;> try (exfalso; omega))
                    all_goals first | rfl | exact absurd (h22 rfl) (fun h => by cases h)
                  have c250 := (t194.mi e235 (by decide)).trans c191
                  have c251 := (h184.mi e235 (by decide)).trans c205
                  have c252 := (h184.mi e235 (by decide)).trans c210
                  have X253 : ExC [0, 1, 2, 60, 61, 62, 63, 64, 65, 66, 67, 68, 69, 70, 72, 73, 74, 75, 76, 242, 243, 244, 246, 270, 271, 272, 273, 275, 276, 277, 278, 279, 280, 330, 331, 332, 333, 334, 999] σ0 σ178 := X49.tr (e182.mo (by decide))
                  have X254 : ExC [0, 1, 2, 60, 61, 62, 63, 64, 65, 66, 67, 68, 69, 70, 72, 73, 74, 75, 76, 242, 243, 244, 246, 270, 271, 272, 273, 275, 276, 277, 278, 279, 280, 330, 331, 332, 333, 334, 999] σ0 σ233 := X253.tr (e235.mo (by decide))
                  exact hW _ _ _ _ _ (List.forall_mem_cons.2 ⟨List.Mem.tail _ (List.Mem.tail _ (List.Mem.tail _ (List.Mem.head _))), (List.forall_mem_cons.2 ⟨List.Mem.tail _ (List.Mem.tail _ (List.Mem.tail _ (List.Mem.tail _ (List.Mem.head _)))), (List.forall_mem_cons.2 ⟨List.Mem.tail _ (List.Mem.tail _ (List.Mem.tail _ (List.Mem.tail _ (List.Mem.tail _ (List.Mem.head _))))), (List.forall_mem_cons.2 ⟨List.Mem.tail _ (List.Mem.tail _ (List.Mem.tail _ (List.Mem.tail _ (List.Mem.tail _ (List.Mem.tail _ (List.Mem.head _)))))), (List.forall_mem_cons.2 ⟨List.Mem.tail _ (List.Mem.head _), (List.forall_mem_cons.2 ⟨List.Mem.head _, fun _ h => absurd h List.not_mem_nil⟩)⟩)⟩)⟩)⟩)⟩) (ih14 ((2147483647 - x238.toInt).toNat) (by omega) σ233 none (some a180) x238 rfl H234 X254 (R241.mo (by omega) (by omega) (by omega)) OtC.n t243.ot (by omega) (by omega) S249 (fun _ => absurd (h22 rfl) (fun h => by cases h)) (by rw [c242] <;> omega) (fun b hb => by cases hb) (fun b hb => by cases hb; exact ⟨by rw [c251] <;> omega, by rw [c252] <;> omega⟩))
                · subst h217
                  refine k_nil ?_
                  refine hB _ _ _ _ (kgoC (is := KX7_readRow_59) rfl ?_)
                  refine k_aload rfl ?_
                  refine k_astore_n (ls' := [(3, .inr (.inr (some a180))), (6, .inr (.inr (some a180))), (0, .inr (.inr (some p0))), (1, .inl p1), (2, .inl p2), (4, .inr (.inr none)), (5, .inl v14_5)]) rfl ?_
                  refine k_goto ?_
                  refine hB _ _ _ _ (kgoC (is := KX7_readRow_72) rfl ?_)
                  refine k_aload rfl ?_
                  refine k_astore (ls' := [(4, .inr (.inr (some a180))), (3, .inr (.inr (some a180))), (6, .inr (.inr (some a180))), (0, .inr (.inr (some p0))), (1, .inl p1), (2, .inl p2), (5, .inl v14_5)]) rfl ?_
                  obtain ⟨x255, e257, h256⟩ := iincC (n := 1) (m := 1) (v := v14_5) rfl (by omega) (by omega)
                  refine k_iinc (ls' := [(5, .inl x255), (4, .inr (.inr (some a180))), (3, .inr (.inr (some a180))), (6, .inr (.inr (some a180))), (0, .inr (.inr (some p0))), (1, .inl p1), (2, .inl p2)]) rfl e257 rfl ?_
                  refine k_goto ?_
                  have S262 : (∀ s, ReC σ0 p0 s → ∃ s', ReC σ178 p0 s' ∧ rwlY d (stY d) p2.toInt (501 - x255.toInt).toNat (fsY (some a180)) s' = rwY d p2.toInt s) := by
                    intro s hs
                    obtain ⟨s', hs', hp⟩ := h21 s hs
                    first | rw [show (501 - v14_5.toInt).toNat = 0 from by omega] at hp | rw [show (501 - v14_5.toInt).toNat = (500 - v14_5.toInt).toNat + 1 from by omega] at hp
                    rw [rwlY] at hp
                    have f258 := hs'.ft c34
                    have f259 := q57 _ hs'
                    have y260 := q188 _ hs'
                    rw [h176] at y260
                    refine ⟨_, y260, ?_⟩
                    rw [← hp]
                    all_goals try rw [show (501 - x255.toInt).toNat = (500 - v14_5.toInt).toNat from by omega]
                    try unfold tkY
                    repeat (split <;> try (exfalso; omega))
                    try unfold dpY
                    repeat (split <;> try (exfalso; omega))
                    all_goals first | rfl | exact absurd (h22 rfl) (fun h => by cases h)
                  have X263 : ExC [0, 1, 2, 60, 61, 62, 63, 64, 65, 66, 67, 68, 69, 70, 72, 73, 74, 75, 76, 242, 243, 244, 246, 270, 271, 272, 273, 275, 276, 277, 278, 279, 280, 330, 331, 332, 333, 334, 999] σ0 σ178 := X49.tr (e182.mo (by decide))
                  exact hW _ _ _ _ _ (List.forall_mem_cons.2 ⟨List.Mem.tail _ (List.Mem.tail _ (List.Mem.tail _ (List.Mem.tail _ (List.Mem.head _)))), (List.forall_mem_cons.2 ⟨List.Mem.tail _ (List.Mem.tail _ (List.Mem.tail _ (List.Mem.tail _ (List.Mem.tail _ (List.Mem.head _))))), (List.forall_mem_cons.2 ⟨List.Mem.tail _ (List.Mem.tail _ (List.Mem.tail _ (List.Mem.tail _ (List.Mem.tail _ (List.Mem.tail _ (List.Mem.head _)))))), (List.forall_mem_cons.2 ⟨List.Mem.tail _ (List.Mem.tail _ (List.Mem.head _)), (List.forall_mem_cons.2 ⟨List.Mem.tail _ (List.Mem.head _), (List.forall_mem_cons.2 ⟨List.Mem.head _, fun _ h => absurd h List.not_mem_nil⟩)⟩)⟩)⟩)⟩)⟩) (ih14 ((2147483647 - x255.toInt).toNat) (by omega) σ178 (some a180) (some a180) x255 rfl H181 X263 (R213.mo (by omega) (by omega) (by omega)) h184.ot h184.ot (by omega) (by omega) S262 (fun h => by cases h) (by rw [c197] <;> omega) (fun b hb => by cases hb; exact ⟨by omega, by rw [c205] <;> omega, by rw [c210] <;> omega⟩) (fun b hb => by cases hb; exact ⟨by rw [c205] <;> omega, by rw [c210] <;> omega⟩))
    refine hB _ _ _ _ (kgoC (is := KX7_readRow_0) rfl ?_)
    refine k_aconst_null ?_
    refine k_astore_n (ls' := [(3, .inr (.inr none)), (0, .inr (.inr (some p0))), (1, .inl p1), (2, .inl p2)]) rfl ?_
    refine k_aconst_null ?_
    refine k_astore (ls' := [(4, .inr (.inr none)), (3, .inr (.inr none)), (0, .inr (.inr (some p0))), (1, .inl p1), (2, .inl p2)]) rfl ?_
    refine k_aload_n rfl ?_
    refine k_iload_n rfl ?_
    refine k_inv (P := P_X7_isTooDeep) (Q := Q_X7_isTooDeep) rfl rfl rfl rfl (Nat.le_of_ble_eq_true rfl) (h_0_0.rc (by decide)) ⟨_, _, rfl, H0, h_0_0, (rd_cd.st H0 h_0_0 (ExC.rf : ExC [0, 1, 2, 60, 61, 62, 63, 64, 65, 66, 67, 68, 69, 70, 72, 73, 74, 75, 76, 242, 243, 244, 246, 270, 271, 272, 273, 275, 276, 277, 278, 279, 280, 330, 331, 332, 333, 334, 999] σ0 σ0) (RdC.rf : RdC p0 none 0 0 0 σ0 σ0).1 (by decide)), ((RdC.rf : RdC p0 none 0 0 0 σ0 σ0).2.2.2.1 rd_at), (rd_bg.st H0 h_0_0 (ExC.rf : ExC [0, 1, 2, 60, 61, 62, 63, 64, 65, 66, 67, 68, 69, 70, 72, 73, 74, 75, 76, 242, 243, 244, 246, 270, 271, 272, 273, 275, 276, 277, 278, 279, 280, 330, 331, 332, 333, 334, 999] σ0 σ0) (RdC.rf : RdC p0 none 0 0 0 σ0 σ0) (by decide) (by omega) (by omega) (by omega))⟩ (fun w264 σ265 q266 => ?_)
    obtain ⟨x267, rfl, H268, e269, h271, h272, R270, q273, q274, q275⟩ := q266
    have c276 := (h_0_0.mi e269 (by decide)).trans c3
    have t282 := h_0_0.x e269
    obtain ⟨x277, e278, c279, h280, h281⟩ := cg243 H268.1 t282
    have z283 := congrArg Int32.toInt c276
    have z284 := congrArg Int32.toInt c279
    refine k_st (st' := [.inl x267]) rfl ?_
    rcases (by omega : x267.toInt = 0 ∨ x267.toInt = 1) with g285 | g285
    · have h286 := q274 (by omega)
      refine k_popI ?_
      refine k_iconst (m := 0) rfl (fun x287 h288 => ?_)
      refine k_istore (ls' := [(5, .inl x287), (4, .inr (.inr none)), (3, .inr (.inr none)), (0, .inr (.inr (some p0))), (1, .inl p1), (2, .inl p2)]) rfl ?_
      refine k_nil ?_
      have R289 : RdC p0 none (0) (0) (0) σ0 σ265 := (RdC.rf : RdC p0 none 0 0 0 σ0 σ0).tr ⟨R270.1, R270.2⟩ (by omega) (by omega) (by omega) (by omega)
      have S292 : (∀ s, ReC σ0 p0 s → ∃ s', ReC σ265 p0 s' ∧ rwlY d (stY d) p2.toInt (501 - x287.toInt).toNat (fsY none) s' = rwY d p2.toInt s) := by
        intro s hs
        have y290 := q275 _ hs
        rw [dpY_n (by omega)] at y290
        refine ⟨_, y290, ?_⟩
        all_goals try rw [show (501 - x287.toInt).toNat = 501 from by omega]
        all_goals try (rw [show d = 0 from by omega]; exact rwl0)
        all_goals try rw [rwY_s (show 1 ≤ d from by omega)]
        try unfold tkY
        repeat (split <;> try (exfalso; omega))
        try unfold dpY
        repeat (split <;> try (exfalso; omega))
        all_goals first | rfl
      have X293 : ExC [0, 1, 2, 60, 61, 62, 63, 64, 65, 66, 67, 68, 69, 70, 72, 73, 74, 75, 76, 242, 243, 244, 246, 270, 271, 272, 273, 275, 276, 277, 278, 279, 280, 330, 331, 332, 333, 334, 999] σ0 σ265 := ExC.rf.tr (e269.mo (by decide))
      exact hW _ _ _ _ _ (List.forall_mem_cons.2 ⟨List.Mem.tail _ (List.Mem.tail _ (List.Mem.tail _ (List.Mem.head _))), (List.forall_mem_cons.2 ⟨List.Mem.tail _ (List.Mem.tail _ (List.Mem.tail _ (List.Mem.tail _ (List.Mem.head _)))), (List.forall_mem_cons.2 ⟨List.Mem.tail _ (List.Mem.tail _ (List.Mem.tail _ (List.Mem.tail _ (List.Mem.tail _ (List.Mem.head _))))), (List.forall_mem_cons.2 ⟨List.Mem.tail _ (List.Mem.tail _ (List.Mem.head _)), (List.forall_mem_cons.2 ⟨List.Mem.tail _ (List.Mem.head _), (List.forall_mem_cons.2 ⟨List.Mem.head _, fun _ h => absurd h List.not_mem_nil⟩)⟩)⟩)⟩)⟩)⟩) (L14 _ σ265 none none x287 rfl H268 X293 (R289.mo (by omega) (by omega) (by omega)) OtC.n OtC.n (by omega) (by omega) S292 (fun _ => rfl) (by rw [c279] <;> omega) (fun b hb => by cases hb) (fun b hb => by cases hb))
    · have h294 : 1 ≤ x277.toInt := by have hq := (q273 (by omega)).2; rw [c279] at hq; omega
      have h295 := (q273 (by omega)).1
      refine k_popI ?_
      refine k_iconst (m := 0) rfl (fun x296 h297 => ?_)
      refine k_istore (ls' := [(5, .inl x296), (4, .inr (.inr none)), (3, .inr (.inr none)), (0, .inr (.inr (some p0))), (1, .inl p1), (2, .inl p2)]) rfl ?_
      refine k_nil ?_
      have R298 : RdC p0 none (0) (0) (0) σ0 σ265 := (RdC.rf : RdC p0 none 0 0 0 σ0 σ0).tr ⟨R270.1, R270.2⟩ (by omega) (by omega) (by omega) (by omega)
      have S301 : (∀ s, ReC σ0 p0 s → ∃ s', ReC σ265 p0 s' ∧ rwlY d (stY d) p2.toInt (501 - x296.toInt).toNat (fsY none) s' = rwY d p2.toInt s) := by
        intro s hs
        have y299 := q275 _ hs
        rw [show p1.toInt = 21 from by omega] at y299
        rw [dpY_z (by omega)] at y299
        refine ⟨_, y299, ?_⟩
        all_goals try rw [show (501 - x296.toInt).toNat = 501 from by omega]
        all_goals try (rw [show d = 0 from by omega]; exact rwl0)
        all_goals try rw [rwY_s (show 1 ≤ d from by omega)]
        try unfold tkY
        repeat (split <;> try (exfalso; omega))
        try unfold dpY
        repeat (split <;> try (exfalso; omega))
        all_goals first | rfl
      have X302 : ExC [0, 1, 2, 60, 61, 62, 63, 64, 65, 66, 67, 68, 69, 70, 72, 73, 74, 75, 76, 242, 243, 244, 246, 270, 271, 272, 273, 275, 276, 277, 278, 279, 280, 330, 331, 332, 333, 334, 999] σ0 σ265 := ExC.rf.tr (e269.mo (by decide))
      exact hW _ _ _ _ _ (List.forall_mem_cons.2 ⟨List.Mem.tail _ (List.Mem.tail _ (List.Mem.tail _ (List.Mem.head _))), (List.forall_mem_cons.2 ⟨List.Mem.tail _ (List.Mem.tail _ (List.Mem.tail _ (List.Mem.tail _ (List.Mem.head _)))), (List.forall_mem_cons.2 ⟨List.Mem.tail _ (List.Mem.tail _ (List.Mem.tail _ (List.Mem.tail _ (List.Mem.tail _ (List.Mem.head _))))), (List.forall_mem_cons.2 ⟨List.Mem.tail _ (List.Mem.tail _ (List.Mem.head _)), (List.forall_mem_cons.2 ⟨List.Mem.tail _ (List.Mem.head _), (List.forall_mem_cons.2 ⟨List.Mem.head _, fun _ h => absurd h List.not_mem_nil⟩)⟩)⟩)⟩)⟩)⟩) (L14 _ σ265 none none x296 rfl H268 X302 (R298.mo (by omega) (by omega) (by omega)) OtC.n OtC.n (by omega) (by omega) S301 (fun _ => rfl) (by rw [c279] <;> omega) (fun b hb => by cases hb) (fun b hb => by cases hb))
theorem lg_X7_readRow (d : Nat) : ∀ (As : List AvC) (σ : CsC), (P_X7_readRow d) As σ → lgC As ≤ rX7_readRow.2.2.1 := by
  rintro As σ ⟨p0, p1, p2, rfl, -⟩
  exact Nat.le_of_ble_eq_true rfl
theorem s_X7_readRow (l : Launch) (d : Nat) (h_X7_readRowPart : CMetC l (13 * d + 41) 146 (P_X7_readRowPart d) (Q_X7_readRowPart d)) : CMetC l (13 * d + 42) 145 (P_X7_readRow d) (Q_X7_readRow d) :=
  CMetC.of KX7_readRow [(131, P_X7_isTooDeep, Q_X7_isTooDeep), (125, P_X7_code, Q_X7_code), (146, (P_X7_readRowPart d), (Q_X7_readRowPart d))] hX7_readRow (by decide) (by omega) okX7_readRow (cc1C (m_X7_isTooDeep l) (by omega) (cc1C (m_X7_code l) (by omega) (cc1C h_X7_readRowPart (by omega) cc0C))) (lg_X7_readRow d) (b_X7_readRow d)
