abbrev P_X2_reachRow (n : Nat) : CpC := fun As σ => ∃ (p0 : Nat) (p1 : Nat), As = [.inr (.inr (some p0)), .inr (.inr (some p1))] ∧ HIC σ ∧ TyC σ p0 3 ∧ TyC σ p1 9 ∧ RkC σ p1 n ∧ ¬ (fIC σ p1 270).toInt = 68
abbrev Q_X2_reachRow : CqC := fun As σ w τ => match As with
  | [.inr (.inr (some p0)), .inr (.inr (some p1))] => ∃ r : Int32, w = some (.inl r) ∧ HIC τ ∧ ExC [217, 218, 282, 283, 284] σ τ ∧ 0 ≤ r.toInt ∧ r.toInt ≤ 1
  | _ => False
abbrev P_X2_reachBody (n : Nat) : CpC := fun As σ => ∃ (p0 : Nat) (p1 : Nat) (p2 : Int32), As = [.inr (.inr (some p0)), .inr (.inr (some p1)), .inl p2] ∧ HIC σ ∧ TyC σ p0 3 ∧ TyC σ p1 9 ∧ 0 ≤ p2.toInt ∧ p2.toInt ≤ 1 ∧ RkC σ p1 n
abbrev Q_X2_reachBody : CqC := fun As σ w τ => match As with
  | [.inr (.inr (some p0)), .inr (.inr (some p1)), .inl p2] => ∃ r : Int32, w = some (.inl r) ∧ HIC τ ∧ ExC [217, 218, 282, 283, 284] σ τ ∧ 0 ≤ r.toInt ∧ r.toInt ≤ 1
  | _ => False
abbrev P_X2_reachSwitch (n : Nat) : CpC := fun As σ => ∃ (p0 : Nat) (p1 : Nat), As = [.inr (.inr (some p0)), .inr (.inr (some p1))] ∧ HIC σ ∧ TyC σ p0 3 ∧ TyC σ p1 9 ∧ RkC σ p1 n ∧ ¬ (fIC σ p1 270).toInt = 68
abbrev Q_X2_reachSwitch : CqC := fun As σ w τ => match As with
  | [.inr (.inr (some p0)), .inr (.inr (some p1))] => ∃ r : Int32, w = some (.inl r) ∧ HIC τ ∧ ExC [217, 218, 282, 283, 284] σ τ ∧ 0 ≤ r.toInt ∧ r.toInt ≤ 1
  | _ => False
abbrev P_X2_reachTry (n : Nat) : CpC := fun As σ => ∃ (p0 : Nat) (p1 : Nat), As = [.inr (.inr (some p0)), .inr (.inr (some p1))] ∧ HIC σ ∧ TyC σ p0 3 ∧ TyC σ p1 9 ∧ RkC σ p1 n ∧ (fIC σ p1 270).toInt = 68
abbrev Q_X2_reachTry : CqC := fun As σ w τ => match As with
  | [.inr (.inr (some p0)), .inr (.inr (some p1))] => ∃ r : Int32, w = some (.inl r) ∧ HIC τ ∧ ExC [217, 218, 282, 283, 284] σ τ ∧ 0 ≤ r.toInt ∧ r.toInt ≤ 1
  | _ => False
abbrev P_X2_reachInside (n : Nat) : CpC := fun As σ => ∃ (p0 : Nat) (p1 : Nat), As = [.inr (.inr (some p0)), .inr (.inr (some p1))] ∧ HIC σ ∧ TyC σ p0 3 ∧ TyC σ p1 9 ∧ RkC σ p1 n
abbrev Q_X2_reachInside : CqC := fun As σ w τ => match As with
  | [.inr (.inr (some p0)), .inr (.inr (some p1))] => ∃ r : Int32, w = some (.inl r) ∧ HIC τ ∧ ExC [217, 218, 282, 283, 284] σ τ ∧ 0 ≤ r.toInt ∧ r.toInt ≤ 1
  | _ => False
abbrev P_X2_reach (n : Nat) : CpC := fun As σ => ∃ (p0 : Nat) (p1 : Nat) (p2 : Int32), As = [.inr (.inr (some p0)), .inr (.inr (some p1)), .inl p2] ∧ HIC σ ∧ TyC σ p0 3 ∧ TyC σ p1 9 ∧ 0 ≤ p2.toInt ∧ p2.toInt ≤ 1 ∧ RkC σ p1 n
abbrev Q_X2_reach : CqC := fun As σ w τ => match As with
  | [.inr (.inr (some p0)), .inr (.inr (some p1)), .inl p2] => ∃ r : Int32, w = some (.inl r) ∧ HIC τ ∧ ExC [217, 218, 282, 283, 284] σ τ ∧ 0 ≤ r.toInt ∧ r.toInt ≤ 1
  | _ => False
abbrev P_X2_assignBody (n : Nat) : CpC := fun As σ => ∃ (p0 : Nat) (p1 : Nat) (p2 : Int64), As = [.inr (.inr (some p0)), .inr (.inr (some p1)), .inr (.inl p2)] ∧ HIC σ ∧ TyC σ p0 3 ∧ TyC σ p1 9 ∧ RkC σ p1 n
abbrev Q_X2_assignBody : CqC := fun As σ w τ => match As with
  | [.inr (.inr (some p0)), .inr (.inr (some p1)), .inr (.inl p2)] => ∃ r : Int64, w = some (.inr (.inl r)) ∧ HIC τ ∧ ExC [94, 217, 218] σ τ
  | _ => False
abbrev P_X2_behindIf (n : Nat) : CpC := fun As σ => ∃ (p0 : Nat) (p1 : Nat) (p2 : Int64), As = [.inr (.inr (some p0)), .inr (.inr (some p1)), .inr (.inl p2)] ∧ HIC σ ∧ TyC σ p0 3 ∧ TyC σ p1 9 ∧ RkC σ p1 n
abbrev Q_X2_behindIf : CqC := fun As σ w τ => match As with
  | [.inr (.inr (some p0)), .inr (.inr (some p1)), .inr (.inl p2)] => ∃ r : Int64, w = some (.inr (.inl r)) ∧ HIC τ ∧ ExC [94, 217, 218] σ τ
  | _ => False
abbrev P_X2_behindLoop (n : Nat) : CpC := fun As σ => ∃ (p0 : Nat) (p1 : Nat) (p2 : Int64), As = [.inr (.inr (some p0)), .inr (.inr (some p1)), .inr (.inl p2)] ∧ HIC σ ∧ TyC σ p0 3 ∧ TyC σ p1 9 ∧ RkC σ p1 n
abbrev Q_X2_behindLoop : CqC := fun As σ w τ => match As with
  | [.inr (.inr (some p0)), .inr (.inr (some p1)), .inr (.inl p2)] => ∃ r : Int64, w = some (.inr (.inl r)) ∧ HIC τ ∧ ExC [94, 217, 218] σ τ
  | _ => False
abbrev P_X2_behindSwitch (n : Nat) : CpC := fun As σ => ∃ (p0 : Nat) (p1 : Nat) (p2 : Int64), As = [.inr (.inr (some p0)), .inr (.inr (some p1)), .inr (.inl p2)] ∧ HIC σ ∧ TyC σ p0 3 ∧ TyC σ p1 9 ∧ RkC σ p1 n ∧ ¬ (fIC σ p1 270).toInt = 68
abbrev Q_X2_behindSwitch : CqC := fun As σ w τ => match As with
  | [.inr (.inr (some p0)), .inr (.inr (some p1)), .inr (.inl p2)] => ∃ r : Int64, w = some (.inr (.inl r)) ∧ HIC τ ∧ ExC [94, 217, 218] σ τ
  | _ => False
abbrev P_X2_behindTry (n : Nat) : CpC := fun As σ => ∃ (p0 : Nat) (p1 : Nat) (p2 : Int64), As = [.inr (.inr (some p0)), .inr (.inr (some p1)), .inr (.inl p2)] ∧ HIC σ ∧ TyC σ p0 3 ∧ TyC σ p1 9 ∧ RkC σ p1 n
abbrev Q_X2_behindTry : CqC := fun As σ w τ => match As with
  | [.inr (.inr (some p0)), .inr (.inr (some p1)), .inr (.inl p2)] => ∃ r : Int64, w = some (.inr (.inl r)) ∧ HIC τ ∧ ExC [94, 217, 218] σ τ
  | _ => False
abbrev P_X2_behind (n : Nat) : CpC := fun As σ => ∃ (p0 : Nat) (p1 : Nat) (p2 : Int64), As = [.inr (.inr (some p0)), .inr (.inr (some p1)), .inr (.inl p2)] ∧ HIC σ ∧ TyC σ p0 3 ∧ TyC σ p1 9 ∧ RkC σ p1 n
abbrev Q_X2_behind : CqC := fun As σ w τ => match As with
  | [.inr (.inr (some p0)), .inr (.inr (some p1)), .inr (.inl p2)] => ∃ r : Int64, w = some (.inr (.inl r)) ∧ HIC τ ∧ ExC [94, 217, 218] σ τ
  | _ => False
abbrev P_X2_assign (n : Nat) : CpC := fun As σ => ∃ (p0 : Nat) (p1 : Nat) (p2 : Int64), As = [.inr (.inr (some p0)), .inr (.inr (some p1)), .inr (.inl p2)] ∧ HIC σ ∧ TyC σ p0 3 ∧ TyC σ p1 9 ∧ RkC σ p1 n
abbrev Q_X2_assign : CqC := fun As σ w τ => match As with
  | [.inr (.inr (some p0)), .inr (.inr (some p1)), .inr (.inl p2)] => ∃ r : Int64, w = some (.inr (.inl r)) ∧ HIC τ ∧ ExC [94, 217, 218] σ τ
  | _ => False
abbrev P_X2_assignRow (n : Nat) : CpC := fun As σ => ∃ (p0 : Nat) (p1 : Option Nat) (p2 : Int64), As = [.inr (.inr (some p0)), .inr (.inr p1), .inr (.inl p2)] ∧ HIC σ ∧ TyC σ p0 3 ∧ OtC σ p1 9 ∧ (∀ b, p1 = some b → RowC σ b n)
abbrev Q_X2_assignRow : CqC := fun As σ w τ => match As with
  | [.inr (.inr (some p0)), .inr (.inr p1), .inr (.inl p2)] => ∃ r : Int64, w = some (.inr (.inl r)) ∧ HIC τ ∧ ExC [94, 217, 218] σ τ
  | _ => False
abbrev P_X0_layBody (n : Nat) : CpC := fun As σ => ∃ (p0 : Nat) (p1 : Nat), As = [.inr (.inr (some p0)), .inr (.inr (some p1))] ∧ HIC σ ∧ TyC σ p0 1 ∧ TyC σ p1 9 ∧ RkC σ p1 n ∧ ¬ (fIC σ p1 270).toInt = 68
abbrev Q_X0_layBody : CqC := fun As σ w τ => match As with
  | [.inr (.inr (some p0)), .inr (.inr (some p1))] => w = none ∧ HIC τ ∧ ExC [34, 36, 77, 289, 290] σ τ
  | _ => False
abbrev P_X0_layIf (n : Nat) : CpC := fun As σ => ∃ (p0 : Nat) (p1 : Nat), As = [.inr (.inr (some p0)), .inr (.inr (some p1))] ∧ HIC σ ∧ TyC σ p0 1 ∧ TyC σ p1 9 ∧ RkC σ p1 n
abbrev Q_X0_layIf : CqC := fun As σ w τ => match As with
  | [.inr (.inr (some p0)), .inr (.inr (some p1))] => w = none ∧ HIC τ ∧ ExC [34, 36, 77, 289, 290] σ τ
  | _ => False
abbrev P_X0_layWhile (n : Nat) : CpC := fun As σ => ∃ (p0 : Nat) (p1 : Nat), As = [.inr (.inr (some p0)), .inr (.inr (some p1))] ∧ HIC σ ∧ TyC σ p0 1 ∧ TyC σ p1 9 ∧ RkC σ p1 n
abbrev Q_X0_layWhile : CqC := fun As σ w τ => match As with
  | [.inr (.inr (some p0)), .inr (.inr (some p1))] => w = none ∧ HIC τ ∧ ExC [34, 36, 77, 289, 290] σ τ
  | _ => False
abbrev P_X0_layDo (n : Nat) : CpC := fun As σ => ∃ (p0 : Nat) (p1 : Nat), As = [.inr (.inr (some p0)), .inr (.inr (some p1))] ∧ HIC σ ∧ TyC σ p0 1 ∧ TyC σ p1 9 ∧ RkC σ p1 n
abbrev Q_X0_layDo : CqC := fun As σ w τ => match As with
  | [.inr (.inr (some p0)), .inr (.inr (some p1))] => w = none ∧ HIC τ ∧ ExC [34, 36, 77, 289, 290] σ τ
  | _ => False
abbrev P_X0_layFor (n : Nat) : CpC := fun As σ => ∃ (p0 : Nat) (p1 : Nat), As = [.inr (.inr (some p0)), .inr (.inr (some p1))] ∧ HIC σ ∧ TyC σ p0 1 ∧ TyC σ p1 9 ∧ RkC σ p1 n ∧ (fIC σ p1 270).toInt = 60
abbrev Q_X0_layFor : CqC := fun As σ w τ => match As with
  | [.inr (.inr (some p0)), .inr (.inr (some p1))] => w = none ∧ HIC τ ∧ ExC [34, 36, 77, 289, 290] σ τ
  | _ => False
abbrev P_X0_layTry (n : Nat) : CpC := fun As σ => ∃ (p0 : Nat) (p1 : Nat), As = [.inr (.inr (some p0)), .inr (.inr (some p1))] ∧ HIC σ ∧ TyC σ p0 1 ∧ TyC σ p1 9 ∧ RkC σ p1 n ∧ (fIC σ p1 270).toInt = 68
abbrev Q_X0_layTry : CqC := fun As σ w τ => match As with
  | [.inr (.inr (some p0)), .inr (.inr (some p1))] => w = none ∧ HIC τ ∧ ExC [34, 36, 77, 289, 290] σ τ
  | _ => False
abbrev P_X0_layInside (n : Nat) : CpC := fun As σ => ∃ (p0 : Nat) (p1 : Nat), As = [.inr (.inr (some p0)), .inr (.inr (some p1))] ∧ HIC σ ∧ TyC σ p0 1 ∧ TyC σ p1 9 ∧ RkC σ p1 n
abbrev Q_X0_layInside : CqC := fun As σ w τ => match As with
  | [.inr (.inr (some p0)), .inr (.inr (some p1))] => w = none ∧ HIC τ ∧ ExC [34, 36, 77, 289, 290] σ τ
  | _ => False
abbrev P_X0_layStatement (n : Nat) : CpC := fun As σ => ∃ (p0 : Nat) (p1 : Nat), As = [.inr (.inr (some p0)), .inr (.inr (some p1))] ∧ HIC σ ∧ TyC σ p0 1 ∧ TyC σ p1 9 ∧ RkC σ p1 n
abbrev Q_X0_layStatement : CqC := fun As σ w τ => match As with
  | [.inr (.inr (some p0)), .inr (.inr (some p1))] => w = none ∧ HIC τ ∧ ExC [34, 36, 77, 289, 290] σ τ
  | _ => False
abbrev P_X0_layInner (n : Nat) : CpC := fun As σ => ∃ (p0 : Nat) (p1 : Option Nat), As = [.inr (.inr (some p0)), .inr (.inr p1)] ∧ HIC σ ∧ TyC σ p0 1 ∧ OtC σ p1 9 ∧ (∀ b, p1 = some b → RkC σ b n)
abbrev Q_X0_layInner : CqC := fun As σ w τ => match As with
  | [.inr (.inr (some p0)), .inr (.inr p1)] => w = none ∧ HIC τ ∧ ExC [34, 36, 77, 289, 290] σ τ
  | _ => False
abbrev P_X0_layRow (n : Nat) : CpC := fun As σ => ∃ (p0 : Nat) (p1 : Option Nat), As = [.inr (.inr (some p0)), .inr (.inr p1)] ∧ HIC σ ∧ TyC σ p0 1 ∧ OtC σ p1 9 ∧ (∀ b, p1 = some b → RowC σ b n)
abbrev Q_X0_layRow : CqC := fun As σ w τ => match As with
  | [.inr (.inr (some p0)), .inr (.inr p1)] => w = none ∧ HIC τ ∧ ExC [34, 36, 77, 289, 290] σ τ
  | _ => False
set_option maxRecDepth 100000 in
set_option maxHeartbeats 4000000 in
theorem b_X2_reachRow (d : Nat) : TbC KX2_reachRow [(22, (P_X2_reach d), Q_X2_reach)] (P_X2_reachRow (d + 1)) Q_X2_reachRow := by
  · rintro As σ0 ⟨p0, p1, rfl, H0, h_0_0, h_1_0, q_0, q_1⟩ hgr G hB hW
    change G 0 [(0, .inr (.inr (some p0))), (1, .inr (.inr (some p1)))] [] σ0
    obtain ⟨x1, e2, c3, h4, h5⟩ := cg270 H0.1 h_1_0
    have h6 : ¬ x1.toInt = 68 := by rw [← c3]; exact q_1
    have L7 : ∀ (n7 : Nat), ∀ (σ7 : CsC) (v7_2 : Int32) (v7_3 : Option Nat), msNC (cnC σ0) v7_3 = n7 → HIC σ7 → ExC [217, 218, 282, 283, 284] σ0 σ7 → 0 ≤ v7_2.toInt → v7_2.toInt ≤ 1 → OtC σ7 v7_3 9 → (∀ b, v7_3 = some b → RowC σ7 b d) → G 7 [(0, .inr (.inr (some p0))), (1, .inr (.inr (some p1))), (2, .inl v7_2), (3, .inr (.inr v7_3))] [] σ7 := by
      intro n7
      induction n7 using Nat.strongRecOn with
      | _ n7 ih7 =>
        intro σ7 v7_2 v7_3 n7_ H8 e9 h10 h11 h12 r13
        refine hB _ _ _ _ (kgoC (is := KX2_reachRow_7) rfl ?_)
        refine k_aload_n rfl ?_
        refine k_ifnull (fun h15 => ?_) (fun b14 h15 => ?_)
        · subst h15
          refine hB _ _ _ _ (kgoC (is := KX2_reachRow_26) rfl ?_)
          refine k_aload_n rfl ?_
          refine k_iload_n rfl ?_
          have t16 := h_1_0.x e9
          refine k_putI kp282 H8 t16 (Or.inr ⟨fk282, b01C (by omega) (by omega)⟩) (by show 0 ≤ _; omega) (by show _ ≤ 1; omega) (fun σ17 H18 e19 c20 => ?_)
          refine k_iload_n rfl ?_
          refine k_ireturn (fun _ => b01C (by omega) (by omega)) ?_
          have X21 : ExC [217, 218, 282, 283, 284] σ0 σ7 := ExC.rf.tr (e9.mo (by decide))
          have X22 : ExC [217, 218, 282, 283, 284] σ0 σ17 := X21.tr (e19.mo (by decide))
          exact ⟨_, rfl, H18, X22, (by omega), (by omega)⟩
        · subst h15
          have t23 := h12 b14 rfl
          have r24 := r13 b14 rfl
          refine k_nil ?_
          refine hB _ _ _ _ (kgoC (is := KX2_reachRow_11) rfl ?_)
          refine k_aload_n rfl ?_
          refine k_aload_n rfl ?_
          refine k_iload_n rfl ?_
          have t25 := h_0_0.x e9
          refine k_inv (P := (P_X2_reach d)) (Q := Q_X2_reach) rfl rfl rfl rfl (Nat.le_of_ble_eq_true rfl) (t25.rc (by decide)) ⟨_, _, _, rfl, H8, t25, t23, (by omega), (by omega), r24.rk⟩ (fun w26 σ27 q28 => ?_)
          obtain ⟨x29, rfl, H30, e31, h32, h33⟩ := q28
          refine k_st (st' := [.inl x29]) rfl ?_
          refine k_istore_n (ls' := [(2, .inl x29), (0, .inr (.inr (some p0))), (1, .inr (.inr (some p1))), (3, .inr (.inr (some b14)))]) rfl ?_
          refine k_aload_n rfl ?_
          have t34 := t23.x e31
          obtain ⟨o37, e35, c36, t38, f39⟩ := cg275 H30.1 t34
          refine k_get kg275 t34 e35 ?_
          refine k_astore_n (ls' := [(3, .inr (.inr o37)), (2, .inl x29), (0, .inr (.inr (some p0))), (1, .inr (.inr (some p1)))]) rfl ?_
          refine k_goto ?_
          have r40 := r24.x t23 e31
          have X41 : ExC [217, 218, 282, 283, 284] σ0 σ7 := ExC.rf.tr (e9.mo (by decide))
          have X42 : ExC [217, 218, 282, 283, 284] σ0 σ27 := X41.tr (e31.mo (by decide))
          exact hW _ _ _ _ _ (List.forall_mem_cons.2 ⟨List.Mem.tail _ (List.Mem.tail _ (List.Mem.head _)), (List.forall_mem_cons.2 ⟨List.Mem.tail _ (List.Mem.tail _ (List.Mem.tail _ (List.Mem.head _))), (List.forall_mem_cons.2 ⟨List.Mem.tail _ (List.Mem.head _), (List.forall_mem_cons.2 ⟨List.Mem.head _, fun _ h => absurd h List.not_mem_nil⟩)⟩)⟩)⟩) (ih7 (msNC (cnC σ0) o37) (by have qb := t34.1; have qc := (X42.cn (by decide) : cnC σ27 = cnC σ0); have qm := n7_; cases o37 with
                      | none => dsimp only [msNC] at qm ⊢; omega
                      | some bz => have := (t38 bz rfl).1; have qf := (f39 bz rfl).2; have qg := (show _ < bz from by first | exact qf | exact qf.1); dsimp only [msNC] at qm ⊢; omega) σ27 x29 o37 rfl H30 X42 (by omega) (by omega) t38 (fun b hb => r40.nx (f39 b hb).2.2))
    refine hB _ _ _ _ (kgoC (is := KX2_reachRow_0) rfl ?_)
    refine k_iconst (m := 1) rfl (fun x43 h44 => ?_)
    refine k_istore_n (ls' := [(2, .inl x43), (0, .inr (.inr (some p0))), (1, .inr (.inr (some p1)))]) rfl ?_
    refine k_aload_n rfl ?_
    obtain ⟨o47, e45, c46, t48, f49⟩ := cg276 H0.1 h_1_0
    refine k_get kg276 h_1_0 e45 ?_
    refine k_astore_n (ls' := [(3, .inr (.inr o47)), (2, .inl x43), (0, .inr (.inr (some p0))), (1, .inr (.inr (some p1)))]) rfl ?_
    refine k_nil ?_
    exact hW _ _ _ _ _ (List.forall_mem_cons.2 ⟨List.Mem.tail _ (List.Mem.tail _ (List.Mem.head _)), (List.forall_mem_cons.2 ⟨List.Mem.tail _ (List.Mem.tail _ (List.Mem.tail _ (List.Mem.head _))), (List.forall_mem_cons.2 ⟨List.Mem.tail _ (List.Mem.head _), (List.forall_mem_cons.2 ⟨List.Mem.head _, fun _ h => absurd h List.not_mem_nil⟩)⟩)⟩)⟩) (L7 _ σ0 x43 o47 rfl H0 ExC.rf (by omega) (by omega) t48 (fun b hb => q_0.row (f49 b hb).2.2 c3 (by omega)))
theorem lg_X2_reachRow (d : Nat) : ∀ (As : List AvC) (σ : CsC), (P_X2_reachRow (d + 1)) As σ → lgC As ≤ rX2_reachRow.2.2.1 := by
  rintro As σ ⟨p0, p1, rfl, -⟩
  exact Nat.le_of_ble_eq_true rfl
theorem s_X2_reachRow (l : Launch) (d : Nat) (h_X2_reach : CMetC l (8 * d + 23) 22 (P_X2_reach d) Q_X2_reach) : CMetC l (8 * (d + 1) + 21) 21 (P_X2_reachRow (d + 1)) Q_X2_reachRow :=
  CMetC.of KX2_reachRow [(22, (P_X2_reach d), Q_X2_reach)] hX2_reachRow (by decide) (by omega) okX2_reachRow (cc1C h_X2_reach (by omega) cc0C) (lg_X2_reachRow d) (b_X2_reachRow d)

set_option maxRecDepth 100000 in
set_option maxHeartbeats 4000000 in
theorem b_X2_reachBody (d : Nat) : TbC KX2_reachBody [(22, (P_X2_reach d), Q_X2_reach)] (P_X2_reachBody (d + 1)) Q_X2_reachBody := by
  · rintro As σ0 ⟨p0, p1, p2, rfl, H0, h_0_0, h_1_0, h_2_0, h_2_1, q_0⟩ hgr G hB hW
    change G 0 [(0, .inr (.inr (some p0))), (1, .inr (.inr (some p1))), (2, .inl p2)] [] σ0
    refine hB _ _ _ _ (kgoC (is := KX2_reachBody_0) rfl ?_)
    refine k_aload_n rfl ?_
    obtain ⟨o3, e1, c2, t4, f5⟩ := cg276 H0.1 h_1_0
    refine k_get kg276 h_1_0 e1 ?_
    refine k_ifnull (fun h7 => ?_) (fun b6 h7 => ?_)
    · subst h7
      refine hB _ _ _ _ (kgoC (is := KX2_reachBody_23) rfl ?_)
      refine k_iconst (m := 0) rfl (fun x8 h9 => ?_)
      refine k_nil ?_
      refine hB _ _ _ _ (kgoC (is := KX2_reachBody_24) rfl ?_)
      refine k_ireturn (fun _ => b01C (by omega) (by omega)) ?_
      exact ⟨_, rfl, H0, (ExC.rf : ExC [217, 218, 282, 283, 284] σ0 σ0), (by omega), (by omega)⟩
    · subst h7
      have t10 := t4 b6 rfl
      have f11 := (f5 b6 rfl).2
      have r12 := q_0.ch f11.2
      refine k_nil ?_
      refine hB _ _ _ _ (kgoC (is := KX2_reachBody_7) rfl ?_)
      refine k_aload_n rfl ?_
      refine k_aload_n rfl ?_
      refine k_get kg276 h_1_0 (congrArg (fun z : Option Nat => (Sum.inr (Sum.inr z) : AvC)) c2) ?_
      refine k_iload_n rfl ?_
      refine k_inv (P := (P_X2_reach d)) (Q := Q_X2_reach) rfl rfl rfl rfl (Nat.le_of_ble_eq_true rfl) (h_0_0.rc (by decide)) ⟨_, _, _, rfl, H0, h_0_0, t10, (by omega), (by omega), r12⟩ (fun w13 σ14 q15 => ?_)
      obtain ⟨x16, rfl, H17, e18, h19, h20⟩ := q15
      refine k_st (st' := [.inl x16]) rfl ?_
      refine k_if_eq (fun h21 => ?_) (fun h21 => ?_)
      · refine hB _ _ _ _ (kgoC (is := KX2_reachBody_23) rfl ?_)
        refine k_iconst (m := 0) rfl (fun x22 h23 => ?_)
        refine k_nil ?_
        refine hB _ _ _ _ (kgoC (is := KX2_reachBody_24) rfl ?_)
        refine k_ireturn (fun _ => b01C (by omega) (by omega)) ?_
        have X24 : ExC [217, 218, 282, 283, 284] σ0 σ14 := ExC.rf.tr (e18.mo (by decide))
        exact ⟨_, rfl, H17, X24, (by omega), (by omega)⟩
      · refine k_nil ?_
        refine hB _ _ _ _ (kgoC (is := KX2_reachBody_19) rfl ?_)
        refine k_iconst (m := 1) rfl (fun x25 h26 => ?_)
        refine k_goto ?_
        refine hB _ _ _ _ (kgoC (is := KX2_reachBody_24) rfl ?_)
        refine k_ireturn (fun _ => b01C (by omega) (by omega)) ?_
        have X27 : ExC [217, 218, 282, 283, 284] σ0 σ14 := ExC.rf.tr (e18.mo (by decide))
        exact ⟨_, rfl, H17, X27, (by omega), (by omega)⟩
theorem lg_X2_reachBody (d : Nat) : ∀ (As : List AvC) (σ : CsC), (P_X2_reachBody (d + 1)) As σ → lgC As ≤ rX2_reachBody.2.2.1 := by
  rintro As σ ⟨p0, p1, p2, rfl, -⟩
  exact Nat.le_of_ble_eq_true rfl
theorem s_X2_reachBody (l : Launch) (d : Nat) (h_X2_reach : CMetC l (8 * d + 23) 22 (P_X2_reach d) Q_X2_reach) : CMetC l (8 * (d + 1) + 21) 24 (P_X2_reachBody (d + 1)) Q_X2_reachBody :=
  CMetC.of KX2_reachBody [(22, (P_X2_reach d), Q_X2_reach)] hX2_reachBody (by decide) (by omega) okX2_reachBody (cc1C h_X2_reach (by omega) cc0C) (lg_X2_reachBody d) (b_X2_reachBody d)

set_option maxRecDepth 100000 in
set_option maxHeartbeats 4000000 in
theorem b_X2_reachSwitch (d : Nat) : TbC KX2_reachSwitch [(22, (P_X2_reach d), Q_X2_reach)] (P_X2_reachSwitch (d + 1)) Q_X2_reachSwitch := by
  · rintro As σ0 ⟨p0, p1, rfl, H0, h_0_0, h_1_0, q_0, q_1⟩ hgr G hB hW
    change G 0 [(0, .inr (.inr (some p0))), (1, .inr (.inr (some p1)))] [] σ0
    obtain ⟨x1, e2, c3, h4, h5⟩ := cg270 H0.1 h_1_0
    have h6 : ¬ x1.toInt = 68 := by rw [← c3]; exact q_1
    have L10 : ∀ (n10 : Nat), ∀ (σ7 : CsC) (v10_2 : Int32) (v10_3 : Int32) (v10_4 : Option Nat), msNC (cnC σ0) v10_4 = n10 → HIC σ7 → ExC [217, 218, 282, 283, 284] σ0 σ7 → 0 ≤ v10_2.toInt → v10_2.toInt ≤ 1 → 0 ≤ v10_3.toInt → v10_3.toInt ≤ 1 → OtC σ7 v10_4 9 → (∀ b, v10_4 = some b → RowC σ7 b d) → G 10 [(0, .inr (.inr (some p0))), (1, .inr (.inr (some p1))), (2, .inl v10_2), (3, .inl v10_3), (4, .inr (.inr v10_4))] [] σ7 := by
      intro n10
      induction n10 using Nat.strongRecOn with
      | _ n10 ih10 =>
        intro σ7 v10_2 v10_3 v10_4 n10_ H8 e9 h10 h11 h12 h13 h14 r15
        refine hB _ _ _ _ (kgoC (is := KX2_reachSwitch_10) rfl ?_)
        refine k_aload rfl ?_
        refine k_ifnull (fun h17 => ?_) (fun b16 h17 => ?_)
        · subst h17
          refine hB _ _ _ _ (kgoC (is := KX2_reachSwitch_76) rfl ?_)
          refine k_iload_n rfl ?_
          refine k_if_ne (fun h18 => ?_) (fun h18 => ?_)
          · refine hB _ _ _ _ (kgoC (is := KX2_reachSwitch_91) rfl ?_)
            refine k_iconst (m := 1) rfl (fun x19 h20 => ?_)
            refine k_goto ?_
            refine hB _ _ _ _ (kgoC (is := KX2_reachSwitch_96) rfl ?_)
            refine k_ireturn (fun _ => b01C (by omega) (by omega)) ?_
            have X21 : ExC [217, 218, 282, 283, 284] σ0 σ7 := ExC.rf.tr (e9.mo (by decide))
            exact ⟨_, rfl, H8, X21, (by omega), (by omega)⟩
          · refine k_nil ?_
            refine hB _ _ _ _ (kgoC (is := KX2_reachSwitch_80) rfl ?_)
            refine k_iload_n rfl ?_
            refine k_if_eq (fun h22 => ?_) (fun h22 => ?_)
            · refine hB _ _ _ _ (kgoC (is := KX2_reachSwitch_91) rfl ?_)
              refine k_iconst (m := 1) rfl (fun x23 h24 => ?_)
              refine k_goto ?_
              refine hB _ _ _ _ (kgoC (is := KX2_reachSwitch_96) rfl ?_)
              refine k_ireturn (fun _ => b01C (by omega) (by omega)) ?_
              have X25 : ExC [217, 218, 282, 283, 284] σ0 σ7 := ExC.rf.tr (e9.mo (by decide))
              exact ⟨_, rfl, H8, X25, (by omega), (by omega)⟩
            · refine k_nil ?_
              refine hB _ _ _ _ (kgoC (is := KX2_reachSwitch_84) rfl ?_)
              refine k_aload_n rfl ?_
              have t26 := h_1_0.x e9
              obtain ⟨x29, e27, c28, h30, h31⟩ := cg283 H8.1 t26
              refine k_get kg283 t26 e27 ?_
              refine k_if_eq (fun h32 => ?_) (fun h32 => ?_)
              · refine hB _ _ _ _ (kgoC (is := KX2_reachSwitch_95) rfl ?_)
                refine k_iconst (m := 0) rfl (fun x33 h34 => ?_)
                refine k_nil ?_
                refine hB _ _ _ _ (kgoC (is := KX2_reachSwitch_96) rfl ?_)
                refine k_ireturn (fun _ => b01C (by omega) (by omega)) ?_
                have X35 : ExC [217, 218, 282, 283, 284] σ0 σ7 := ExC.rf.tr (e9.mo (by decide))
                exact ⟨_, rfl, H8, X35, (by omega), (by omega)⟩
              · refine k_nil ?_
                refine hB _ _ _ _ (kgoC (is := KX2_reachSwitch_91) rfl ?_)
                refine k_iconst (m := 1) rfl (fun x36 h37 => ?_)
                refine k_goto ?_
                refine hB _ _ _ _ (kgoC (is := KX2_reachSwitch_96) rfl ?_)
                refine k_ireturn (fun _ => b01C (by omega) (by omega)) ?_
                have X38 : ExC [217, 218, 282, 283, 284] σ0 σ7 := ExC.rf.tr (e9.mo (by decide))
                exact ⟨_, rfl, H8, X38, (by omega), (by omega)⟩
        · subst h17
          have t39 := h14 b16 rfl
          have r40 := r15 b16 rfl
          refine k_nil ?_
          refine hB _ _ _ _ (kgoC (is := KX2_reachSwitch_15) rfl ?_)
          refine k_aload rfl ?_
          obtain ⟨x43, e41, c42, h44, h45⟩ := cg270 H8.1 t39
          refine k_get kg270 t39 e41 ?_
          refine k_bipush (m := 62) rfl (fun x46 h47 => ?_)
          refine k_ic_eq (fun h48 => ?_) (fun h48 => ?_)
          · refine hB _ _ _ _ (kgoC (is := KX2_reachSwitch_35) rfl ?_)
            refine k_iconst (m := 1) rfl (fun x49 h50 => ?_)
            refine k_istore_n (ls' := [(2, .inl x49), (0, .inr (.inr (some p0))), (1, .inr (.inr (some p1))), (3, .inl v10_3), (4, .inr (.inr (some b16)))]) rfl ?_
            refine k_iload_n rfl ?_
            refine k_aload rfl ?_
            refine k_get kg270 t39 (congrArg (Sum.inl : Int32 → AvC) c42) ?_
            refine k_bipush (m := 63) rfl (fun x51 h52 => ?_)
            refine k_ic_ne (fun h53 => ?_) (fun h53 => by exfalso; omega)
            refine hB _ _ _ _ (kgoC (is := KX2_reachSwitch_52) rfl ?_)
            refine k_iconst (m := 0) rfl (fun x54 h55 => ?_)
            refine k_nil ?_
            refine hB _ _ _ _ (kgoC (is := KX2_reachSwitch_53) rfl ?_)
            refine k_ior_b (b01C (by omega) (by omega)) (b01C (by omega) (by omega)) (fun x56 h57 h58 => ?_)
            refine k_istore_n (ls' := [(3, .inl x56), (2, .inl x49), (0, .inr (.inr (some p0))), (1, .inr (.inr (some p1))), (4, .inr (.inr (some b16)))]) rfl ?_
            refine k_goto ?_
            refine hB _ _ _ _ (kgoC (is := KX2_reachSwitch_66) rfl ?_)
            refine k_aload rfl ?_
            obtain ⟨o61, e59, c60, t62, f63⟩ := cg275 H8.1 t39
            refine k_get kg275 t39 e59 ?_
            refine k_astore (ls' := [(4, .inr (.inr o61)), (3, .inl x56), (2, .inl x49), (0, .inr (.inr (some p0))), (1, .inr (.inr (some p1)))]) rfl ?_
            refine k_goto ?_
            have X64 : ExC [217, 218, 282, 283, 284] σ0 σ7 := ExC.rf.tr (e9.mo (by decide))
            exact hW _ _ _ _ _ (List.forall_mem_cons.2 ⟨List.Mem.tail _ (List.Mem.tail _ (List.Mem.tail _ (List.Mem.head _))), (List.forall_mem_cons.2 ⟨List.Mem.tail _ (List.Mem.tail _ (List.Mem.tail _ (List.Mem.tail _ (List.Mem.head _)))), (List.forall_mem_cons.2 ⟨List.Mem.tail _ (List.Mem.tail _ (List.Mem.head _)), (List.forall_mem_cons.2 ⟨List.Mem.tail _ (List.Mem.head _), (List.forall_mem_cons.2 ⟨List.Mem.head _, fun _ h => absurd h List.not_mem_nil⟩)⟩)⟩)⟩)⟩) (ih10 (msNC (cnC σ0) o61) (by have qb := t39.1; have qc := (X64.cn (by decide) : cnC σ7 = cnC σ0); have qm := n10_; cases o61 with
                          | none => dsimp only [msNC] at qm ⊢; omega
                          | some bz => have := (t62 bz rfl).1; have qf := (f63 bz rfl).2; have qg := (show _ < bz from by first | exact qf | exact qf.1); dsimp only [msNC] at qm ⊢; omega) σ7 x49 x56 o61 rfl H8 X64 (by omega) (by omega) (by omega) (by omega) t62 (fun b hb => r40.nx (f63 b hb).2.2))
          · refine k_nil ?_
            refine hB _ _ _ _ (kgoC (is := KX2_reachSwitch_25) rfl ?_)
            refine k_aload rfl ?_
            refine k_get kg270 t39 (congrArg (Sum.inl : Int32 → AvC) c42) ?_
            refine k_bipush (m := 63) rfl (fun x65 h66 => ?_)
            refine k_ic_ne (fun h67 => ?_) (fun h67 => ?_)
            · refine hB _ _ _ _ (kgoC (is := KX2_reachSwitch_58) rfl ?_)
              refine k_aload_n rfl ?_
              refine k_aload rfl ?_
              refine k_iload_n rfl ?_
              have t68 := h_0_0.x e9
              refine k_inv (P := (P_X2_reach d)) (Q := Q_X2_reach) rfl rfl rfl rfl (Nat.le_of_ble_eq_true rfl) (t68.rc (by decide)) ⟨_, _, _, rfl, H8, t68, t39, (by omega), (by omega), r40.rk⟩ (fun w69 σ70 q71 => ?_)
              obtain ⟨x72, rfl, H73, e74, h75, h76⟩ := q71
              refine k_st (st' := [.inl x72]) rfl ?_
              refine k_istore_n (ls' := [(2, .inl x72), (0, .inr (.inr (some p0))), (1, .inr (.inr (some p1))), (3, .inl v10_3), (4, .inr (.inr (some b16)))]) rfl ?_
              refine k_nil ?_
              refine hB _ _ _ _ (kgoC (is := KX2_reachSwitch_66) rfl ?_)
              refine k_aload rfl ?_
              have t77 := t39.x e74
              obtain ⟨o80, e78, c79, t81, f82⟩ := cg275 H73.1 t77
              refine k_get kg275 t77 e78 ?_
              refine k_astore (ls' := [(4, .inr (.inr o80)), (2, .inl x72), (0, .inr (.inr (some p0))), (1, .inr (.inr (some p1))), (3, .inl v10_3)]) rfl ?_
              refine k_goto ?_
              have r83 := r40.x t39 e74
              have X84 : ExC [217, 218, 282, 283, 284] σ0 σ7 := ExC.rf.tr (e9.mo (by decide))
              have X85 : ExC [217, 218, 282, 283, 284] σ0 σ70 := X84.tr (e74.mo (by decide))
              exact hW _ _ _ _ _ (List.forall_mem_cons.2 ⟨List.Mem.tail _ (List.Mem.tail _ (List.Mem.head _)), (List.forall_mem_cons.2 ⟨List.Mem.tail _ (List.Mem.tail _ (List.Mem.tail _ (List.Mem.head _))), (List.forall_mem_cons.2 ⟨List.Mem.tail _ (List.Mem.head _), (List.forall_mem_cons.2 ⟨List.Mem.tail _ (List.Mem.tail _ (List.Mem.tail _ (List.Mem.tail _ (List.Mem.head _)))), (List.forall_mem_cons.2 ⟨List.Mem.head _, fun _ h => absurd h List.not_mem_nil⟩)⟩)⟩)⟩)⟩) (ih10 (msNC (cnC σ0) o80) (by have qb := t77.1; have qc := (X85.cn (by decide) : cnC σ70 = cnC σ0); have qm := n10_; cases o80 with
                              | none => dsimp only [msNC] at qm ⊢; omega
                              | some bz => have := (t81 bz rfl).1; have qf := (f82 bz rfl).2; have qg := (show _ < bz from by first | exact qf | exact qf.1); dsimp only [msNC] at qm ⊢; omega) σ70 x72 v10_3 o80 rfl H73 X85 (by omega) (by omega) (by omega) (by omega) t81 (fun b hb => r83.nx (f82 b hb).2.2))
            · refine k_nil ?_
              refine hB _ _ _ _ (kgoC (is := KX2_reachSwitch_35) rfl ?_)
              refine k_iconst (m := 1) rfl (fun x86 h87 => ?_)
              refine k_istore_n (ls' := [(2, .inl x86), (0, .inr (.inr (some p0))), (1, .inr (.inr (some p1))), (3, .inl v10_3), (4, .inr (.inr (some b16)))]) rfl ?_
              refine k_iload_n rfl ?_
              refine k_aload rfl ?_
              refine k_get kg270 t39 (congrArg (Sum.inl : Int32 → AvC) c42) ?_
              refine k_bipush (m := 63) rfl (fun x88 h89 => ?_)
              refine k_ic_ne (fun h90 => by exfalso; omega) (fun h90 => ?_)
              refine k_nil ?_
              refine hB _ _ _ _ (kgoC (is := KX2_reachSwitch_48) rfl ?_)
              refine k_iconst (m := 1) rfl (fun x91 h92 => ?_)
              refine k_goto ?_
              refine hB _ _ _ _ (kgoC (is := KX2_reachSwitch_53) rfl ?_)
              refine k_ior_b (b01C (by omega) (by omega)) (b01C (by omega) (by omega)) (fun x93 h94 h95 => ?_)
              refine k_istore_n (ls' := [(3, .inl x93), (2, .inl x86), (0, .inr (.inr (some p0))), (1, .inr (.inr (some p1))), (4, .inr (.inr (some b16)))]) rfl ?_
              refine k_goto ?_
              refine hB _ _ _ _ (kgoC (is := KX2_reachSwitch_66) rfl ?_)
              refine k_aload rfl ?_
              obtain ⟨o98, e96, c97, t99, f100⟩ := cg275 H8.1 t39
              refine k_get kg275 t39 e96 ?_
              refine k_astore (ls' := [(4, .inr (.inr o98)), (3, .inl x93), (2, .inl x86), (0, .inr (.inr (some p0))), (1, .inr (.inr (some p1)))]) rfl ?_
              refine k_goto ?_
              have X101 : ExC [217, 218, 282, 283, 284] σ0 σ7 := ExC.rf.tr (e9.mo (by decide))
              exact hW _ _ _ _ _ (List.forall_mem_cons.2 ⟨List.Mem.tail _ (List.Mem.tail _ (List.Mem.tail _ (List.Mem.head _))), (List.forall_mem_cons.2 ⟨List.Mem.tail _ (List.Mem.tail _ (List.Mem.tail _ (List.Mem.tail _ (List.Mem.head _)))), (List.forall_mem_cons.2 ⟨List.Mem.tail _ (List.Mem.tail _ (List.Mem.head _)), (List.forall_mem_cons.2 ⟨List.Mem.tail _ (List.Mem.head _), (List.forall_mem_cons.2 ⟨List.Mem.head _, fun _ h => absurd h List.not_mem_nil⟩)⟩)⟩)⟩)⟩) (ih10 (msNC (cnC σ0) o98) (by have qb := t39.1; have qc := (X101.cn (by decide) : cnC σ7 = cnC σ0); have qm := n10_; cases o98 with
                              | none => dsimp only [msNC] at qm ⊢; omega
                              | some bz => have := (t99 bz rfl).1; have qf := (f100 bz rfl).2; have qg := (show _ < bz from by first | exact qf | exact qf.1); dsimp only [msNC] at qm ⊢; omega) σ7 x86 x93 o98 rfl H8 X101 (by omega) (by omega) (by omega) (by omega) t99 (fun b hb => r40.nx (f100 b hb).2.2))
    refine hB _ _ _ _ (kgoC (is := KX2_reachSwitch_0) rfl ?_)
    refine k_iconst (m := 0) rfl (fun x102 h103 => ?_)
    refine k_istore_n (ls' := [(2, .inl x102), (0, .inr (.inr (some p0))), (1, .inr (.inr (some p1)))]) rfl ?_
    refine k_iconst (m := 0) rfl (fun x104 h105 => ?_)
    refine k_istore_n (ls' := [(3, .inl x104), (2, .inl x102), (0, .inr (.inr (some p0))), (1, .inr (.inr (some p1)))]) rfl ?_
    refine k_aload_n rfl ?_
    obtain ⟨o108, e106, c107, t109, f110⟩ := cg276 H0.1 h_1_0
    refine k_get kg276 h_1_0 e106 ?_
    refine k_astore (ls' := [(4, .inr (.inr o108)), (3, .inl x104), (2, .inl x102), (0, .inr (.inr (some p0))), (1, .inr (.inr (some p1)))]) rfl ?_
    refine k_nil ?_
    exact hW _ _ _ _ _ (List.forall_mem_cons.2 ⟨List.Mem.tail _ (List.Mem.tail _ (List.Mem.tail _ (List.Mem.head _))), (List.forall_mem_cons.2 ⟨List.Mem.tail _ (List.Mem.tail _ (List.Mem.tail _ (List.Mem.tail _ (List.Mem.head _)))), (List.forall_mem_cons.2 ⟨List.Mem.tail _ (List.Mem.tail _ (List.Mem.head _)), (List.forall_mem_cons.2 ⟨List.Mem.tail _ (List.Mem.head _), (List.forall_mem_cons.2 ⟨List.Mem.head _, fun _ h => absurd h List.not_mem_nil⟩)⟩)⟩)⟩)⟩) (L10 _ σ0 x102 x104 o108 rfl H0 ExC.rf (by omega) (by omega) (by omega) (by omega) t109 (fun b hb => q_0.row (f110 b hb).2.2 c3 (by omega)))
theorem lg_X2_reachSwitch (d : Nat) : ∀ (As : List AvC) (σ : CsC), (P_X2_reachSwitch (d + 1)) As σ → lgC As ≤ rX2_reachSwitch.2.2.1 := by
  rintro As σ ⟨p0, p1, rfl, -⟩
  exact Nat.le_of_ble_eq_true rfl
theorem s_X2_reachSwitch (l : Launch) (d : Nat) (h_X2_reach : CMetC l (8 * d + 23) 22 (P_X2_reach d) Q_X2_reach) : CMetC l (8 * (d + 1) + 21) 25 (P_X2_reachSwitch (d + 1)) Q_X2_reachSwitch :=
  CMetC.of KX2_reachSwitch [(22, (P_X2_reach d), Q_X2_reach)] hX2_reachSwitch (by decide) (by omega) okX2_reachSwitch (cc1C h_X2_reach (by omega) cc0C) (lg_X2_reachSwitch d) (b_X2_reachSwitch d)

set_option maxRecDepth 100000 in
set_option maxHeartbeats 4000000 in
theorem b_X2_reachTry (d : Nat) : TbC KX2_reachTry [(21, (P_X2_reachRow d), Q_X2_reachRow)] (P_X2_reachTry (d + 1)) Q_X2_reachTry := by
  · rintro As σ0 ⟨p0, p1, rfl, H0, h_0_0, h_1_0, q_0, q_1⟩ hgr G hB hW
    change G 0 [(0, .inr (.inr (some p0))), (1, .inr (.inr (some p1)))] [] σ0
    obtain ⟨x1, e2, c3, h4, h5⟩ := cg270 H0.1 h_1_0
    have h6 : x1.toInt = 68 := by rw [← c3]; exact q_1
    refine hB _ _ _ _ (kgoC (is := KX2_reachTry_0) rfl ?_)
    refine k_aload_n rfl ?_
    obtain ⟨o9, e7, c8, t10, f11⟩ := cg278 H0.1 h_1_0
    refine k_get kg278 h_1_0 e7 ?_
    refine k_ifnull (fun h13 => ?_) (fun b12 h13 => ?_)
    · subst h13
      refine hB _ _ _ _ (kgoC (is := KX2_reachTry_18) rfl ?_)
      refine k_iconst (m := 1) rfl (fun x14 h15 => ?_)
      refine k_goto ?_
      refine hB _ _ _ _ (kgoC (is := KX2_reachTry_23) rfl ?_)
      refine k_istore_n (ls' := [(2, .inl x14), (0, .inr (.inr (some p0))), (1, .inr (.inr (some p1)))]) rfl ?_
      refine k_aload_n rfl ?_
      obtain ⟨o18, e16, c17, t19, f20⟩ := cg276 H0.1 h_1_0
      refine k_get kg276 h_1_0 e16 ?_
      refine k_ifnull (fun h22 => ?_) (fun b21 h22 => ?_)
      · subst h22
        refine hB _ _ _ _ (kgoC (is := KX2_reachTry_46) rfl ?_)
        refine k_iconst (m := 0) rfl (fun x23 h24 => ?_)
        refine k_nil ?_
        refine hB _ _ _ _ (kgoC (is := KX2_reachTry_47) rfl ?_)
        refine k_istore_n (ls' := [(3, .inl x23), (2, .inl x14), (0, .inr (.inr (some p0))), (1, .inr (.inr (some p1)))]) rfl ?_
        refine k_aload_n rfl ?_
        obtain ⟨o27, e25, c26, t28, f29⟩ := cg277 H0.1 h_1_0
        refine k_get kg277 h_1_0 e25 ?_
        refine k_ifnull (fun h31 => ?_) (fun b30 h31 => ?_)
        · subst h31
          refine hB _ _ _ _ (kgoC (is := KX2_reachTry_66) rfl ?_)
          refine k_iload_n rfl ?_
          refine k_if_eq (fun h32 => ?_) (fun h32 => by exfalso; omega)
          refine hB _ _ _ _ (kgoC (is := KX2_reachTry_78) rfl ?_)
          refine k_iconst (m := 0) rfl (fun x33 h34 => ?_)
          refine k_nil ?_
          refine hB _ _ _ _ (kgoC (is := KX2_reachTry_79) rfl ?_)
          refine k_ireturn (fun _ => b01C (by omega) (by omega)) ?_
          exact ⟨_, rfl, H0, (ExC.rf : ExC [217, 218, 282, 283, 284] σ0 σ0), (by omega), (by omega)⟩
        · subst h31
          have t35 := t28 b30 rfl
          have f36 := (f29 b30 rfl).2
          have r37 := q_0.ch f36.2
          have k38 := (f36.2.1 (by rw [c3]; omega)).1
          refine k_nil ?_
          refine hB _ _ _ _ (kgoC (is := KX2_reachTry_55) rfl ?_)
          refine k_iload_n rfl ?_
          refine k_aload_n rfl ?_
          refine k_aload_n rfl ?_
          refine k_get kg277 h_1_0 (congrArg (fun z : Option Nat => (Sum.inr (Sum.inr z) : AvC)) c26) ?_
          refine k_inv (P := (P_X2_reachRow d)) (Q := Q_X2_reachRow) rfl rfl rfl rfl (Nat.le_of_ble_eq_true rfl) (h_0_0.rc (by decide)) ⟨_, _, rfl, H0, h_0_0, t35, r37, (by rw [k38]; decide)⟩ (fun w39 σ40 q41 => ?_)
          obtain ⟨x42, rfl, H43, e44, h45, h46⟩ := q41
          refine k_st (st' := [.inl x42, .inl x23]) rfl ?_
          refine k_ior_b (b01C (by omega) (by omega)) (b01C (by omega) (by omega)) (fun x47 h48 h49 => ?_)
          refine k_istore_n (ls' := [(3, .inl x47), (2, .inl x14), (0, .inr (.inr (some p0))), (1, .inr (.inr (some p1)))]) rfl ?_
          refine k_nil ?_
          refine hB _ _ _ _ (kgoC (is := KX2_reachTry_66) rfl ?_)
          refine k_iload_n rfl ?_
          refine k_if_eq (fun h50 => ?_) (fun h50 => ?_)
          · refine hB _ _ _ _ (kgoC (is := KX2_reachTry_78) rfl ?_)
            refine k_iconst (m := 0) rfl (fun x51 h52 => ?_)
            refine k_nil ?_
            refine hB _ _ _ _ (kgoC (is := KX2_reachTry_79) rfl ?_)
            refine k_ireturn (fun _ => b01C (by omega) (by omega)) ?_
            have X53 : ExC [217, 218, 282, 283, 284] σ0 σ40 := ExC.rf.tr (e44.mo (by decide))
            exact ⟨_, rfl, H43, X53, (by omega), (by omega)⟩
          · refine k_nil ?_
            refine hB _ _ _ _ (kgoC (is := KX2_reachTry_70) rfl ?_)
            refine k_iload_n rfl ?_
            refine k_if_eq (fun h54 => by exfalso; omega) (fun h54 => ?_)
            refine k_nil ?_
            refine hB _ _ _ _ (kgoC (is := KX2_reachTry_74) rfl ?_)
            refine k_iconst (m := 1) rfl (fun x55 h56 => ?_)
            refine k_goto ?_
            refine hB _ _ _ _ (kgoC (is := KX2_reachTry_79) rfl ?_)
            refine k_ireturn (fun _ => b01C (by omega) (by omega)) ?_
            have X57 : ExC [217, 218, 282, 283, 284] σ0 σ40 := ExC.rf.tr (e44.mo (by decide))
            exact ⟨_, rfl, H43, X57, (by omega), (by omega)⟩
      · subst h22
        have t58 := t19 b21 rfl
        have f59 := (f20 b21 rfl).2
        have r60 := q_0.ch f59.2
        have k61 := (f59.2.1 (by rw [c3]; omega)).1
        refine k_nil ?_
        refine hB _ _ _ _ (kgoC (is := KX2_reachTry_31) rfl ?_)
        refine k_aload_n rfl ?_
        refine k_aload_n rfl ?_
        refine k_get kg276 h_1_0 (congrArg (fun z : Option Nat => (Sum.inr (Sum.inr z) : AvC)) c17) ?_
        refine k_inv (P := (P_X2_reachRow d)) (Q := Q_X2_reachRow) rfl rfl rfl rfl (Nat.le_of_ble_eq_true rfl) (h_0_0.rc (by decide)) ⟨_, _, rfl, H0, h_0_0, t58, r60, (by rw [k61]; decide)⟩ (fun w62 σ63 q64 => ?_)
        obtain ⟨x65, rfl, H66, e67, h68, h69⟩ := q64
        refine k_st (st' := [.inl x65]) rfl ?_
        refine k_if_eq (fun h70 => ?_) (fun h70 => ?_)
        · refine hB _ _ _ _ (kgoC (is := KX2_reachTry_46) rfl ?_)
          refine k_iconst (m := 0) rfl (fun x71 h72 => ?_)
          refine k_nil ?_
          refine hB _ _ _ _ (kgoC (is := KX2_reachTry_47) rfl ?_)
          refine k_istore_n (ls' := [(3, .inl x71), (2, .inl x14), (0, .inr (.inr (some p0))), (1, .inr (.inr (some p1)))]) rfl ?_
          refine k_aload_n rfl ?_
          have t73 := h_1_0.x e67
          obtain ⟨o76, e74, c75, t77, f78⟩ := cg277 H66.1 t73
          refine k_get kg277 t73 e74 ?_
          refine k_ifnull (fun h80 => ?_) (fun b79 h80 => ?_)
          · subst h80
            refine hB _ _ _ _ (kgoC (is := KX2_reachTry_66) rfl ?_)
            refine k_iload_n rfl ?_
            refine k_if_eq (fun h81 => ?_) (fun h81 => by exfalso; omega)
            refine hB _ _ _ _ (kgoC (is := KX2_reachTry_78) rfl ?_)
            refine k_iconst (m := 0) rfl (fun x82 h83 => ?_)
            refine k_nil ?_
            refine hB _ _ _ _ (kgoC (is := KX2_reachTry_79) rfl ?_)
            refine k_ireturn (fun _ => b01C (by omega) (by omega)) ?_
            have X84 : ExC [217, 218, 282, 283, 284] σ0 σ63 := ExC.rf.tr (e67.mo (by decide))
            exact ⟨_, rfl, H66, X84, (by omega), (by omega)⟩
          · subst h80
            have t85 := t77 b79 rfl
            have f86 := (f78 b79 rfl).2
            have r88 := q_0.x h_1_0 e67
            have r87 := r88.ch f86.2
            have c89 := (h_1_0.mi e67 (by decide)).trans c3
            have k90 := (f86.2.1 (by rw [c89]; omega)).1
            refine k_nil ?_
            refine hB _ _ _ _ (kgoC (is := KX2_reachTry_55) rfl ?_)
            refine k_iload_n rfl ?_
            refine k_aload_n rfl ?_
            refine k_aload_n rfl ?_
            refine k_get kg277 t73 (congrArg (fun z : Option Nat => (Sum.inr (Sum.inr z) : AvC)) c75) ?_
            have t91 := h_0_0.x e67
            refine k_inv (P := (P_X2_reachRow d)) (Q := Q_X2_reachRow) rfl rfl rfl rfl (Nat.le_of_ble_eq_true rfl) (t91.rc (by decide)) ⟨_, _, rfl, H66, t91, t85, r87, (by rw [k90]; decide)⟩ (fun w92 σ93 q94 => ?_)
            obtain ⟨x95, rfl, H96, e97, h98, h99⟩ := q94
            refine k_st (st' := [.inl x95, .inl x71]) rfl ?_
            refine k_ior_b (b01C (by omega) (by omega)) (b01C (by omega) (by omega)) (fun x100 h101 h102 => ?_)
            refine k_istore_n (ls' := [(3, .inl x100), (2, .inl x14), (0, .inr (.inr (some p0))), (1, .inr (.inr (some p1)))]) rfl ?_
            refine k_nil ?_
            refine hB _ _ _ _ (kgoC (is := KX2_reachTry_66) rfl ?_)
            refine k_iload_n rfl ?_
            refine k_if_eq (fun h103 => ?_) (fun h103 => ?_)
            · refine hB _ _ _ _ (kgoC (is := KX2_reachTry_78) rfl ?_)
              refine k_iconst (m := 0) rfl (fun x104 h105 => ?_)
              refine k_nil ?_
              refine hB _ _ _ _ (kgoC (is := KX2_reachTry_79) rfl ?_)
              refine k_ireturn (fun _ => b01C (by omega) (by omega)) ?_
              have X106 : ExC [217, 218, 282, 283, 284] σ0 σ63 := ExC.rf.tr (e67.mo (by decide))
              have X107 : ExC [217, 218, 282, 283, 284] σ0 σ93 := X106.tr (e97.mo (by decide))
              exact ⟨_, rfl, H96, X107, (by omega), (by omega)⟩
            · refine k_nil ?_
              refine hB _ _ _ _ (kgoC (is := KX2_reachTry_70) rfl ?_)
              refine k_iload_n rfl ?_
              refine k_if_eq (fun h108 => by exfalso; omega) (fun h108 => ?_)
              refine k_nil ?_
              refine hB _ _ _ _ (kgoC (is := KX2_reachTry_74) rfl ?_)
              refine k_iconst (m := 1) rfl (fun x109 h110 => ?_)
              refine k_goto ?_
              refine hB _ _ _ _ (kgoC (is := KX2_reachTry_79) rfl ?_)
              refine k_ireturn (fun _ => b01C (by omega) (by omega)) ?_
              have X111 : ExC [217, 218, 282, 283, 284] σ0 σ63 := ExC.rf.tr (e67.mo (by decide))
              have X112 : ExC [217, 218, 282, 283, 284] σ0 σ93 := X111.tr (e97.mo (by decide))
              exact ⟨_, rfl, H96, X112, (by omega), (by omega)⟩
        · refine k_nil ?_
          refine hB _ _ _ _ (kgoC (is := KX2_reachTry_42) rfl ?_)
          refine k_iconst (m := 1) rfl (fun x113 h114 => ?_)
          refine k_goto ?_
          refine hB _ _ _ _ (kgoC (is := KX2_reachTry_47) rfl ?_)
          refine k_istore_n (ls' := [(3, .inl x113), (2, .inl x14), (0, .inr (.inr (some p0))), (1, .inr (.inr (some p1)))]) rfl ?_
          refine k_aload_n rfl ?_
          have t115 := h_1_0.x e67
          obtain ⟨o118, e116, c117, t119, f120⟩ := cg277 H66.1 t115
          refine k_get kg277 t115 e116 ?_
          refine k_ifnull (fun h122 => ?_) (fun b121 h122 => ?_)
          · subst h122
            refine hB _ _ _ _ (kgoC (is := KX2_reachTry_66) rfl ?_)
            refine k_iload_n rfl ?_
            refine k_if_eq (fun h123 => by exfalso; omega) (fun h123 => ?_)
            refine k_nil ?_
            refine hB _ _ _ _ (kgoC (is := KX2_reachTry_70) rfl ?_)
            refine k_iload_n rfl ?_
            refine k_if_eq (fun h124 => by exfalso; omega) (fun h124 => ?_)
            refine k_nil ?_
            refine hB _ _ _ _ (kgoC (is := KX2_reachTry_74) rfl ?_)
            refine k_iconst (m := 1) rfl (fun x125 h126 => ?_)
            refine k_goto ?_
            refine hB _ _ _ _ (kgoC (is := KX2_reachTry_79) rfl ?_)
            refine k_ireturn (fun _ => b01C (by omega) (by omega)) ?_
            have X127 : ExC [217, 218, 282, 283, 284] σ0 σ63 := ExC.rf.tr (e67.mo (by decide))
            exact ⟨_, rfl, H66, X127, (by omega), (by omega)⟩
          · subst h122
            have t128 := t119 b121 rfl
            have f129 := (f120 b121 rfl).2
            have r131 := q_0.x h_1_0 e67
            have r130 := r131.ch f129.2
            have c132 := (h_1_0.mi e67 (by decide)).trans c3
            have k133 := (f129.2.1 (by rw [c132]; omega)).1
            refine k_nil ?_
            refine hB _ _ _ _ (kgoC (is := KX2_reachTry_55) rfl ?_)
            refine k_iload_n rfl ?_
            refine k_aload_n rfl ?_
            refine k_aload_n rfl ?_
            refine k_get kg277 t115 (congrArg (fun z : Option Nat => (Sum.inr (Sum.inr z) : AvC)) c117) ?_
            have t134 := h_0_0.x e67
            refine k_inv (P := (P_X2_reachRow d)) (Q := Q_X2_reachRow) rfl rfl rfl rfl (Nat.le_of_ble_eq_true rfl) (t134.rc (by decide)) ⟨_, _, rfl, H66, t134, t128, r130, (by rw [k133]; decide)⟩ (fun w135 σ136 q137 => ?_)
            obtain ⟨x138, rfl, H139, e140, h141, h142⟩ := q137
            refine k_st (st' := [.inl x138, .inl x113]) rfl ?_
            refine k_ior_b (b01C (by omega) (by omega)) (b01C (by omega) (by omega)) (fun x143 h144 h145 => ?_)
            refine k_istore_n (ls' := [(3, .inl x143), (2, .inl x14), (0, .inr (.inr (some p0))), (1, .inr (.inr (some p1)))]) rfl ?_
            refine k_nil ?_
            refine hB _ _ _ _ (kgoC (is := KX2_reachTry_66) rfl ?_)
            refine k_iload_n rfl ?_
            refine k_if_eq (fun h146 => ?_) (fun h146 => ?_)
            · refine hB _ _ _ _ (kgoC (is := KX2_reachTry_78) rfl ?_)
              refine k_iconst (m := 0) rfl (fun x147 h148 => ?_)
              refine k_nil ?_
              refine hB _ _ _ _ (kgoC (is := KX2_reachTry_79) rfl ?_)
              refine k_ireturn (fun _ => b01C (by omega) (by omega)) ?_
              have X149 : ExC [217, 218, 282, 283, 284] σ0 σ63 := ExC.rf.tr (e67.mo (by decide))
              have X150 : ExC [217, 218, 282, 283, 284] σ0 σ136 := X149.tr (e140.mo (by decide))
              exact ⟨_, rfl, H139, X150, (by omega), (by omega)⟩
            · refine k_nil ?_
              refine hB _ _ _ _ (kgoC (is := KX2_reachTry_70) rfl ?_)
              refine k_iload_n rfl ?_
              refine k_if_eq (fun h151 => by exfalso; omega) (fun h151 => ?_)
              refine k_nil ?_
              refine hB _ _ _ _ (kgoC (is := KX2_reachTry_74) rfl ?_)
              refine k_iconst (m := 1) rfl (fun x152 h153 => ?_)
              refine k_goto ?_
              refine hB _ _ _ _ (kgoC (is := KX2_reachTry_79) rfl ?_)
              refine k_ireturn (fun _ => b01C (by omega) (by omega)) ?_
              have X154 : ExC [217, 218, 282, 283, 284] σ0 σ63 := ExC.rf.tr (e67.mo (by decide))
              have X155 : ExC [217, 218, 282, 283, 284] σ0 σ136 := X154.tr (e140.mo (by decide))
              exact ⟨_, rfl, H139, X155, (by omega), (by omega)⟩
    · subst h13
      have t156 := t10 b12 rfl
      have f157 := (f11 b12 rfl).2
      have r158 := q_0.ch f157.2
      have k159 := (f157.2.1 (by rw [c3]; omega)).1
      refine k_nil ?_
      refine hB _ _ _ _ (kgoC (is := KX2_reachTry_7) rfl ?_)
      refine k_aload_n rfl ?_
      refine k_aload_n rfl ?_
      refine k_get kg278 h_1_0 (congrArg (fun z : Option Nat => (Sum.inr (Sum.inr z) : AvC)) c8) ?_
      refine k_inv (P := (P_X2_reachRow d)) (Q := Q_X2_reachRow) rfl rfl rfl rfl (Nat.le_of_ble_eq_true rfl) (h_0_0.rc (by decide)) ⟨_, _, rfl, H0, h_0_0, t156, r158, (by rw [k159]; decide)⟩ (fun w160 σ161 q162 => ?_)
      obtain ⟨x163, rfl, H164, e165, h166, h167⟩ := q162
      refine k_st (st' := [.inl x163]) rfl ?_
      refine k_if_eq (fun h168 => ?_) (fun h168 => ?_)
      · refine hB _ _ _ _ (kgoC (is := KX2_reachTry_22) rfl ?_)
        refine k_iconst (m := 0) rfl (fun x169 h170 => ?_)
        refine k_nil ?_
        refine hB _ _ _ _ (kgoC (is := KX2_reachTry_23) rfl ?_)
        refine k_istore_n (ls' := [(2, .inl x169), (0, .inr (.inr (some p0))), (1, .inr (.inr (some p1)))]) rfl ?_
        refine k_aload_n rfl ?_
        have t171 := h_1_0.x e165
        obtain ⟨o174, e172, c173, t175, f176⟩ := cg276 H164.1 t171
        refine k_get kg276 t171 e172 ?_
        refine k_ifnull (fun h178 => ?_) (fun b177 h178 => ?_)
        · subst h178
          refine hB _ _ _ _ (kgoC (is := KX2_reachTry_46) rfl ?_)
          refine k_iconst (m := 0) rfl (fun x179 h180 => ?_)
          refine k_nil ?_
          refine hB _ _ _ _ (kgoC (is := KX2_reachTry_47) rfl ?_)
          refine k_istore_n (ls' := [(3, .inl x179), (2, .inl x169), (0, .inr (.inr (some p0))), (1, .inr (.inr (some p1)))]) rfl ?_
          refine k_aload_n rfl ?_
          obtain ⟨o183, e181, c182, t184, f185⟩ := cg277 H164.1 t171
          refine k_get kg277 t171 e181 ?_
          refine k_ifnull (fun h187 => ?_) (fun b186 h187 => ?_)
          · subst h187
            refine hB _ _ _ _ (kgoC (is := KX2_reachTry_66) rfl ?_)
            refine k_iload_n rfl ?_
            refine k_if_eq (fun h188 => ?_) (fun h188 => by exfalso; omega)
            refine hB _ _ _ _ (kgoC (is := KX2_reachTry_78) rfl ?_)
            refine k_iconst (m := 0) rfl (fun x189 h190 => ?_)
            refine k_nil ?_
            refine hB _ _ _ _ (kgoC (is := KX2_reachTry_79) rfl ?_)
            refine k_ireturn (fun _ => b01C (by omega) (by omega)) ?_
            have X191 : ExC [217, 218, 282, 283, 284] σ0 σ161 := ExC.rf.tr (e165.mo (by decide))
            exact ⟨_, rfl, H164, X191, (by omega), (by omega)⟩
          · subst h187
            have t192 := t184 b186 rfl
            have f193 := (f185 b186 rfl).2
            have r195 := q_0.x h_1_0 e165
            have r194 := r195.ch f193.2
            have c196 := (h_1_0.mi e165 (by decide)).trans c3
            have k197 := (f193.2.1 (by rw [c196]; omega)).1
            refine k_nil ?_
            refine hB _ _ _ _ (kgoC (is := KX2_reachTry_55) rfl ?_)
            refine k_iload_n rfl ?_
            refine k_aload_n rfl ?_
            refine k_aload_n rfl ?_
            refine k_get kg277 t171 (congrArg (fun z : Option Nat => (Sum.inr (Sum.inr z) : AvC)) c182) ?_
            have t198 := h_0_0.x e165
            refine k_inv (P := (P_X2_reachRow d)) (Q := Q_X2_reachRow) rfl rfl rfl rfl (Nat.le_of_ble_eq_true rfl) (t198.rc (by decide)) ⟨_, _, rfl, H164, t198, t192, r194, (by rw [k197]; decide)⟩ (fun w199 σ200 q201 => ?_)
            obtain ⟨x202, rfl, H203, e204, h205, h206⟩ := q201
            refine k_st (st' := [.inl x202, .inl x179]) rfl ?_
            refine k_ior_b (b01C (by omega) (by omega)) (b01C (by omega) (by omega)) (fun x207 h208 h209 => ?_)
            refine k_istore_n (ls' := [(3, .inl x207), (2, .inl x169), (0, .inr (.inr (some p0))), (1, .inr (.inr (some p1)))]) rfl ?_
            refine k_nil ?_
            refine hB _ _ _ _ (kgoC (is := KX2_reachTry_66) rfl ?_)
            refine k_iload_n rfl ?_
            refine k_if_eq (fun h210 => ?_) (fun h210 => ?_)
            · refine hB _ _ _ _ (kgoC (is := KX2_reachTry_78) rfl ?_)
              refine k_iconst (m := 0) rfl (fun x211 h212 => ?_)
              refine k_nil ?_
              refine hB _ _ _ _ (kgoC (is := KX2_reachTry_79) rfl ?_)
              refine k_ireturn (fun _ => b01C (by omega) (by omega)) ?_
              have X213 : ExC [217, 218, 282, 283, 284] σ0 σ161 := ExC.rf.tr (e165.mo (by decide))
              have X214 : ExC [217, 218, 282, 283, 284] σ0 σ200 := X213.tr (e204.mo (by decide))
              exact ⟨_, rfl, H203, X214, (by omega), (by omega)⟩
            · refine k_nil ?_
              refine hB _ _ _ _ (kgoC (is := KX2_reachTry_70) rfl ?_)
              refine k_iload_n rfl ?_
              refine k_if_eq (fun h215 => ?_) (fun h215 => by exfalso; omega)
              refine hB _ _ _ _ (kgoC (is := KX2_reachTry_78) rfl ?_)
              refine k_iconst (m := 0) rfl (fun x216 h217 => ?_)
              refine k_nil ?_
              refine hB _ _ _ _ (kgoC (is := KX2_reachTry_79) rfl ?_)
              refine k_ireturn (fun _ => b01C (by omega) (by omega)) ?_
              have X218 : ExC [217, 218, 282, 283, 284] σ0 σ161 := ExC.rf.tr (e165.mo (by decide))
              have X219 : ExC [217, 218, 282, 283, 284] σ0 σ200 := X218.tr (e204.mo (by decide))
              exact ⟨_, rfl, H203, X219, (by omega), (by omega)⟩
        · subst h178
          have t220 := t175 b177 rfl
          have f221 := (f176 b177 rfl).2
          have r223 := q_0.x h_1_0 e165
          have r222 := r223.ch f221.2
          have c224 := (h_1_0.mi e165 (by decide)).trans c3
          have k225 := (f221.2.1 (by rw [c224]; omega)).1
          refine k_nil ?_
          refine hB _ _ _ _ (kgoC (is := KX2_reachTry_31) rfl ?_)
          refine k_aload_n rfl ?_
          refine k_aload_n rfl ?_
          refine k_get kg276 t171 (congrArg (fun z : Option Nat => (Sum.inr (Sum.inr z) : AvC)) c173) ?_
          have t226 := h_0_0.x e165
          refine k_inv (P := (P_X2_reachRow d)) (Q := Q_X2_reachRow) rfl rfl rfl rfl (Nat.le_of_ble_eq_true rfl) (t226.rc (by decide)) ⟨_, _, rfl, H164, t226, t220, r222, (by rw [k225]; decide)⟩ (fun w227 σ228 q229 => ?_)
          obtain ⟨x230, rfl, H231, e232, h233, h234⟩ := q229
          refine k_st (st' := [.inl x230]) rfl ?_
          refine k_if_eq (fun h235 => ?_) (fun h235 => ?_)
          · refine hB _ _ _ _ (kgoC (is := KX2_reachTry_46) rfl ?_)
            refine k_iconst (m := 0) rfl (fun x236 h237 => ?_)
            refine k_nil ?_
            refine hB _ _ _ _ (kgoC (is := KX2_reachTry_47) rfl ?_)
            refine k_istore_n (ls' := [(3, .inl x236), (2, .inl x169), (0, .inr (.inr (some p0))), (1, .inr (.inr (some p1)))]) rfl ?_
            refine k_aload_n rfl ?_
            have t238 := t171.x e232
            obtain ⟨o241, e239, c240, t242, f243⟩ := cg277 H231.1 t238
            refine k_get kg277 t238 e239 ?_
            refine k_ifnull (fun h245 => ?_) (fun b244 h245 => ?_)
            · subst h245
              refine hB _ _ _ _ (kgoC (is := KX2_reachTry_66) rfl ?_)
              refine k_iload_n rfl ?_
              refine k_if_eq (fun h246 => ?_) (fun h246 => by exfalso; omega)
              refine hB _ _ _ _ (kgoC (is := KX2_reachTry_78) rfl ?_)
              refine k_iconst (m := 0) rfl (fun x247 h248 => ?_)
              refine k_nil ?_
              refine hB _ _ _ _ (kgoC (is := KX2_reachTry_79) rfl ?_)
              refine k_ireturn (fun _ => b01C (by omega) (by omega)) ?_
              have X249 : ExC [217, 218, 282, 283, 284] σ0 σ161 := ExC.rf.tr (e165.mo (by decide))
              have X250 : ExC [217, 218, 282, 283, 284] σ0 σ228 := X249.tr (e232.mo (by decide))
              exact ⟨_, rfl, H231, X250, (by omega), (by omega)⟩
            · subst h245
              have t251 := t242 b244 rfl
              have f252 := (f243 b244 rfl).2
              have r254 := r223.x t171 e232
              have r253 := r254.ch f252.2
              have c255 := (t171.mi e232 (by decide)).trans c224
              have k256 := (f252.2.1 (by rw [c255]; omega)).1
              refine k_nil ?_
              refine hB _ _ _ _ (kgoC (is := KX2_reachTry_55) rfl ?_)
              refine k_iload_n rfl ?_
              refine k_aload_n rfl ?_
              refine k_aload_n rfl ?_
              refine k_get kg277 t238 (congrArg (fun z : Option Nat => (Sum.inr (Sum.inr z) : AvC)) c240) ?_
              have t257 := t226.x e232
              refine k_inv (P := (P_X2_reachRow d)) (Q := Q_X2_reachRow) rfl rfl rfl rfl (Nat.le_of_ble_eq_true rfl) (t257.rc (by decide)) ⟨_, _, rfl, H231, t257, t251, r253, (by rw [k256]; decide)⟩ (fun w258 σ259 q260 => ?_)
              obtain ⟨x261, rfl, H262, e263, h264, h265⟩ := q260
              refine k_st (st' := [.inl x261, .inl x236]) rfl ?_
              refine k_ior_b (b01C (by omega) (by omega)) (b01C (by omega) (by omega)) (fun x266 h267 h268 => ?_)
              refine k_istore_n (ls' := [(3, .inl x266), (2, .inl x169), (0, .inr (.inr (some p0))), (1, .inr (.inr (some p1)))]) rfl ?_
              refine k_nil ?_
              refine hB _ _ _ _ (kgoC (is := KX2_reachTry_66) rfl ?_)
              refine k_iload_n rfl ?_
              refine k_if_eq (fun h269 => ?_) (fun h269 => ?_)
              · refine hB _ _ _ _ (kgoC (is := KX2_reachTry_78) rfl ?_)
                refine k_iconst (m := 0) rfl (fun x270 h271 => ?_)
                refine k_nil ?_
                refine hB _ _ _ _ (kgoC (is := KX2_reachTry_79) rfl ?_)
                refine k_ireturn (fun _ => b01C (by omega) (by omega)) ?_
                have X272 : ExC [217, 218, 282, 283, 284] σ0 σ161 := ExC.rf.tr (e165.mo (by decide))
                have X273 : ExC [217, 218, 282, 283, 284] σ0 σ228 := X272.tr (e232.mo (by decide))
                have X274 : ExC [217, 218, 282, 283, 284] σ0 σ259 := X273.tr (e263.mo (by decide))
                exact ⟨_, rfl, H262, X274, (by omega), (by omega)⟩
              · refine k_nil ?_
                refine hB _ _ _ _ (kgoC (is := KX2_reachTry_70) rfl ?_)
                refine k_iload_n rfl ?_
                refine k_if_eq (fun h275 => ?_) (fun h275 => by exfalso; omega)
                refine hB _ _ _ _ (kgoC (is := KX2_reachTry_78) rfl ?_)
                refine k_iconst (m := 0) rfl (fun x276 h277 => ?_)
                refine k_nil ?_
                refine hB _ _ _ _ (kgoC (is := KX2_reachTry_79) rfl ?_)
                refine k_ireturn (fun _ => b01C (by omega) (by omega)) ?_
                have X278 : ExC [217, 218, 282, 283, 284] σ0 σ161 := ExC.rf.tr (e165.mo (by decide))
                have X279 : ExC [217, 218, 282, 283, 284] σ0 σ228 := X278.tr (e232.mo (by decide))
                have X280 : ExC [217, 218, 282, 283, 284] σ0 σ259 := X279.tr (e263.mo (by decide))
                exact ⟨_, rfl, H262, X280, (by omega), (by omega)⟩
          · refine k_nil ?_
            refine hB _ _ _ _ (kgoC (is := KX2_reachTry_42) rfl ?_)
            refine k_iconst (m := 1) rfl (fun x281 h282 => ?_)
            refine k_goto ?_
            refine hB _ _ _ _ (kgoC (is := KX2_reachTry_47) rfl ?_)
            refine k_istore_n (ls' := [(3, .inl x281), (2, .inl x169), (0, .inr (.inr (some p0))), (1, .inr (.inr (some p1)))]) rfl ?_
            refine k_aload_n rfl ?_
            have t283 := t171.x e232
            obtain ⟨o286, e284, c285, t287, f288⟩ := cg277 H231.1 t283
            refine k_get kg277 t283 e284 ?_
            refine k_ifnull (fun h290 => ?_) (fun b289 h290 => ?_)
            · subst h290
              refine hB _ _ _ _ (kgoC (is := KX2_reachTry_66) rfl ?_)
              refine k_iload_n rfl ?_
              refine k_if_eq (fun h291 => by exfalso; omega) (fun h291 => ?_)
              refine k_nil ?_
              refine hB _ _ _ _ (kgoC (is := KX2_reachTry_70) rfl ?_)
              refine k_iload_n rfl ?_
              refine k_if_eq (fun h292 => ?_) (fun h292 => by exfalso; omega)
              refine hB _ _ _ _ (kgoC (is := KX2_reachTry_78) rfl ?_)
              refine k_iconst (m := 0) rfl (fun x293 h294 => ?_)
              refine k_nil ?_
              refine hB _ _ _ _ (kgoC (is := KX2_reachTry_79) rfl ?_)
              refine k_ireturn (fun _ => b01C (by omega) (by omega)) ?_
              have X295 : ExC [217, 218, 282, 283, 284] σ0 σ161 := ExC.rf.tr (e165.mo (by decide))
              have X296 : ExC [217, 218, 282, 283, 284] σ0 σ228 := X295.tr (e232.mo (by decide))
              exact ⟨_, rfl, H231, X296, (by omega), (by omega)⟩
            · subst h290
              have t297 := t287 b289 rfl
              have f298 := (f288 b289 rfl).2
              have r300 := r223.x t171 e232
              have r299 := r300.ch f298.2
              have c301 := (t171.mi e232 (by decide)).trans c224
              have k302 := (f298.2.1 (by rw [c301]; omega)).1
              refine k_nil ?_
              refine hB _ _ _ _ (kgoC (is := KX2_reachTry_55) rfl ?_)
              refine k_iload_n rfl ?_
              refine k_aload_n rfl ?_
              refine k_aload_n rfl ?_
              refine k_get kg277 t283 (congrArg (fun z : Option Nat => (Sum.inr (Sum.inr z) : AvC)) c285) ?_
              have t303 := t226.x e232
              refine k_inv (P := (P_X2_reachRow d)) (Q := Q_X2_reachRow) rfl rfl rfl rfl (Nat.le_of_ble_eq_true rfl) (t303.rc (by decide)) ⟨_, _, rfl, H231, t303, t297, r299, (by rw [k302]; decide)⟩ (fun w304 σ305 q306 => ?_)
              obtain ⟨x307, rfl, H308, e309, h310, h311⟩ := q306
              refine k_st (st' := [.inl x307, .inl x281]) rfl ?_
              refine k_ior_b (b01C (by omega) (by omega)) (b01C (by omega) (by omega)) (fun x312 h313 h314 => ?_)
              refine k_istore_n (ls' := [(3, .inl x312), (2, .inl x169), (0, .inr (.inr (some p0))), (1, .inr (.inr (some p1)))]) rfl ?_
              refine k_nil ?_
              refine hB _ _ _ _ (kgoC (is := KX2_reachTry_66) rfl ?_)
              refine k_iload_n rfl ?_
              refine k_if_eq (fun h315 => ?_) (fun h315 => ?_)
              · refine hB _ _ _ _ (kgoC (is := KX2_reachTry_78) rfl ?_)
                refine k_iconst (m := 0) rfl (fun x316 h317 => ?_)
                refine k_nil ?_
                refine hB _ _ _ _ (kgoC (is := KX2_reachTry_79) rfl ?_)
                refine k_ireturn (fun _ => b01C (by omega) (by omega)) ?_
                have X318 : ExC [217, 218, 282, 283, 284] σ0 σ161 := ExC.rf.tr (e165.mo (by decide))
                have X319 : ExC [217, 218, 282, 283, 284] σ0 σ228 := X318.tr (e232.mo (by decide))
                have X320 : ExC [217, 218, 282, 283, 284] σ0 σ305 := X319.tr (e309.mo (by decide))
                exact ⟨_, rfl, H308, X320, (by omega), (by omega)⟩
              · refine k_nil ?_
                refine hB _ _ _ _ (kgoC (is := KX2_reachTry_70) rfl ?_)
                refine k_iload_n rfl ?_
                refine k_if_eq (fun h321 => ?_) (fun h321 => by exfalso; omega)
                refine hB _ _ _ _ (kgoC (is := KX2_reachTry_78) rfl ?_)
                refine k_iconst (m := 0) rfl (fun x322 h323 => ?_)
                refine k_nil ?_
                refine hB _ _ _ _ (kgoC (is := KX2_reachTry_79) rfl ?_)
                refine k_ireturn (fun _ => b01C (by omega) (by omega)) ?_
                have X324 : ExC [217, 218, 282, 283, 284] σ0 σ161 := ExC.rf.tr (e165.mo (by decide))
                have X325 : ExC [217, 218, 282, 283, 284] σ0 σ228 := X324.tr (e232.mo (by decide))
                have X326 : ExC [217, 218, 282, 283, 284] σ0 σ305 := X325.tr (e309.mo (by decide))
                exact ⟨_, rfl, H308, X326, (by omega), (by omega)⟩
      · refine k_nil ?_
        refine hB _ _ _ _ (kgoC (is := KX2_reachTry_18) rfl ?_)
        refine k_iconst (m := 1) rfl (fun x327 h328 => ?_)
        refine k_goto ?_
        refine hB _ _ _ _ (kgoC (is := KX2_reachTry_23) rfl ?_)
        refine k_istore_n (ls' := [(2, .inl x327), (0, .inr (.inr (some p0))), (1, .inr (.inr (some p1)))]) rfl ?_
        refine k_aload_n rfl ?_
        have t329 := h_1_0.x e165
        obtain ⟨o332, e330, c331, t333, f334⟩ := cg276 H164.1 t329
        refine k_get kg276 t329 e330 ?_
        refine k_ifnull (fun h336 => ?_) (fun b335 h336 => ?_)
        · subst h336
          refine hB _ _ _ _ (kgoC (is := KX2_reachTry_46) rfl ?_)
          refine k_iconst (m := 0) rfl (fun x337 h338 => ?_)
          refine k_nil ?_
          refine hB _ _ _ _ (kgoC (is := KX2_reachTry_47) rfl ?_)
          refine k_istore_n (ls' := [(3, .inl x337), (2, .inl x327), (0, .inr (.inr (some p0))), (1, .inr (.inr (some p1)))]) rfl ?_
          refine k_aload_n rfl ?_
          obtain ⟨o341, e339, c340, t342, f343⟩ := cg277 H164.1 t329
          refine k_get kg277 t329 e339 ?_
          refine k_ifnull (fun h345 => ?_) (fun b344 h345 => ?_)
          · subst h345
            refine hB _ _ _ _ (kgoC (is := KX2_reachTry_66) rfl ?_)
            refine k_iload_n rfl ?_
            refine k_if_eq (fun h346 => ?_) (fun h346 => by exfalso; omega)
            refine hB _ _ _ _ (kgoC (is := KX2_reachTry_78) rfl ?_)
            refine k_iconst (m := 0) rfl (fun x347 h348 => ?_)
            refine k_nil ?_
            refine hB _ _ _ _ (kgoC (is := KX2_reachTry_79) rfl ?_)
            refine k_ireturn (fun _ => b01C (by omega) (by omega)) ?_
            have X349 : ExC [217, 218, 282, 283, 284] σ0 σ161 := ExC.rf.tr (e165.mo (by decide))
            exact ⟨_, rfl, H164, X349, (by omega), (by omega)⟩
          · subst h345
            have t350 := t342 b344 rfl
            have f351 := (f343 b344 rfl).2
            have r353 := q_0.x h_1_0 e165
            have r352 := r353.ch f351.2
            have c354 := (h_1_0.mi e165 (by decide)).trans c3
            have k355 := (f351.2.1 (by rw [c354]; omega)).1
            refine k_nil ?_
            refine hB _ _ _ _ (kgoC (is := KX2_reachTry_55) rfl ?_)
            refine k_iload_n rfl ?_
            refine k_aload_n rfl ?_
            refine k_aload_n rfl ?_
            refine k_get kg277 t329 (congrArg (fun z : Option Nat => (Sum.inr (Sum.inr z) : AvC)) c340) ?_
            have t356 := h_0_0.x e165
            refine k_inv (P := (P_X2_reachRow d)) (Q := Q_X2_reachRow) rfl rfl rfl rfl (Nat.le_of_ble_eq_true rfl) (t356.rc (by decide)) ⟨_, _, rfl, H164, t356, t350, r352, (by rw [k355]; decide)⟩ (fun w357 σ358 q359 => ?_)
            obtain ⟨x360, rfl, H361, e362, h363, h364⟩ := q359
            refine k_st (st' := [.inl x360, .inl x337]) rfl ?_
            refine k_ior_b (b01C (by omega) (by omega)) (b01C (by omega) (by omega)) (fun x365 h366 h367 => ?_)
            refine k_istore_n (ls' := [(3, .inl x365), (2, .inl x327), (0, .inr (.inr (some p0))), (1, .inr (.inr (some p1)))]) rfl ?_
            refine k_nil ?_
            refine hB _ _ _ _ (kgoC (is := KX2_reachTry_66) rfl ?_)
            refine k_iload_n rfl ?_
            refine k_if_eq (fun h368 => ?_) (fun h368 => ?_)
            · refine hB _ _ _ _ (kgoC (is := KX2_reachTry_78) rfl ?_)
              refine k_iconst (m := 0) rfl (fun x369 h370 => ?_)
              refine k_nil ?_
              refine hB _ _ _ _ (kgoC (is := KX2_reachTry_79) rfl ?_)
              refine k_ireturn (fun _ => b01C (by omega) (by omega)) ?_
              have X371 : ExC [217, 218, 282, 283, 284] σ0 σ161 := ExC.rf.tr (e165.mo (by decide))
              have X372 : ExC [217, 218, 282, 283, 284] σ0 σ358 := X371.tr (e362.mo (by decide))
              exact ⟨_, rfl, H361, X372, (by omega), (by omega)⟩
            · refine k_nil ?_
              refine hB _ _ _ _ (kgoC (is := KX2_reachTry_70) rfl ?_)
              refine k_iload_n rfl ?_
              refine k_if_eq (fun h373 => by exfalso; omega) (fun h373 => ?_)
              refine k_nil ?_
              refine hB _ _ _ _ (kgoC (is := KX2_reachTry_74) rfl ?_)
              refine k_iconst (m := 1) rfl (fun x374 h375 => ?_)
              refine k_goto ?_
              refine hB _ _ _ _ (kgoC (is := KX2_reachTry_79) rfl ?_)
              refine k_ireturn (fun _ => b01C (by omega) (by omega)) ?_
              have X376 : ExC [217, 218, 282, 283, 284] σ0 σ161 := ExC.rf.tr (e165.mo (by decide))
              have X377 : ExC [217, 218, 282, 283, 284] σ0 σ358 := X376.tr (e362.mo (by decide))
              exact ⟨_, rfl, H361, X377, (by omega), (by omega)⟩
        · subst h336
          have t378 := t333 b335 rfl
          have f379 := (f334 b335 rfl).2
          have r381 := q_0.x h_1_0 e165
          have r380 := r381.ch f379.2
          have c382 := (h_1_0.mi e165 (by decide)).trans c3
          have k383 := (f379.2.1 (by rw [c382]; omega)).1
          refine k_nil ?_
          refine hB _ _ _ _ (kgoC (is := KX2_reachTry_31) rfl ?_)
          refine k_aload_n rfl ?_
          refine k_aload_n rfl ?_
          refine k_get kg276 t329 (congrArg (fun z : Option Nat => (Sum.inr (Sum.inr z) : AvC)) c331) ?_
          have t384 := h_0_0.x e165
          refine k_inv (P := (P_X2_reachRow d)) (Q := Q_X2_reachRow) rfl rfl rfl rfl (Nat.le_of_ble_eq_true rfl) (t384.rc (by decide)) ⟨_, _, rfl, H164, t384, t378, r380, (by rw [k383]; decide)⟩ (fun w385 σ386 q387 => ?_)
          obtain ⟨x388, rfl, H389, e390, h391, h392⟩ := q387
          refine k_st (st' := [.inl x388]) rfl ?_
          refine k_if_eq (fun h393 => ?_) (fun h393 => ?_)
          · refine hB _ _ _ _ (kgoC (is := KX2_reachTry_46) rfl ?_)
            refine k_iconst (m := 0) rfl (fun x394 h395 => ?_)
            refine k_nil ?_
            refine hB _ _ _ _ (kgoC (is := KX2_reachTry_47) rfl ?_)
            refine k_istore_n (ls' := [(3, .inl x394), (2, .inl x327), (0, .inr (.inr (some p0))), (1, .inr (.inr (some p1)))]) rfl ?_
            refine k_aload_n rfl ?_
            have t396 := t329.x e390
            obtain ⟨o399, e397, c398, t400, f401⟩ := cg277 H389.1 t396
            refine k_get kg277 t396 e397 ?_
            refine k_ifnull (fun h403 => ?_) (fun b402 h403 => ?_)
            · subst h403
              refine hB _ _ _ _ (kgoC (is := KX2_reachTry_66) rfl ?_)
              refine k_iload_n rfl ?_
              refine k_if_eq (fun h404 => ?_) (fun h404 => by exfalso; omega)
              refine hB _ _ _ _ (kgoC (is := KX2_reachTry_78) rfl ?_)
              refine k_iconst (m := 0) rfl (fun x405 h406 => ?_)
              refine k_nil ?_
              refine hB _ _ _ _ (kgoC (is := KX2_reachTry_79) rfl ?_)
              refine k_ireturn (fun _ => b01C (by omega) (by omega)) ?_
              have X407 : ExC [217, 218, 282, 283, 284] σ0 σ161 := ExC.rf.tr (e165.mo (by decide))
              have X408 : ExC [217, 218, 282, 283, 284] σ0 σ386 := X407.tr (e390.mo (by decide))
              exact ⟨_, rfl, H389, X408, (by omega), (by omega)⟩
            · subst h403
              have t409 := t400 b402 rfl
              have f410 := (f401 b402 rfl).2
              have r412 := r381.x t329 e390
              have r411 := r412.ch f410.2
              have c413 := (t329.mi e390 (by decide)).trans c382
              have k414 := (f410.2.1 (by rw [c413]; omega)).1
              refine k_nil ?_
              refine hB _ _ _ _ (kgoC (is := KX2_reachTry_55) rfl ?_)
              refine k_iload_n rfl ?_
              refine k_aload_n rfl ?_
              refine k_aload_n rfl ?_
              refine k_get kg277 t396 (congrArg (fun z : Option Nat => (Sum.inr (Sum.inr z) : AvC)) c398) ?_
              have t415 := t384.x e390
              refine k_inv (P := (P_X2_reachRow d)) (Q := Q_X2_reachRow) rfl rfl rfl rfl (Nat.le_of_ble_eq_true rfl) (t415.rc (by decide)) ⟨_, _, rfl, H389, t415, t409, r411, (by rw [k414]; decide)⟩ (fun w416 σ417 q418 => ?_)
              obtain ⟨x419, rfl, H420, e421, h422, h423⟩ := q418
              refine k_st (st' := [.inl x419, .inl x394]) rfl ?_
              refine k_ior_b (b01C (by omega) (by omega)) (b01C (by omega) (by omega)) (fun x424 h425 h426 => ?_)
              refine k_istore_n (ls' := [(3, .inl x424), (2, .inl x327), (0, .inr (.inr (some p0))), (1, .inr (.inr (some p1)))]) rfl ?_
              refine k_nil ?_
              refine hB _ _ _ _ (kgoC (is := KX2_reachTry_66) rfl ?_)
              refine k_iload_n rfl ?_
              refine k_if_eq (fun h427 => ?_) (fun h427 => ?_)
              · refine hB _ _ _ _ (kgoC (is := KX2_reachTry_78) rfl ?_)
                refine k_iconst (m := 0) rfl (fun x428 h429 => ?_)
                refine k_nil ?_
                refine hB _ _ _ _ (kgoC (is := KX2_reachTry_79) rfl ?_)
                refine k_ireturn (fun _ => b01C (by omega) (by omega)) ?_
                have X430 : ExC [217, 218, 282, 283, 284] σ0 σ161 := ExC.rf.tr (e165.mo (by decide))
                have X431 : ExC [217, 218, 282, 283, 284] σ0 σ386 := X430.tr (e390.mo (by decide))
                have X432 : ExC [217, 218, 282, 283, 284] σ0 σ417 := X431.tr (e421.mo (by decide))
                exact ⟨_, rfl, H420, X432, (by omega), (by omega)⟩
              · refine k_nil ?_
                refine hB _ _ _ _ (kgoC (is := KX2_reachTry_70) rfl ?_)
                refine k_iload_n rfl ?_
                refine k_if_eq (fun h433 => by exfalso; omega) (fun h433 => ?_)
                refine k_nil ?_
                refine hB _ _ _ _ (kgoC (is := KX2_reachTry_74) rfl ?_)
                refine k_iconst (m := 1) rfl (fun x434 h435 => ?_)
                refine k_goto ?_
                refine hB _ _ _ _ (kgoC (is := KX2_reachTry_79) rfl ?_)
                refine k_ireturn (fun _ => b01C (by omega) (by omega)) ?_
                have X436 : ExC [217, 218, 282, 283, 284] σ0 σ161 := ExC.rf.tr (e165.mo (by decide))
                have X437 : ExC [217, 218, 282, 283, 284] σ0 σ386 := X436.tr (e390.mo (by decide))
                have X438 : ExC [217, 218, 282, 283, 284] σ0 σ417 := X437.tr (e421.mo (by decide))
                exact ⟨_, rfl, H420, X438, (by omega), (by omega)⟩
          · refine k_nil ?_
            refine hB _ _ _ _ (kgoC (is := KX2_reachTry_42) rfl ?_)
            refine k_iconst (m := 1) rfl (fun x439 h440 => ?_)
            refine k_goto ?_
            refine hB _ _ _ _ (kgoC (is := KX2_reachTry_47) rfl ?_)
            refine k_istore_n (ls' := [(3, .inl x439), (2, .inl x327), (0, .inr (.inr (some p0))), (1, .inr (.inr (some p1)))]) rfl ?_
            refine k_aload_n rfl ?_
            have t441 := t329.x e390
            obtain ⟨o444, e442, c443, t445, f446⟩ := cg277 H389.1 t441
            refine k_get kg277 t441 e442 ?_
            refine k_ifnull (fun h448 => ?_) (fun b447 h448 => ?_)
            · subst h448
              refine hB _ _ _ _ (kgoC (is := KX2_reachTry_66) rfl ?_)
              refine k_iload_n rfl ?_
              refine k_if_eq (fun h449 => by exfalso; omega) (fun h449 => ?_)
              refine k_nil ?_
              refine hB _ _ _ _ (kgoC (is := KX2_reachTry_70) rfl ?_)
              refine k_iload_n rfl ?_
              refine k_if_eq (fun h450 => by exfalso; omega) (fun h450 => ?_)
              refine k_nil ?_
              refine hB _ _ _ _ (kgoC (is := KX2_reachTry_74) rfl ?_)
              refine k_iconst (m := 1) rfl (fun x451 h452 => ?_)
              refine k_goto ?_
              refine hB _ _ _ _ (kgoC (is := KX2_reachTry_79) rfl ?_)
              refine k_ireturn (fun _ => b01C (by omega) (by omega)) ?_
              have X453 : ExC [217, 218, 282, 283, 284] σ0 σ161 := ExC.rf.tr (e165.mo (by decide))
              have X454 : ExC [217, 218, 282, 283, 284] σ0 σ386 := X453.tr (e390.mo (by decide))
              exact ⟨_, rfl, H389, X454, (by omega), (by omega)⟩
            · subst h448
              have t455 := t445 b447 rfl
              have f456 := (f446 b447 rfl).2
              have r458 := r381.x t329 e390
              have r457 := r458.ch f456.2
              have c459 := (t329.mi e390 (by decide)).trans c382
              have k460 := (f456.2.1 (by rw [c459]; omega)).1
              refine k_nil ?_
              refine hB _ _ _ _ (kgoC (is := KX2_reachTry_55) rfl ?_)
              refine k_iload_n rfl ?_
              refine k_aload_n rfl ?_
              refine k_aload_n rfl ?_
              refine k_get kg277 t441 (congrArg (fun z : Option Nat => (Sum.inr (Sum.inr z) : AvC)) c443) ?_
              have t461 := t384.x e390
              refine k_inv (P := (P_X2_reachRow d)) (Q := Q_X2_reachRow) rfl rfl rfl rfl (Nat.le_of_ble_eq_true rfl) (t461.rc (by decide)) ⟨_, _, rfl, H389, t461, t455, r457, (by rw [k460]; decide)⟩ (fun w462 σ463 q464 => ?_)
              obtain ⟨x465, rfl, H466, e467, h468, h469⟩ := q464
              refine k_st (st' := [.inl x465, .inl x439]) rfl ?_
              refine k_ior_b (b01C (by omega) (by omega)) (b01C (by omega) (by omega)) (fun x470 h471 h472 => ?_)
              refine k_istore_n (ls' := [(3, .inl x470), (2, .inl x327), (0, .inr (.inr (some p0))), (1, .inr (.inr (some p1)))]) rfl ?_
              refine k_nil ?_
              refine hB _ _ _ _ (kgoC (is := KX2_reachTry_66) rfl ?_)
              refine k_iload_n rfl ?_
              refine k_if_eq (fun h473 => ?_) (fun h473 => ?_)
              · refine hB _ _ _ _ (kgoC (is := KX2_reachTry_78) rfl ?_)
                refine k_iconst (m := 0) rfl (fun x474 h475 => ?_)
                refine k_nil ?_
                refine hB _ _ _ _ (kgoC (is := KX2_reachTry_79) rfl ?_)
                refine k_ireturn (fun _ => b01C (by omega) (by omega)) ?_
                have X476 : ExC [217, 218, 282, 283, 284] σ0 σ161 := ExC.rf.tr (e165.mo (by decide))
                have X477 : ExC [217, 218, 282, 283, 284] σ0 σ386 := X476.tr (e390.mo (by decide))
                have X478 : ExC [217, 218, 282, 283, 284] σ0 σ463 := X477.tr (e467.mo (by decide))
                exact ⟨_, rfl, H466, X478, (by omega), (by omega)⟩
              · refine k_nil ?_
                refine hB _ _ _ _ (kgoC (is := KX2_reachTry_70) rfl ?_)
                refine k_iload_n rfl ?_
                refine k_if_eq (fun h479 => by exfalso; omega) (fun h479 => ?_)
                refine k_nil ?_
                refine hB _ _ _ _ (kgoC (is := KX2_reachTry_74) rfl ?_)
                refine k_iconst (m := 1) rfl (fun x480 h481 => ?_)
                refine k_goto ?_
                refine hB _ _ _ _ (kgoC (is := KX2_reachTry_79) rfl ?_)
                refine k_ireturn (fun _ => b01C (by omega) (by omega)) ?_
                have X482 : ExC [217, 218, 282, 283, 284] σ0 σ161 := ExC.rf.tr (e165.mo (by decide))
                have X483 : ExC [217, 218, 282, 283, 284] σ0 σ386 := X482.tr (e390.mo (by decide))
                have X484 : ExC [217, 218, 282, 283, 284] σ0 σ463 := X483.tr (e467.mo (by decide))
                exact ⟨_, rfl, H466, X484, (by omega), (by omega)⟩
theorem lg_X2_reachTry (d : Nat) : ∀ (As : List AvC) (σ : CsC), (P_X2_reachTry (d + 1)) As σ → lgC As ≤ rX2_reachTry.2.2.1 := by
  rintro As σ ⟨p0, p1, rfl, -⟩
  exact Nat.le_of_ble_eq_true rfl
theorem s_X2_reachTry (l : Launch) (d : Nat) (h_X2_reachRow : CMetC l (8 * d + 21) 21 (P_X2_reachRow d) Q_X2_reachRow) : CMetC l (8 * (d + 1) + 21) 26 (P_X2_reachTry (d + 1)) Q_X2_reachTry :=
  CMetC.of KX2_reachTry [(21, (P_X2_reachRow d), Q_X2_reachRow)] hX2_reachTry (by decide) (by omega) okX2_reachTry (cc1C h_X2_reachRow (by omega) cc0C) (lg_X2_reachTry d) (b_X2_reachTry d)

set_option maxRecDepth 100000 in
set_option maxHeartbeats 4000000 in
theorem b_X2_reachInside (d : Nat) : TbC KX2_reachInside [(21, (P_X2_reachRow (d + 1)), Q_X2_reachRow), (24, (P_X2_reachBody (d + 1)), Q_X2_reachBody), (22, (P_X2_reach d), Q_X2_reach), (183, P_X8_isAlways, Q_X8_isAlways), (25, (P_X2_reachSwitch (d + 1)), Q_X2_reachSwitch), (27, P_X2_markTarget, Q_X2_markTarget), (26, (P_X2_reachTry (d + 1)), Q_X2_reachTry)] (P_X2_reachInside (d + 1)) Q_X2_reachInside := by
  · rintro As σ0 ⟨p0, p1, rfl, H0, h_0_0, h_1_0, q_0⟩ hgr G hB hW
    change G 0 [(0, .inr (.inr (some p0))), (1, .inr (.inr (some p1)))] [] σ0
    refine hB _ _ _ _ (kgoC (is := KX2_reachInside_0) rfl ?_)
    refine k_aload_n rfl ?_
    obtain ⟨x3, e1, c2, h4, h5⟩ := cg270 H0.1 h_1_0
    refine k_get kg270 h_1_0 e1 ?_
    refine k_lsw ?_
    refine k_swc (fun h6 => ?_) (fun h6 => ?_)
    · refine hB _ _ _ _ (kgoC (is := KX2_reachInside_96) rfl ?_)
      refine k_aload_n rfl ?_
      refine k_aload_n rfl ?_
      refine k_inv (P := (P_X2_reachRow (d + 1))) (Q := Q_X2_reachRow) rfl rfl rfl rfl (Nat.le_of_ble_eq_true rfl) (h_0_0.rc (by decide)) ⟨_, _, rfl, H0, h_0_0, h_1_0, q_0, (by rw [c2]; omega)⟩ (fun w7 σ8 q9 => ?_)
      obtain ⟨x10, rfl, H11, e12, h13, h14⟩ := q9
      refine k_st (st' := [.inl x10]) rfl ?_
      refine k_ireturn (fun _ => b01C (by omega) (by omega)) ?_
      have X15 : ExC [217, 218, 282, 283, 284] σ0 σ8 := ExC.rf.tr (e12.mo (by decide))
      exact ⟨_, rfl, H11, X15, (by omega), (by omega)⟩
    refine k_swc (fun h16 => ?_) (fun h16 => ?_)
    · refine hB _ _ _ _ (kgoC (is := KX2_reachInside_102) rfl ?_)
      refine k_aload_n rfl ?_
      refine k_aload_n rfl ?_
      refine k_iconst (m := 1) rfl (fun x17 h18 => ?_)
      refine k_inv (P := (P_X2_reachBody (d + 1))) (Q := Q_X2_reachBody) rfl rfl rfl rfl (Nat.le_of_ble_eq_true rfl) (h_0_0.rc (by decide)) ⟨_, _, _, rfl, H0, h_0_0, h_1_0, (by omega), (by omega), q_0⟩ (fun w19 σ20 q21 => ?_)
      obtain ⟨x22, rfl, H23, e24, h25, h26⟩ := q21
      refine k_st (st' := [.inl x22]) rfl ?_
      refine k_if_ne (fun h27 => ?_) (fun h27 => ?_)
      · refine hB _ _ _ _ (kgoC (is := KX2_reachInside_118) rfl ?_)
        refine k_iconst (m := 1) rfl (fun x28 h29 => ?_)
        refine k_goto ?_
        refine hB _ _ _ _ (kgoC (is := KX2_reachInside_123) rfl ?_)
        refine k_ireturn (fun _ => b01C (by omega) (by omega)) ?_
        have X30 : ExC [217, 218, 282, 283, 284] σ0 σ20 := ExC.rf.tr (e24.mo (by decide))
        exact ⟨_, rfl, H23, X30, (by omega), (by omega)⟩
      · refine k_nil ?_
        refine hB _ _ _ _ (kgoC (is := KX2_reachInside_111) rfl ?_)
        refine k_aload_n rfl ?_
        have t31 := h_1_0.x e24
        obtain ⟨x34, e32, c33, h35, h36⟩ := cg283 H23.1 t31
        refine k_get kg283 t31 e32 ?_
        refine k_if_eq (fun h37 => ?_) (fun h37 => ?_)
        · refine hB _ _ _ _ (kgoC (is := KX2_reachInside_122) rfl ?_)
          refine k_iconst (m := 0) rfl (fun x38 h39 => ?_)
          refine k_nil ?_
          refine hB _ _ _ _ (kgoC (is := KX2_reachInside_123) rfl ?_)
          refine k_ireturn (fun _ => b01C (by omega) (by omega)) ?_
          have X40 : ExC [217, 218, 282, 283, 284] σ0 σ20 := ExC.rf.tr (e24.mo (by decide))
          exact ⟨_, rfl, H23, X40, (by omega), (by omega)⟩
        · refine k_nil ?_
          refine hB _ _ _ _ (kgoC (is := KX2_reachInside_118) rfl ?_)
          refine k_iconst (m := 1) rfl (fun x41 h42 => ?_)
          refine k_goto ?_
          refine hB _ _ _ _ (kgoC (is := KX2_reachInside_123) rfl ?_)
          refine k_ireturn (fun _ => b01C (by omega) (by omega)) ?_
          have X43 : ExC [217, 218, 282, 283, 284] σ0 σ20 := ExC.rf.tr (e24.mo (by decide))
          exact ⟨_, rfl, H23, X43, (by omega), (by omega)⟩
    refine k_swc (fun h44 => ?_) (fun h44 => ?_)
    · refine hB _ _ _ _ (kgoC (is := KX2_reachInside_124) rfl ?_)
      refine k_aload_n rfl ?_
      refine k_aload_n rfl ?_
      refine k_iconst (m := 1) rfl (fun x45 h46 => ?_)
      refine k_inv (P := (P_X2_reachBody (d + 1))) (Q := Q_X2_reachBody) rfl rfl rfl rfl (Nat.le_of_ble_eq_true rfl) (h_0_0.rc (by decide)) ⟨_, _, _, rfl, H0, h_0_0, h_1_0, (by omega), (by omega), q_0⟩ (fun w47 σ48 q49 => ?_)
      obtain ⟨x50, rfl, H51, e52, h53, h54⟩ := q49
      refine k_st (st' := [.inl x50]) rfl ?_
      refine k_istore_n (ls' := [(2, .inl x50), (0, .inr (.inr (some p0))), (1, .inr (.inr (some p1)))]) rfl ?_
      refine k_aload_n rfl ?_
      have t55 := h_1_0.x e52
      obtain ⟨o58, e56, c57, t59, f60⟩ := cg277 H51.1 t55
      refine k_get kg277 t55 e56 ?_
      refine k_ifnull (fun h62 => ?_) (fun b61 h62 => ?_)
      · subst h62
        refine hB _ _ _ _ (kgoC (is := KX2_reachInside_154) rfl ?_)
        refine k_iconst (m := 1) rfl (fun x63 h64 => ?_)
        refine k_goto ?_
        refine hB _ _ _ _ (kgoC (is := KX2_reachInside_159) rfl ?_)
        refine k_ireturn (fun _ => b01C (by omega) (by omega)) ?_
        have X65 : ExC [217, 218, 282, 283, 284] σ0 σ48 := ExC.rf.tr (e52.mo (by decide))
        exact ⟨_, rfl, H51, X65, (by omega), (by omega)⟩
      · subst h62
        have t66 := t59 b61 rfl
        have f67 := (f60 b61 rfl).2
        have r69 := q_0.x h_1_0 e52
        have r68 := r69.ch f67.2
        have c70 := (h_1_0.mi e52 (by decide)).trans c2
        refine k_nil ?_
        refine hB _ _ _ _ (kgoC (is := KX2_reachInside_138) rfl ?_)
        refine k_aload_n rfl ?_
        refine k_aload_n rfl ?_
        refine k_get kg277 t55 (congrArg (fun z : Option Nat => (Sum.inr (Sum.inr z) : AvC)) c57) ?_
        refine k_iconst (m := 1) rfl (fun x71 h72 => ?_)
        have t73 := h_0_0.x e52
        refine k_inv (P := (P_X2_reach d)) (Q := Q_X2_reach) rfl rfl rfl rfl (Nat.le_of_ble_eq_true rfl) (t73.rc (by decide)) ⟨_, _, _, rfl, H51, t73, t66, (by omega), (by omega), r68⟩ (fun w74 σ75 q76 => ?_)
        obtain ⟨x77, rfl, H78, e79, h80, h81⟩ := q76
        refine k_st (st' := [.inl x77]) rfl ?_
        refine k_if_ne (fun h82 => ?_) (fun h82 => ?_)
        · refine hB _ _ _ _ (kgoC (is := KX2_reachInside_154) rfl ?_)
          refine k_iconst (m := 1) rfl (fun x83 h84 => ?_)
          refine k_goto ?_
          refine hB _ _ _ _ (kgoC (is := KX2_reachInside_159) rfl ?_)
          refine k_ireturn (fun _ => b01C (by omega) (by omega)) ?_
          have X85 : ExC [217, 218, 282, 283, 284] σ0 σ48 := ExC.rf.tr (e52.mo (by decide))
          have X86 : ExC [217, 218, 282, 283, 284] σ0 σ75 := X85.tr (e79.mo (by decide))
          exact ⟨_, rfl, H78, X86, (by omega), (by omega)⟩
        · refine k_nil ?_
          refine hB _ _ _ _ (kgoC (is := KX2_reachInside_150) rfl ?_)
          refine k_iload_n rfl ?_
          refine k_if_eq (fun h87 => ?_) (fun h87 => ?_)
          · refine hB _ _ _ _ (kgoC (is := KX2_reachInside_158) rfl ?_)
            refine k_iconst (m := 0) rfl (fun x88 h89 => ?_)
            refine k_nil ?_
            refine hB _ _ _ _ (kgoC (is := KX2_reachInside_159) rfl ?_)
            refine k_ireturn (fun _ => b01C (by omega) (by omega)) ?_
            have X90 : ExC [217, 218, 282, 283, 284] σ0 σ48 := ExC.rf.tr (e52.mo (by decide))
            have X91 : ExC [217, 218, 282, 283, 284] σ0 σ75 := X90.tr (e79.mo (by decide))
            exact ⟨_, rfl, H78, X91, (by omega), (by omega)⟩
          · refine k_nil ?_
            refine hB _ _ _ _ (kgoC (is := KX2_reachInside_154) rfl ?_)
            refine k_iconst (m := 1) rfl (fun x92 h93 => ?_)
            refine k_goto ?_
            refine hB _ _ _ _ (kgoC (is := KX2_reachInside_159) rfl ?_)
            refine k_ireturn (fun _ => b01C (by omega) (by omega)) ?_
            have X94 : ExC [217, 218, 282, 283, 284] σ0 σ48 := ExC.rf.tr (e52.mo (by decide))
            have X95 : ExC [217, 218, 282, 283, 284] σ0 σ75 := X94.tr (e79.mo (by decide))
            exact ⟨_, rfl, H78, X95, (by omega), (by omega)⟩
    refine k_swc (fun h96 => ?_) (fun h96 => ?_)
    · refine hB _ _ _ _ (kgoC (is := KX2_reachInside_160) rfl ?_)
      refine k_aload_n rfl ?_
      refine k_aload_n rfl ?_
      refine k_aload_n rfl ?_
      refine k_iconst (m := 0) rfl (fun x97 h98 => ?_)
      refine k_inv (P := P_X8_isAlways) (Q := Q_X8_isAlways) rfl rfl rfl rfl (Nat.le_of_ble_eq_true rfl) (h_1_0.rc (by decide)) ⟨_, _, rfl, H0, h_1_0⟩ (fun w99 σ100 q101 => ?_)
      obtain ⟨x102, rfl, rfl, h103, h104⟩ := q101
      refine k_st (st' := [.inl x102, .inr (.inr (some p1)), .inr (.inr (some p0))]) rfl ?_
      refine k_if_ne (fun h105 => ?_) (fun h105 => ?_)
      · refine hB _ _ _ _ (kgoC (is := KX2_reachInside_174) rfl ?_)
        refine k_iconst (m := 0) rfl (fun x106 h107 => ?_)
        refine k_nil ?_
        refine hB _ _ _ _ (kgoC (is := KX2_reachInside_175) rfl ?_)
        refine k_inv (P := (P_X2_reachBody (d + 1))) (Q := Q_X2_reachBody) rfl rfl rfl rfl (Nat.le_of_ble_eq_true rfl) (h_0_0.rc (by decide)) ⟨_, _, _, rfl, H0, h_0_0, h_1_0, (by omega), (by omega), q_0⟩ (fun w108 σ109 q110 => ?_)
        obtain ⟨x111, rfl, H112, e113, h114, h115⟩ := q110
        refine k_st (st' := [.inl x111]) rfl ?_
        refine k_popI ?_
        refine k_aload_n rfl ?_
        refine k_iconst (m := 1) rfl (fun x116 h117 => ?_)
        have t118 := h_1_0.x e113
        refine k_inv (P := P_X8_isAlways) (Q := Q_X8_isAlways) rfl rfl rfl rfl (Nat.le_of_ble_eq_true rfl) (t118.rc (by decide)) ⟨_, _, rfl, H112, t118⟩ (fun w119 σ120 q121 => ?_)
        obtain ⟨x122, rfl, rfl, h123, h124⟩ := q121
        refine k_st (st' := [.inl x122]) rfl ?_
        refine k_if_eq (fun h125 => ?_) (fun h125 => ?_)
        · refine hB _ _ _ _ (kgoC (is := KX2_reachInside_194) rfl ?_)
          refine k_iconst (m := 1) rfl (fun x126 h127 => ?_)
          refine k_goto ?_
          refine hB _ _ _ _ (kgoC (is := KX2_reachInside_199) rfl ?_)
          refine k_ireturn (fun _ => b01C (by omega) (by omega)) ?_
          have X128 : ExC [217, 218, 282, 283, 284] σ0 σ109 := ExC.rf.tr (e113.mo (by decide))
          exact ⟨_, rfl, H112, X128, (by omega), (by omega)⟩
        · refine k_nil ?_
          refine hB _ _ _ _ (kgoC (is := KX2_reachInside_187) rfl ?_)
          refine k_aload_n rfl ?_
          obtain ⟨x131, e129, c130, h132, h133⟩ := cg283 H112.1 t118
          refine k_get kg283 t118 e129 ?_
          refine k_if_eq (fun h134 => ?_) (fun h134 => ?_)
          · refine hB _ _ _ _ (kgoC (is := KX2_reachInside_198) rfl ?_)
            refine k_iconst (m := 0) rfl (fun x135 h136 => ?_)
            refine k_nil ?_
            refine hB _ _ _ _ (kgoC (is := KX2_reachInside_199) rfl ?_)
            refine k_ireturn (fun _ => b01C (by omega) (by omega)) ?_
            have X137 : ExC [217, 218, 282, 283, 284] σ0 σ109 := ExC.rf.tr (e113.mo (by decide))
            exact ⟨_, rfl, H112, X137, (by omega), (by omega)⟩
          · refine k_nil ?_
            refine hB _ _ _ _ (kgoC (is := KX2_reachInside_194) rfl ?_)
            refine k_iconst (m := 1) rfl (fun x138 h139 => ?_)
            refine k_goto ?_
            refine hB _ _ _ _ (kgoC (is := KX2_reachInside_199) rfl ?_)
            refine k_ireturn (fun _ => b01C (by omega) (by omega)) ?_
            have X140 : ExC [217, 218, 282, 283, 284] σ0 σ109 := ExC.rf.tr (e113.mo (by decide))
            exact ⟨_, rfl, H112, X140, (by omega), (by omega)⟩
      · refine k_nil ?_
        refine hB _ _ _ _ (kgoC (is := KX2_reachInside_170) rfl ?_)
        refine k_iconst (m := 1) rfl (fun x141 h142 => ?_)
        refine k_goto ?_
        refine hB _ _ _ _ (kgoC (is := KX2_reachInside_175) rfl ?_)
        refine k_inv (P := (P_X2_reachBody (d + 1))) (Q := Q_X2_reachBody) rfl rfl rfl rfl (Nat.le_of_ble_eq_true rfl) (h_0_0.rc (by decide)) ⟨_, _, _, rfl, H0, h_0_0, h_1_0, (by omega), (by omega), q_0⟩ (fun w143 σ144 q145 => ?_)
        obtain ⟨x146, rfl, H147, e148, h149, h150⟩ := q145
        refine k_st (st' := [.inl x146]) rfl ?_
        refine k_popI ?_
        refine k_aload_n rfl ?_
        refine k_iconst (m := 1) rfl (fun x151 h152 => ?_)
        have t153 := h_1_0.x e148
        refine k_inv (P := P_X8_isAlways) (Q := Q_X8_isAlways) rfl rfl rfl rfl (Nat.le_of_ble_eq_true rfl) (t153.rc (by decide)) ⟨_, _, rfl, H147, t153⟩ (fun w154 σ155 q156 => ?_)
        obtain ⟨x157, rfl, rfl, h158, h159⟩ := q156
        refine k_st (st' := [.inl x157]) rfl ?_
        refine k_if_eq (fun h160 => ?_) (fun h160 => ?_)
        · refine hB _ _ _ _ (kgoC (is := KX2_reachInside_194) rfl ?_)
          refine k_iconst (m := 1) rfl (fun x161 h162 => ?_)
          refine k_goto ?_
          refine hB _ _ _ _ (kgoC (is := KX2_reachInside_199) rfl ?_)
          refine k_ireturn (fun _ => b01C (by omega) (by omega)) ?_
          have X163 : ExC [217, 218, 282, 283, 284] σ0 σ144 := ExC.rf.tr (e148.mo (by decide))
          exact ⟨_, rfl, H147, X163, (by omega), (by omega)⟩
        · refine k_nil ?_
          refine hB _ _ _ _ (kgoC (is := KX2_reachInside_187) rfl ?_)
          refine k_aload_n rfl ?_
          obtain ⟨x166, e164, c165, h167, h168⟩ := cg283 H147.1 t153
          refine k_get kg283 t153 e164 ?_
          refine k_if_eq (fun h169 => ?_) (fun h169 => ?_)
          · refine hB _ _ _ _ (kgoC (is := KX2_reachInside_198) rfl ?_)
            refine k_iconst (m := 0) rfl (fun x170 h171 => ?_)
            refine k_nil ?_
            refine hB _ _ _ _ (kgoC (is := KX2_reachInside_199) rfl ?_)
            refine k_ireturn (fun _ => b01C (by omega) (by omega)) ?_
            have X172 : ExC [217, 218, 282, 283, 284] σ0 σ144 := ExC.rf.tr (e148.mo (by decide))
            exact ⟨_, rfl, H147, X172, (by omega), (by omega)⟩
          · refine k_nil ?_
            refine hB _ _ _ _ (kgoC (is := KX2_reachInside_194) rfl ?_)
            refine k_iconst (m := 1) rfl (fun x173 h174 => ?_)
            refine k_goto ?_
            refine hB _ _ _ _ (kgoC (is := KX2_reachInside_199) rfl ?_)
            refine k_ireturn (fun _ => b01C (by omega) (by omega)) ?_
            have X175 : ExC [217, 218, 282, 283, 284] σ0 σ144 := ExC.rf.tr (e148.mo (by decide))
            exact ⟨_, rfl, H147, X175, (by omega), (by omega)⟩
    refine k_swc (fun h176 => ?_) (fun h176 => ?_)
    · refine hB _ _ _ _ (kgoC (is := KX2_reachInside_200) rfl ?_)
      refine k_aload_n rfl ?_
      refine k_aload_n rfl ?_
      refine k_iconst (m := 1) rfl (fun x177 h178 => ?_)
      refine k_inv (P := (P_X2_reachBody (d + 1))) (Q := Q_X2_reachBody) rfl rfl rfl rfl (Nat.le_of_ble_eq_true rfl) (h_0_0.rc (by decide)) ⟨_, _, _, rfl, H0, h_0_0, h_1_0, (by omega), (by omega), q_0⟩ (fun w179 σ180 q181 => ?_)
      obtain ⟨x182, rfl, H183, e184, h185, h186⟩ := q181
      refine k_st (st' := [.inl x182]) rfl ?_
      refine k_if_ne (fun h187 => ?_) (fun h187 => ?_)
      · refine hB _ _ _ _ (kgoC (is := KX2_reachInside_216) rfl ?_)
        refine k_iconst (m := 1) rfl (fun x188 h189 => ?_)
        refine k_goto ?_
        refine hB _ _ _ _ (kgoC (is := KX2_reachInside_221) rfl ?_)
        refine k_istore_n (ls' := [(3, .inl x188), (0, .inr (.inr (some p0))), (1, .inr (.inr (some p1)))]) rfl ?_
        refine k_iload_n rfl ?_
        refine k_if_eq (fun h190 => by exfalso; omega) (fun h190 => ?_)
        refine k_nil ?_
        refine hB _ _ _ _ (kgoC (is := KX2_reachInside_226) rfl ?_)
        refine k_aload_n rfl ?_
        refine k_iconst (m := 1) rfl (fun x191 h192 => ?_)
        have t193 := h_1_0.x e184
        refine k_inv (P := P_X8_isAlways) (Q := Q_X8_isAlways) rfl rfl rfl rfl (Nat.le_of_ble_eq_true rfl) (t193.rc (by decide)) ⟨_, _, rfl, H183, t193⟩ (fun w194 σ195 q196 => ?_)
        obtain ⟨x197, rfl, rfl, h198, h199⟩ := q196
        refine k_st (st' := [.inl x197]) rfl ?_
        refine k_if_eq (fun h200 => ?_) (fun h200 => ?_)
        · refine hB _ _ _ _ (kgoC (is := KX2_reachInside_241) rfl ?_)
          refine k_iconst (m := 1) rfl (fun x201 h202 => ?_)
          refine k_goto ?_
          refine hB _ _ _ _ (kgoC (is := KX2_reachInside_246) rfl ?_)
          refine k_ireturn (fun _ => b01C (by omega) (by omega)) ?_
          have X203 : ExC [217, 218, 282, 283, 284] σ0 σ180 := ExC.rf.tr (e184.mo (by decide))
          exact ⟨_, rfl, H183, X203, (by omega), (by omega)⟩
        · refine k_nil ?_
          refine hB _ _ _ _ (kgoC (is := KX2_reachInside_234) rfl ?_)
          refine k_aload_n rfl ?_
          obtain ⟨x206, e204, c205, h207, h208⟩ := cg283 H183.1 t193
          refine k_get kg283 t193 e204 ?_
          refine k_if_eq (fun h209 => ?_) (fun h209 => ?_)
          · refine hB _ _ _ _ (kgoC (is := KX2_reachInside_245) rfl ?_)
            refine k_iconst (m := 0) rfl (fun x210 h211 => ?_)
            refine k_nil ?_
            refine hB _ _ _ _ (kgoC (is := KX2_reachInside_246) rfl ?_)
            refine k_ireturn (fun _ => b01C (by omega) (by omega)) ?_
            have X212 : ExC [217, 218, 282, 283, 284] σ0 σ180 := ExC.rf.tr (e184.mo (by decide))
            exact ⟨_, rfl, H183, X212, (by omega), (by omega)⟩
          · refine k_nil ?_
            refine hB _ _ _ _ (kgoC (is := KX2_reachInside_241) rfl ?_)
            refine k_iconst (m := 1) rfl (fun x213 h214 => ?_)
            refine k_goto ?_
            refine hB _ _ _ _ (kgoC (is := KX2_reachInside_246) rfl ?_)
            refine k_ireturn (fun _ => b01C (by omega) (by omega)) ?_
            have X215 : ExC [217, 218, 282, 283, 284] σ0 σ180 := ExC.rf.tr (e184.mo (by decide))
            exact ⟨_, rfl, H183, X215, (by omega), (by omega)⟩
      · refine k_nil ?_
        refine hB _ _ _ _ (kgoC (is := KX2_reachInside_209) rfl ?_)
        refine k_aload_n rfl ?_
        have t216 := h_1_0.x e184
        obtain ⟨x219, e217, c218, h220, h221⟩ := cg284 H183.1 t216
        refine k_get kg284 t216 e217 ?_
        refine k_if_eq (fun h222 => ?_) (fun h222 => ?_)
        · refine hB _ _ _ _ (kgoC (is := KX2_reachInside_220) rfl ?_)
          refine k_iconst (m := 0) rfl (fun x223 h224 => ?_)
          refine k_nil ?_
          refine hB _ _ _ _ (kgoC (is := KX2_reachInside_221) rfl ?_)
          refine k_istore_n (ls' := [(3, .inl x223), (0, .inr (.inr (some p0))), (1, .inr (.inr (some p1)))]) rfl ?_
          refine k_iload_n rfl ?_
          refine k_if_eq (fun h225 => ?_) (fun h225 => by exfalso; omega)
          refine hB _ _ _ _ (kgoC (is := KX2_reachInside_234) rfl ?_)
          refine k_aload_n rfl ?_
          obtain ⟨x228, e226, c227, h229, h230⟩ := cg283 H183.1 t216
          refine k_get kg283 t216 e226 ?_
          refine k_if_eq (fun h231 => ?_) (fun h231 => ?_)
          · refine hB _ _ _ _ (kgoC (is := KX2_reachInside_245) rfl ?_)
            refine k_iconst (m := 0) rfl (fun x232 h233 => ?_)
            refine k_nil ?_
            refine hB _ _ _ _ (kgoC (is := KX2_reachInside_246) rfl ?_)
            refine k_ireturn (fun _ => b01C (by omega) (by omega)) ?_
            have X234 : ExC [217, 218, 282, 283, 284] σ0 σ180 := ExC.rf.tr (e184.mo (by decide))
            exact ⟨_, rfl, H183, X234, (by omega), (by omega)⟩
          · refine k_nil ?_
            refine hB _ _ _ _ (kgoC (is := KX2_reachInside_241) rfl ?_)
            refine k_iconst (m := 1) rfl (fun x235 h236 => ?_)
            refine k_goto ?_
            refine hB _ _ _ _ (kgoC (is := KX2_reachInside_246) rfl ?_)
            refine k_ireturn (fun _ => b01C (by omega) (by omega)) ?_
            have X237 : ExC [217, 218, 282, 283, 284] σ0 σ180 := ExC.rf.tr (e184.mo (by decide))
            exact ⟨_, rfl, H183, X237, (by omega), (by omega)⟩
        · refine k_nil ?_
          refine hB _ _ _ _ (kgoC (is := KX2_reachInside_216) rfl ?_)
          refine k_iconst (m := 1) rfl (fun x238 h239 => ?_)
          refine k_goto ?_
          refine hB _ _ _ _ (kgoC (is := KX2_reachInside_221) rfl ?_)
          refine k_istore_n (ls' := [(3, .inl x238), (0, .inr (.inr (some p0))), (1, .inr (.inr (some p1)))]) rfl ?_
          refine k_iload_n rfl ?_
          refine k_if_eq (fun h240 => by exfalso; omega) (fun h240 => ?_)
          refine k_nil ?_
          refine hB _ _ _ _ (kgoC (is := KX2_reachInside_226) rfl ?_)
          refine k_aload_n rfl ?_
          refine k_iconst (m := 1) rfl (fun x241 h242 => ?_)
          refine k_inv (P := P_X8_isAlways) (Q := Q_X8_isAlways) rfl rfl rfl rfl (Nat.le_of_ble_eq_true rfl) (t216.rc (by decide)) ⟨_, _, rfl, H183, t216⟩ (fun w243 σ244 q245 => ?_)
          obtain ⟨x246, rfl, rfl, h247, h248⟩ := q245
          refine k_st (st' := [.inl x246]) rfl ?_
          refine k_if_eq (fun h249 => ?_) (fun h249 => ?_)
          · refine hB _ _ _ _ (kgoC (is := KX2_reachInside_241) rfl ?_)
            refine k_iconst (m := 1) rfl (fun x250 h251 => ?_)
            refine k_goto ?_
            refine hB _ _ _ _ (kgoC (is := KX2_reachInside_246) rfl ?_)
            refine k_ireturn (fun _ => b01C (by omega) (by omega)) ?_
            have X252 : ExC [217, 218, 282, 283, 284] σ0 σ180 := ExC.rf.tr (e184.mo (by decide))
            exact ⟨_, rfl, H183, X252, (by omega), (by omega)⟩
          · refine k_nil ?_
            refine hB _ _ _ _ (kgoC (is := KX2_reachInside_234) rfl ?_)
            refine k_aload_n rfl ?_
            obtain ⟨x255, e253, c254, h256, h257⟩ := cg283 H183.1 t216
            refine k_get kg283 t216 e253 ?_
            refine k_if_eq (fun h258 => ?_) (fun h258 => ?_)
            · refine hB _ _ _ _ (kgoC (is := KX2_reachInside_245) rfl ?_)
              refine k_iconst (m := 0) rfl (fun x259 h260 => ?_)
              refine k_nil ?_
              refine hB _ _ _ _ (kgoC (is := KX2_reachInside_246) rfl ?_)
              refine k_ireturn (fun _ => b01C (by omega) (by omega)) ?_
              have X261 : ExC [217, 218, 282, 283, 284] σ0 σ180 := ExC.rf.tr (e184.mo (by decide))
              exact ⟨_, rfl, H183, X261, (by omega), (by omega)⟩
            · refine k_nil ?_
              refine hB _ _ _ _ (kgoC (is := KX2_reachInside_241) rfl ?_)
              refine k_iconst (m := 1) rfl (fun x262 h263 => ?_)
              refine k_goto ?_
              refine hB _ _ _ _ (kgoC (is := KX2_reachInside_246) rfl ?_)
              refine k_ireturn (fun _ => b01C (by omega) (by omega)) ?_
              have X264 : ExC [217, 218, 282, 283, 284] σ0 σ180 := ExC.rf.tr (e184.mo (by decide))
              exact ⟨_, rfl, H183, X264, (by omega), (by omega)⟩
    refine k_swc (fun h265 => ?_) (fun h265 => ?_)
    · refine hB _ _ _ _ (kgoC (is := KX2_reachInside_160) rfl ?_)
      refine k_aload_n rfl ?_
      refine k_aload_n rfl ?_
      refine k_aload_n rfl ?_
      refine k_iconst (m := 0) rfl (fun x266 h267 => ?_)
      refine k_inv (P := P_X8_isAlways) (Q := Q_X8_isAlways) rfl rfl rfl rfl (Nat.le_of_ble_eq_true rfl) (h_1_0.rc (by decide)) ⟨_, _, rfl, H0, h_1_0⟩ (fun w268 σ269 q270 => ?_)
      obtain ⟨x271, rfl, rfl, h272, h273⟩ := q270
      refine k_st (st' := [.inl x271, .inr (.inr (some p1)), .inr (.inr (some p0))]) rfl ?_
      refine k_if_ne (fun h274 => ?_) (fun h274 => ?_)
      · refine hB _ _ _ _ (kgoC (is := KX2_reachInside_174) rfl ?_)
        refine k_iconst (m := 0) rfl (fun x275 h276 => ?_)
        refine k_nil ?_
        refine hB _ _ _ _ (kgoC (is := KX2_reachInside_175) rfl ?_)
        refine k_inv (P := (P_X2_reachBody (d + 1))) (Q := Q_X2_reachBody) rfl rfl rfl rfl (Nat.le_of_ble_eq_true rfl) (h_0_0.rc (by decide)) ⟨_, _, _, rfl, H0, h_0_0, h_1_0, (by omega), (by omega), q_0⟩ (fun w277 σ278 q279 => ?_)
        obtain ⟨x280, rfl, H281, e282, h283, h284⟩ := q279
        refine k_st (st' := [.inl x280]) rfl ?_
        refine k_popI ?_
        refine k_aload_n rfl ?_
        refine k_iconst (m := 1) rfl (fun x285 h286 => ?_)
        have t287 := h_1_0.x e282
        refine k_inv (P := P_X8_isAlways) (Q := Q_X8_isAlways) rfl rfl rfl rfl (Nat.le_of_ble_eq_true rfl) (t287.rc (by decide)) ⟨_, _, rfl, H281, t287⟩ (fun w288 σ289 q290 => ?_)
        obtain ⟨x291, rfl, rfl, h292, h293⟩ := q290
        refine k_st (st' := [.inl x291]) rfl ?_
        refine k_if_eq (fun h294 => ?_) (fun h294 => ?_)
        · refine hB _ _ _ _ (kgoC (is := KX2_reachInside_194) rfl ?_)
          refine k_iconst (m := 1) rfl (fun x295 h296 => ?_)
          refine k_goto ?_
          refine hB _ _ _ _ (kgoC (is := KX2_reachInside_199) rfl ?_)
          refine k_ireturn (fun _ => b01C (by omega) (by omega)) ?_
          have X297 : ExC [217, 218, 282, 283, 284] σ0 σ278 := ExC.rf.tr (e282.mo (by decide))
          exact ⟨_, rfl, H281, X297, (by omega), (by omega)⟩
        · refine k_nil ?_
          refine hB _ _ _ _ (kgoC (is := KX2_reachInside_187) rfl ?_)
          refine k_aload_n rfl ?_
          obtain ⟨x300, e298, c299, h301, h302⟩ := cg283 H281.1 t287
          refine k_get kg283 t287 e298 ?_
          refine k_if_eq (fun h303 => ?_) (fun h303 => ?_)
          · refine hB _ _ _ _ (kgoC (is := KX2_reachInside_198) rfl ?_)
            refine k_iconst (m := 0) rfl (fun x304 h305 => ?_)
            refine k_nil ?_
            refine hB _ _ _ _ (kgoC (is := KX2_reachInside_199) rfl ?_)
            refine k_ireturn (fun _ => b01C (by omega) (by omega)) ?_
            have X306 : ExC [217, 218, 282, 283, 284] σ0 σ278 := ExC.rf.tr (e282.mo (by decide))
            exact ⟨_, rfl, H281, X306, (by omega), (by omega)⟩
          · refine k_nil ?_
            refine hB _ _ _ _ (kgoC (is := KX2_reachInside_194) rfl ?_)
            refine k_iconst (m := 1) rfl (fun x307 h308 => ?_)
            refine k_goto ?_
            refine hB _ _ _ _ (kgoC (is := KX2_reachInside_199) rfl ?_)
            refine k_ireturn (fun _ => b01C (by omega) (by omega)) ?_
            have X309 : ExC [217, 218, 282, 283, 284] σ0 σ278 := ExC.rf.tr (e282.mo (by decide))
            exact ⟨_, rfl, H281, X309, (by omega), (by omega)⟩
      · refine k_nil ?_
        refine hB _ _ _ _ (kgoC (is := KX2_reachInside_170) rfl ?_)
        refine k_iconst (m := 1) rfl (fun x310 h311 => ?_)
        refine k_goto ?_
        refine hB _ _ _ _ (kgoC (is := KX2_reachInside_175) rfl ?_)
        refine k_inv (P := (P_X2_reachBody (d + 1))) (Q := Q_X2_reachBody) rfl rfl rfl rfl (Nat.le_of_ble_eq_true rfl) (h_0_0.rc (by decide)) ⟨_, _, _, rfl, H0, h_0_0, h_1_0, (by omega), (by omega), q_0⟩ (fun w312 σ313 q314 => ?_)
        obtain ⟨x315, rfl, H316, e317, h318, h319⟩ := q314
        refine k_st (st' := [.inl x315]) rfl ?_
        refine k_popI ?_
        refine k_aload_n rfl ?_
        refine k_iconst (m := 1) rfl (fun x320 h321 => ?_)
        have t322 := h_1_0.x e317
        refine k_inv (P := P_X8_isAlways) (Q := Q_X8_isAlways) rfl rfl rfl rfl (Nat.le_of_ble_eq_true rfl) (t322.rc (by decide)) ⟨_, _, rfl, H316, t322⟩ (fun w323 σ324 q325 => ?_)
        obtain ⟨x326, rfl, rfl, h327, h328⟩ := q325
        refine k_st (st' := [.inl x326]) rfl ?_
        refine k_if_eq (fun h329 => ?_) (fun h329 => ?_)
        · refine hB _ _ _ _ (kgoC (is := KX2_reachInside_194) rfl ?_)
          refine k_iconst (m := 1) rfl (fun x330 h331 => ?_)
          refine k_goto ?_
          refine hB _ _ _ _ (kgoC (is := KX2_reachInside_199) rfl ?_)
          refine k_ireturn (fun _ => b01C (by omega) (by omega)) ?_
          have X332 : ExC [217, 218, 282, 283, 284] σ0 σ313 := ExC.rf.tr (e317.mo (by decide))
          exact ⟨_, rfl, H316, X332, (by omega), (by omega)⟩
        · refine k_nil ?_
          refine hB _ _ _ _ (kgoC (is := KX2_reachInside_187) rfl ?_)
          refine k_aload_n rfl ?_
          obtain ⟨x335, e333, c334, h336, h337⟩ := cg283 H316.1 t322
          refine k_get kg283 t322 e333 ?_
          refine k_if_eq (fun h338 => ?_) (fun h338 => ?_)
          · refine hB _ _ _ _ (kgoC (is := KX2_reachInside_198) rfl ?_)
            refine k_iconst (m := 0) rfl (fun x339 h340 => ?_)
            refine k_nil ?_
            refine hB _ _ _ _ (kgoC (is := KX2_reachInside_199) rfl ?_)
            refine k_ireturn (fun _ => b01C (by omega) (by omega)) ?_
            have X341 : ExC [217, 218, 282, 283, 284] σ0 σ313 := ExC.rf.tr (e317.mo (by decide))
            exact ⟨_, rfl, H316, X341, (by omega), (by omega)⟩
          · refine k_nil ?_
            refine hB _ _ _ _ (kgoC (is := KX2_reachInside_194) rfl ?_)
            refine k_iconst (m := 1) rfl (fun x342 h343 => ?_)
            refine k_goto ?_
            refine hB _ _ _ _ (kgoC (is := KX2_reachInside_199) rfl ?_)
            refine k_ireturn (fun _ => b01C (by omega) (by omega)) ?_
            have X344 : ExC [217, 218, 282, 283, 284] σ0 σ313 := ExC.rf.tr (e317.mo (by decide))
            exact ⟨_, rfl, H316, X344, (by omega), (by omega)⟩
    refine k_swc (fun h345 => ?_) (fun h345 => ?_)
    · refine hB _ _ _ _ (kgoC (is := KX2_reachInside_247) rfl ?_)
      refine k_aload_n rfl ?_
      refine k_aload_n rfl ?_
      refine k_inv (P := (P_X2_reachSwitch (d + 1))) (Q := Q_X2_reachSwitch) rfl rfl rfl rfl (Nat.le_of_ble_eq_true rfl) (h_0_0.rc (by decide)) ⟨_, _, rfl, H0, h_0_0, h_1_0, q_0, (by rw [c2]; omega)⟩ (fun w346 σ347 q348 => ?_)
      obtain ⟨x349, rfl, H350, e351, h352, h353⟩ := q348
      refine k_st (st' := [.inl x349]) rfl ?_
      refine k_ireturn (fun _ => b01C (by omega) (by omega)) ?_
      have X354 : ExC [217, 218, 282, 283, 284] σ0 σ347 := ExC.rf.tr (e351.mo (by decide))
      exact ⟨_, rfl, H350, X354, (by omega), (by omega)⟩
    refine k_swc (fun h355 => ?_) (fun h355 => ?_)
    · refine hB _ _ _ _ (kgoC (is := KX2_reachInside_259) rfl ?_)
      refine k_aload_n rfl ?_
      refine k_stat (P := P_X2_markTarget) (Q := Q_X2_markTarget) rfl rfl (Nat.le_of_ble_eq_true rfl) rfl rfl (Nat.le_of_ble_eq_true rfl) ⟨_, rfl, H0, h_1_0⟩ (fun w356 σ357 q358 => ?_)
      obtain ⟨rfl, H359, e360⟩ := q358
      refine k_st (st' := []) rfl ?_
      refine k_iconst (m := 0) rfl (fun x361 h362 => ?_)
      refine k_ireturn (fun _ => b01C (by omega) (by omega)) ?_
      have X363 : ExC [217, 218, 282, 283, 284] σ0 σ357 := ExC.rf.tr (e360.mo (by decide))
      exact ⟨_, rfl, H359, X363, (by omega), (by omega)⟩
    refine k_swc (fun h364 => ?_) (fun h364 => ?_)
    · refine hB _ _ _ _ (kgoC (is := KX2_reachInside_259) rfl ?_)
      refine k_aload_n rfl ?_
      refine k_stat (P := P_X2_markTarget) (Q := Q_X2_markTarget) rfl rfl (Nat.le_of_ble_eq_true rfl) rfl rfl (Nat.le_of_ble_eq_true rfl) ⟨_, rfl, H0, h_1_0⟩ (fun w365 σ366 q367 => ?_)
      obtain ⟨rfl, H368, e369⟩ := q367
      refine k_st (st' := []) rfl ?_
      refine k_iconst (m := 0) rfl (fun x370 h371 => ?_)
      refine k_ireturn (fun _ => b01C (by omega) (by omega)) ?_
      have X372 : ExC [217, 218, 282, 283, 284] σ0 σ366 := ExC.rf.tr (e369.mo (by decide))
      exact ⟨_, rfl, H368, X372, (by omega), (by omega)⟩
    refine k_swc (fun h373 => ?_) (fun h373 => ?_)
    · refine hB _ _ _ _ (kgoC (is := KX2_reachInside_253) rfl ?_)
      refine k_aload_n rfl ?_
      refine k_aload_n rfl ?_
      refine k_inv (P := (P_X2_reachTry (d + 1))) (Q := Q_X2_reachTry) rfl rfl rfl rfl (Nat.le_of_ble_eq_true rfl) (h_0_0.rc (by decide)) ⟨_, _, rfl, H0, h_0_0, h_1_0, q_0, (by rw [c2]; omega)⟩ (fun w374 σ375 q376 => ?_)
      obtain ⟨x377, rfl, H378, e379, h380, h381⟩ := q376
      refine k_st (st' := [.inl x377]) rfl ?_
      refine k_ireturn (fun _ => b01C (by omega) (by omega)) ?_
      have X382 : ExC [217, 218, 282, 283, 284] σ0 σ375 := ExC.rf.tr (e379.mo (by decide))
      exact ⟨_, rfl, H378, X382, (by omega), (by omega)⟩
    refine k_swn ?_
    refine hB _ _ _ _ (kgoC (is := KX2_reachInside_265) rfl ?_)
    refine k_aload_n rfl ?_
    refine k_get kg270 h_1_0 (congrArg (Sum.inl : Int32 → AvC) c2) ?_
    refine k_bipush (m := 66) rfl (fun x383 h384 => ?_)
    refine k_ic_eq (fun h385 => ?_) (fun h385 => ?_)
    · refine hB _ _ _ _ (kgoC (is := KX2_reachInside_287) rfl ?_)
      refine k_iconst (m := 0) rfl (fun x386 h387 => ?_)
      refine k_nil ?_
      refine hB _ _ _ _ (kgoC (is := KX2_reachInside_288) rfl ?_)
      refine k_ireturn (fun _ => b01C (by omega) (by omega)) ?_
      exact ⟨_, rfl, H0, (ExC.rf : ExC [217, 218, 282, 283, 284] σ0 σ0), (by omega), (by omega)⟩
    · refine k_nil ?_
      refine hB _ _ _ _ (kgoC (is := KX2_reachInside_274) rfl ?_)
      refine k_aload_n rfl ?_
      refine k_get kg270 h_1_0 (congrArg (Sum.inl : Int32 → AvC) c2) ?_
      refine k_bipush (m := 67) rfl (fun x388 h389 => ?_)
      refine k_ic_eq (fun h390 => ?_) (fun h390 => ?_)
      · refine hB _ _ _ _ (kgoC (is := KX2_reachInside_287) rfl ?_)
        refine k_iconst (m := 0) rfl (fun x391 h392 => ?_)
        refine k_nil ?_
        refine hB _ _ _ _ (kgoC (is := KX2_reachInside_288) rfl ?_)
        refine k_ireturn (fun _ => b01C (by omega) (by omega)) ?_
        exact ⟨_, rfl, H0, (ExC.rf : ExC [217, 218, 282, 283, 284] σ0 σ0), (by omega), (by omega)⟩
      · refine k_nil ?_
        refine hB _ _ _ _ (kgoC (is := KX2_reachInside_283) rfl ?_)
        refine k_iconst (m := 1) rfl (fun x393 h394 => ?_)
        refine k_goto ?_
        refine hB _ _ _ _ (kgoC (is := KX2_reachInside_288) rfl ?_)
        refine k_ireturn (fun _ => b01C (by omega) (by omega)) ?_
        exact ⟨_, rfl, H0, (ExC.rf : ExC [217, 218, 282, 283, 284] σ0 σ0), (by omega), (by omega)⟩
theorem lg_X2_reachInside (d : Nat) : ∀ (As : List AvC) (σ : CsC), (P_X2_reachInside (d + 1)) As σ → lgC As ≤ rX2_reachInside.2.2.1 := by
  rintro As σ ⟨p0, p1, rfl, -⟩
  exact Nat.le_of_ble_eq_true rfl
theorem s_X2_reachInside (l : Launch) (d : Nat) (h_X2_reachRow : CMetC l (8 * (d + 1) + 21) 21 (P_X2_reachRow (d + 1)) Q_X2_reachRow) (h_X2_reachBody : CMetC l (8 * (d + 1) + 21) 24 (P_X2_reachBody (d + 1)) Q_X2_reachBody) (h_X2_reach : CMetC l (8 * d + 23) 22 (P_X2_reach d) Q_X2_reach) (h_X2_reachSwitch : CMetC l (8 * (d + 1) + 21) 25 (P_X2_reachSwitch (d + 1)) Q_X2_reachSwitch) (h_X2_reachTry : CMetC l (8 * (d + 1) + 21) 26 (P_X2_reachTry (d + 1)) Q_X2_reachTry) : CMetC l (8 * (d + 1) + 22) 23 (P_X2_reachInside (d + 1)) Q_X2_reachInside :=
  CMetC.of KX2_reachInside [(21, (P_X2_reachRow (d + 1)), Q_X2_reachRow), (24, (P_X2_reachBody (d + 1)), Q_X2_reachBody), (22, (P_X2_reach d), Q_X2_reach), (183, P_X8_isAlways, Q_X8_isAlways), (25, (P_X2_reachSwitch (d + 1)), Q_X2_reachSwitch), (27, P_X2_markTarget, Q_X2_markTarget), (26, (P_X2_reachTry (d + 1)), Q_X2_reachTry)] hX2_reachInside (by decide) (by omega) okX2_reachInside (cc1C h_X2_reachRow (by omega) (cc1C h_X2_reachBody (by omega) (cc1C h_X2_reach (by omega) (cc1C (m_X8_isAlways l) (by omega) (cc1C h_X2_reachSwitch (by omega) (cc1C (m_X2_markTarget l) (by omega) (cc1C h_X2_reachTry (by omega) cc0C))))))) (lg_X2_reachInside d) (b_X2_reachInside d)

set_option maxRecDepth 100000 in
set_option maxHeartbeats 4000000 in
theorem b_X2_reach (d : Nat) : TbC KX2_reach [(23, (P_X2_reachInside (d + 1)), Q_X2_reachInside), (118, P_X6_tell, Q_X6_tell)] (P_X2_reach (d + 1)) Q_X2_reach := by
  · rintro As σ0 ⟨p0, p1, p2, rfl, H0, h_0_0, h_1_0, h_2_0, h_2_1, q_0⟩ hgr G hB hW
    change G 0 [(0, .inr (.inr (some p0))), (1, .inr (.inr (some p1))), (2, .inl p2)] [] σ0
    refine hB _ _ _ _ (kgoC (is := KX2_reach_0) rfl ?_)
    refine k_iload_n rfl ?_
    refine k_if_ne (fun h1 => ?_) (fun h1 => ?_)
    · refine hB _ _ _ _ (kgoC (is := KX2_reach_19) rfl ?_)
      refine k_aload_n rfl ?_
      refine k_aload_n rfl ?_
      obtain ⟨x4, e2, c3, h5, h6⟩ := cg272 H0.1 h_1_0
      refine k_get kg272 h_1_0 e2 ?_
      refine k_bipush (m := 20) rfl (fun x7 h8 => ?_)
      refine k_ic_gt (fun h9 => ?_) (fun h9 => ?_)
      · refine hB _ _ _ _ (kgoC (is := KX2_reach_41) rfl ?_)
        refine k_iconst (m := 0) rfl (fun x10 h11 => ?_)
        refine k_nil ?_
        refine hB _ _ _ _ (kgoC (is := KX2_reach_42) rfl ?_)
        refine k_putI kp282 H0 h_1_0 (Or.inr ⟨fk282, b01C (by omega) (by omega)⟩) (by show 0 ≤ _; omega) (by show _ ≤ 1; omega) (fun σ12 H13 e14 c15 => ?_)
        refine k_aload_n rfl ?_
        have t16 := h_1_0.x e14
        refine k_get kg282 t16 (congrArg (Sum.inl : Int32 → AvC) c15) ?_
        refine k_ireturn (fun _ => b01C (by omega) (by omega)) ?_
        have X17 : ExC [217, 218, 282, 283, 284] σ0 σ12 := ExC.rf.tr (e14.mo (by decide))
        exact ⟨_, rfl, H13, X17, (by omega), (by omega)⟩
      · refine k_nil ?_
        refine hB _ _ _ _ (kgoC (is := KX2_reach_29) rfl ?_)
        refine k_aload_n rfl ?_
        refine k_aload_n rfl ?_
        refine k_inv (P := (P_X2_reachInside (d + 1))) (Q := Q_X2_reachInside) rfl rfl rfl rfl (Nat.le_of_ble_eq_true rfl) (h_0_0.rc (by decide)) ⟨_, _, rfl, H0, h_0_0, h_1_0, q_0⟩ (fun w18 σ19 q20 => ?_)
        obtain ⟨x21, rfl, H22, e23, h24, h25⟩ := q20
        refine k_st (st' := [.inl x21, .inr (.inr (some p1))]) rfl ?_
        refine k_if_eq (fun h26 => ?_) (fun h26 => ?_)
        · refine hB _ _ _ _ (kgoC (is := KX2_reach_41) rfl ?_)
          refine k_iconst (m := 0) rfl (fun x27 h28 => ?_)
          refine k_nil ?_
          refine hB _ _ _ _ (kgoC (is := KX2_reach_42) rfl ?_)
          have t29 := h_1_0.x e23
          refine k_putI kp282 H22 t29 (Or.inr ⟨fk282, b01C (by omega) (by omega)⟩) (by show 0 ≤ _; omega) (by show _ ≤ 1; omega) (fun σ30 H31 e32 c33 => ?_)
          refine k_aload_n rfl ?_
          have t34 := t29.x e32
          refine k_get kg282 t34 (congrArg (Sum.inl : Int32 → AvC) c33) ?_
          refine k_ireturn (fun _ => b01C (by omega) (by omega)) ?_
          have X35 : ExC [217, 218, 282, 283, 284] σ0 σ19 := ExC.rf.tr (e23.mo (by decide))
          have X36 : ExC [217, 218, 282, 283, 284] σ0 σ30 := X35.tr (e32.mo (by decide))
          exact ⟨_, rfl, H31, X36, (by omega), (by omega)⟩
        · refine k_nil ?_
          refine hB _ _ _ _ (kgoC (is := KX2_reach_37) rfl ?_)
          refine k_iconst (m := 1) rfl (fun x37 h38 => ?_)
          refine k_goto ?_
          refine hB _ _ _ _ (kgoC (is := KX2_reach_42) rfl ?_)
          have t39 := h_1_0.x e23
          refine k_putI kp282 H22 t39 (Or.inr ⟨fk282, b01C (by omega) (by omega)⟩) (by show 0 ≤ _; omega) (by show _ ≤ 1; omega) (fun σ40 H41 e42 c43 => ?_)
          refine k_aload_n rfl ?_
          have t44 := t39.x e42
          refine k_get kg282 t44 (congrArg (Sum.inl : Int32 → AvC) c43) ?_
          refine k_ireturn (fun _ => b01C (by omega) (by omega)) ?_
          have X45 : ExC [217, 218, 282, 283, 284] σ0 σ19 := ExC.rf.tr (e23.mo (by decide))
          have X46 : ExC [217, 218, 282, 283, 284] σ0 σ40 := X45.tr (e42.mo (by decide))
          exact ⟨_, rfl, H41, X46, (by omega), (by omega)⟩
    · refine k_nil ?_
      refine hB _ _ _ _ (kgoC (is := KX2_reach_4) rfl ?_)
      refine k_aload_n rfl ?_
      obtain ⟨a49, e47, c48, t50⟩ := cg90 H0.1 h_0_0
      refine k_get kg90 h_0_0 e47 ?_
      refine k_bipush (m := 13) rfl (fun x51 h52 => ?_)
      refine k_aload_n rfl ?_
      obtain ⟨x55, e53, c54, h56, h57⟩ := cg271 H0.1 h_1_0
      refine k_get kg271 h_1_0 e53 ?_
      refine k_inv (P := P_X6_tell) (Q := Q_X6_tell) rfl rfl rfl rfl (Nat.le_of_ble_eq_true rfl) (t50.rc (by decide)) ⟨_, _, _, rfl, H0, t50, (by omega), (by omega), (by omega), (by omega)⟩ (fun w58 σ59 q60 => ?_)
      obtain ⟨rfl, H61, e62⟩ := q60
      refine k_st (st' := []) rfl ?_
      refine k_iconst (m := 0) rfl (fun x63 h64 => ?_)
      refine k_ireturn (fun _ => b01C (by omega) (by omega)) ?_
      have X65 : ExC [217, 218, 282, 283, 284] σ0 σ59 := ExC.rf.tr (e62.mo (by decide))
      exact ⟨_, rfl, H61, X65, (by omega), (by omega)⟩
theorem lg_X2_reach (d : Nat) : ∀ (As : List AvC) (σ : CsC), (P_X2_reach (d + 1)) As σ → lgC As ≤ rX2_reach.2.2.1 := by
  rintro As σ ⟨p0, p1, p2, rfl, -⟩
  exact Nat.le_of_ble_eq_true rfl
theorem s_X2_reach (l : Launch) (d : Nat) (h_X2_reachInside : CMetC l (8 * (d + 1) + 22) 23 (P_X2_reachInside (d + 1)) Q_X2_reachInside) : CMetC l (8 * (d + 1) + 23) 22 (P_X2_reach (d + 1)) Q_X2_reach :=
  CMetC.of KX2_reach [(23, (P_X2_reachInside (d + 1)), Q_X2_reachInside), (118, P_X6_tell, Q_X6_tell)] hX2_reach (by decide) (by omega) okX2_reach (cc1C h_X2_reachInside (by omega) (cc1C (m_X6_tell l) (by omega) cc0C)) (lg_X2_reach d) (b_X2_reach d)

set_option maxRecDepth 100000 in
set_option maxHeartbeats 4000000 in
theorem b_X2_assignBody (d : Nat) : TbC KX2_assignBody [(29, (P_X2_assign d), Q_X2_assign)] (P_X2_assignBody (d + 1)) Q_X2_assignBody := by
  · rintro As σ0 ⟨p0, p1, p2, rfl, H0, h_0_0, h_1_0, q_0⟩ hgr G hB hW
    change G 0 [(0, .inr (.inr (some p0))), (1, .inr (.inr (some p1))), (2, .inr (.inl p2))] [] σ0
    refine hB _ _ _ _ (kgoC (is := KX2_assignBody_0) rfl ?_)
    refine k_aload_n rfl ?_
    obtain ⟨o3, e1, c2, t4, f5⟩ := cg276 H0.1 h_1_0
    refine k_get kg276 h_1_0 e1 ?_
    refine k_ifnonnull (fun b6 h7 => ?_) (fun h7 => ?_)
    · subst h7
      have t8 := t4 b6 rfl
      have f9 := (f5 b6 rfl).2
      have r10 := q_0.ch f9.2
      refine hB _ _ _ _ (kgoC (is := KX2_assignBody_11) rfl ?_)
      refine k_aload_n rfl ?_
      refine k_aload_n rfl ?_
      refine k_get kg276 h_1_0 (congrArg (fun z : Option Nat => (Sum.inr (Sum.inr z) : AvC)) c2) ?_
      refine k_lload_n rfl ?_
      refine k_inv (P := (P_X2_assign d)) (Q := Q_X2_assign) rfl rfl rfl rfl (Nat.le_of_ble_eq_true rfl) (h_0_0.rc (by decide)) ⟨_, _, _, rfl, H0, h_0_0, t8, r10⟩ (fun w11 σ12 q13 => ?_)
      obtain ⟨y14, rfl, H15, e16⟩ := q13
      refine k_st (st' := [.inr (.inl y14)]) rfl ?_
      refine k_nil ?_
      refine hB _ _ _ _ (kgoC (is := KX2_assignBody_20) rfl ?_)
      refine k_lreturn ?_
      have X17 : ExC [94, 217, 218] σ0 σ12 := ExC.rf.tr (e16.mo (by decide))
      exact ⟨_, rfl, H15, X17⟩
    · subst h7
      refine k_nil ?_
      refine hB _ _ _ _ (kgoC (is := KX2_assignBody_7) rfl ?_)
      refine k_lload_n rfl ?_
      refine k_goto ?_
      refine hB _ _ _ _ (kgoC (is := KX2_assignBody_20) rfl ?_)
      refine k_lreturn ?_
      exact ⟨_, rfl, H0, (ExC.rf : ExC [94, 217, 218] σ0 σ0)⟩
theorem lg_X2_assignBody (d : Nat) : ∀ (As : List AvC) (σ : CsC), (P_X2_assignBody (d + 1)) As σ → lgC As ≤ rX2_assignBody.2.2.1 := by
  rintro As σ ⟨p0, p1, p2, rfl, -⟩
  exact Nat.le_of_ble_eq_true rfl
theorem s_X2_assignBody (l : Launch) (d : Nat) (h_X2_assign : CMetC l (8 * d + 24) 29 (P_X2_assign d) Q_X2_assign) : CMetC l (8 * (d + 1) + 21) 31 (P_X2_assignBody (d + 1)) Q_X2_assignBody :=
  CMetC.of KX2_assignBody [(29, (P_X2_assign d), Q_X2_assign)] hX2_assignBody (by decide) (by omega) okX2_assignBody (cc1C h_X2_assign (by omega) cc0C) (lg_X2_assignBody d) (b_X2_assignBody d)

set_option maxRecDepth 100000 in
set_option maxHeartbeats 4000000 in
theorem b_X2_behindIf (d : Nat) : TbC KX2_behindIf [(39, P_X2_behindExp, Q_X2_behindExp), (31, (P_X2_assignBody (d + 1)), Q_X2_assignBody), (29, (P_X2_assign d), Q_X2_assign)] (P_X2_behindIf (d + 1)) Q_X2_behindIf := by
  · rintro As σ0 ⟨p0, p1, p2, rfl, H0, h_0_0, h_1_0, q_0⟩ hgr G hB hW
    change G 0 [(0, .inr (.inr (some p0))), (1, .inr (.inr (some p1))), (2, .inr (.inl p2))] [] σ0
    refine hB _ _ _ _ (kgoC (is := KX2_behindIf_0) rfl ?_)
    refine k_aload_n rfl ?_
    refine k_aload_n rfl ?_
    obtain ⟨o3, e1, c2, t4⟩ := cg279 H0.1 h_1_0
    refine k_get kg279 h_1_0 e1 ?_
    refine k_lload_n rfl ?_
    refine k_inv (P := P_X2_behindExp) (Q := Q_X2_behindExp) rfl rfl rfl rfl (Nat.le_of_ble_eq_true rfl) (h_0_0.rc (by decide)) ⟨_, o3, _, rfl, H0, h_0_0, t4⟩ (fun w5 σ6 q7 => ?_)
    obtain ⟨y8, rfl, H9, e10⟩ := q7
    refine k_st (st' := [.inr (.inl y8)]) rfl ?_
    refine k_pop2 ?_
    refine k_aload_n rfl ?_
    have t11 := h_0_0.x e10
    obtain ⟨y14, e12, c13⟩ := cg92 (σ := σ6) (a := p0)
    refine k_get kg92 t11 e12 ?_
    refine k_lstore (ls' := [(4, .inr (.inl y14)), (0, .inr (.inr (some p0))), (1, .inr (.inr (some p1))), (2, .inr (.inl p2))]) rfl ?_
    refine k_aload_n rfl ?_
    refine k_aload_n rfl ?_
    refine k_aload_n rfl ?_
    obtain ⟨y17, e15, c16⟩ := cg91 (σ := σ6) (a := p0)
    refine k_get kg91 t11 e15 ?_
    have t18 := h_1_0.x e10
    have r19 := q_0.x h_1_0 e10
    refine k_inv (P := (P_X2_assignBody (d + 1))) (Q := Q_X2_assignBody) rfl rfl rfl rfl (Nat.le_of_ble_eq_true rfl) (t11.rc (by decide)) ⟨_, _, _, rfl, H9, t11, t18, r19⟩ (fun w20 σ21 q22 => ?_)
    obtain ⟨y23, rfl, H24, e25⟩ := q22
    refine k_st (st' := [.inr (.inl y23)]) rfl ?_
    refine k_lstore (ls' := [(6, .inr (.inl y23)), (4, .inr (.inl y14)), (0, .inr (.inr (some p0))), (1, .inr (.inr (some p1))), (2, .inr (.inl p2))]) rfl ?_
    refine k_lload rfl ?_
    refine k_aload_n rfl ?_
    have t26 := t18.x e25
    obtain ⟨o29, e27, c28, t30, f31⟩ := cg277 H24.1 t26
    refine k_get kg277 t26 e27 ?_
    refine k_ifnonnull (fun b32 h33 => ?_) (fun h33 => ?_)
    · subst h33
      have t34 := t30 b32 rfl
      have f35 := (f31 b32 rfl).2
      have r37 := r19.x t18 e25
      have r36 := r37.ch f35.2
      refine hB _ _ _ _ (kgoC (is := KX2_behindIf_41) rfl ?_)
      refine k_aload_n rfl ?_
      refine k_aload_n rfl ?_
      refine k_get kg277 t26 (congrArg (fun z : Option Nat => (Sum.inr (Sum.inr z) : AvC)) c28) ?_
      refine k_lload rfl ?_
      have t38 := t11.x e25
      refine k_inv (P := (P_X2_assign d)) (Q := Q_X2_assign) rfl rfl rfl rfl (Nat.le_of_ble_eq_true rfl) (t38.rc (by decide)) ⟨_, _, _, rfl, H24, t38, t34, r36⟩ (fun w39 σ40 q41 => ?_)
      obtain ⟨y42, rfl, H43, e44⟩ := q41
      refine k_st (st' := [.inr (.inl y42), .inr (.inl y23)]) rfl ?_
      refine k_nil ?_
      refine hB _ _ _ _ (kgoC (is := KX2_behindIf_51) rfl ?_)
      refine k_land (fun y45 => ?_)
      refine k_lreturn ?_
      have X46 : ExC [94, 217, 218] σ0 σ6 := ExC.rf.tr (e10.mo (by decide))
      have X47 : ExC [94, 217, 218] σ0 σ21 := X46.tr (e25.mo (by decide))
      have X48 : ExC [94, 217, 218] σ0 σ40 := X47.tr (e44.mo (by decide))
      exact ⟨_, rfl, H43, X48⟩
    · subst h33
      refine k_nil ?_
      refine hB _ _ _ _ (kgoC (is := KX2_behindIf_36) rfl ?_)
      refine k_lload rfl ?_
      refine k_goto ?_
      refine hB _ _ _ _ (kgoC (is := KX2_behindIf_51) rfl ?_)
      refine k_land (fun y49 => ?_)
      refine k_lreturn ?_
      have X50 : ExC [94, 217, 218] σ0 σ6 := ExC.rf.tr (e10.mo (by decide))
      have X51 : ExC [94, 217, 218] σ0 σ21 := X50.tr (e25.mo (by decide))
      exact ⟨_, rfl, H24, X51⟩
theorem lg_X2_behindIf (d : Nat) : ∀ (As : List AvC) (σ : CsC), (P_X2_behindIf (d + 1)) As σ → lgC As ≤ rX2_behindIf.2.2.1 := by
  rintro As σ ⟨p0, p1, p2, rfl, -⟩
  exact Nat.le_of_ble_eq_true rfl
theorem s_X2_behindIf (l : Launch) (d : Nat) (h_X2_assignBody : CMetC l (8 * (d + 1) + 21) 31 (P_X2_assignBody (d + 1)) Q_X2_assignBody) (h_X2_assign : CMetC l (8 * d + 24) 29 (P_X2_assign d) Q_X2_assign) : CMetC l (8 * (d + 1) + 22) 35 (P_X2_behindIf (d + 1)) Q_X2_behindIf :=
  CMetC.of KX2_behindIf [(39, P_X2_behindExp, Q_X2_behindExp), (31, (P_X2_assignBody (d + 1)), Q_X2_assignBody), (29, (P_X2_assign d), Q_X2_assign)] hX2_behindIf (by decide) (by omega) okX2_behindIf (cc1C (m_X2_behindExp l) (by omega) (cc1C h_X2_assignBody (by omega) (cc1C h_X2_assign (by omega) cc0C))) (lg_X2_behindIf d) (b_X2_behindIf d)

set_option maxRecDepth 100000 in
set_option maxHeartbeats 4000000 in
theorem b_X2_behindLoop (d : Nat) : TbC KX2_behindLoop [(39, P_X2_behindExp, Q_X2_behindExp), (31, (P_X2_assignBody (d + 1)), Q_X2_assignBody), (30, (P_X2_assignRow d), Q_X2_assignRow)] (P_X2_behindLoop (d + 1)) Q_X2_behindLoop := by
  · rintro As σ0 ⟨p0, p1, p2, rfl, H0, h_0_0, h_1_0, q_0⟩ hgr G hB hW
    change G 0 [(0, .inr (.inr (some p0))), (1, .inr (.inr (some p1))), (2, .inr (.inl p2))] [] σ0
    refine hB _ _ _ _ (kgoC (is := KX2_behindLoop_0) rfl ?_)
    refine k_aload_n rfl ?_
    obtain ⟨x3, e1, c2, h4, h5⟩ := cg270 H0.1 h_1_0
    refine k_get kg270 h_1_0 e1 ?_
    refine k_bipush (m := 59) rfl (fun x6 h7 => ?_)
    refine k_ic_ne (fun h8 => ?_) (fun h8 => ?_)
    · refine hB _ _ _ _ (kgoC (is := KX2_behindLoop_43) rfl ?_)
      refine k_aload_n rfl ?_
      refine k_get kg270 h_1_0 (congrArg (Sum.inl : Int32 → AvC) c2) ?_
      refine k_bipush (m := 60) rfl (fun x9 h10 => ?_)
      refine k_ic_ne (fun h11 => ?_) (fun h11 => ?_)
      · refine hB _ _ _ _ (kgoC (is := KX2_behindLoop_64) rfl ?_)
        refine k_lload_n rfl ?_
        refine k_nil ?_
        refine hB _ _ _ _ (kgoC (is := KX2_behindLoop_65) rfl ?_)
        refine k_lstore (ls' := [(4, .inr (.inl p2)), (0, .inr (.inr (some p0))), (1, .inr (.inr (some p1))), (2, .inr (.inl p2))]) rfl ?_
        refine k_aload_n rfl ?_
        refine k_aload_n rfl ?_
        obtain ⟨o14, e12, c13, t15⟩ := cg279 H0.1 h_1_0
        refine k_get kg279 h_1_0 e12 ?_
        refine k_lload rfl ?_
        refine k_inv (P := P_X2_behindExp) (Q := Q_X2_behindExp) rfl rfl rfl rfl (Nat.le_of_ble_eq_true rfl) (h_0_0.rc (by decide)) ⟨_, o14, _, rfl, H0, h_0_0, t15⟩ (fun w16 σ17 q18 => ?_)
        obtain ⟨y19, rfl, H20, e21⟩ := q18
        refine k_st (st' := [.inr (.inl y19)]) rfl ?_
        refine k_pop2 ?_
        refine k_aload_n rfl ?_
        have t22 := h_1_0.x e21
        have c23 := (h_1_0.mr e21 (by decide)).trans c13
        refine k_get kg279 t22 (congrArg (fun z : Option Nat => (Sum.inr (Sum.inr z) : AvC)) c23) ?_
        have t26 := t15.x e21
        refine k_ifnonnull (fun b24 h25 => ?_) (fun h25 => ?_)
        · subst h25
          have t27 := t15 b24 rfl
          have t28 := t26 b24 rfl
          refine hB _ _ _ _ (kgoC (is := KX2_behindLoop_91) rfl ?_)
          refine k_aload_n rfl ?_
          have t29 := h_0_0.x e21
          obtain ⟨y32, e30, c31⟩ := cg92 (σ := σ17) (a := p0)
          refine k_get kg92 t29 e30 ?_
          refine k_nil ?_
          refine hB _ _ _ _ (kgoC (is := KX2_behindLoop_95) rfl ?_)
          refine k_lstore (ls' := [(6, .inr (.inl y32)), (4, .inr (.inl p2)), (0, .inr (.inr (some p0))), (1, .inr (.inr (some p1))), (2, .inr (.inl p2))]) rfl ?_
          refine k_aload_n rfl ?_
          refine k_aload_n rfl ?_
          refine k_aload_n rfl ?_
          obtain ⟨y35, e33, c34⟩ := cg91 (σ := σ17) (a := p0)
          refine k_get kg91 t29 e33 ?_
          have r36 := q_0.x h_1_0 e21
          refine k_inv (P := (P_X2_assignBody (d + 1))) (Q := Q_X2_assignBody) rfl rfl rfl rfl (Nat.le_of_ble_eq_true rfl) (t29.rc (by decide)) ⟨_, _, _, rfl, H20, t29, t22, r36⟩ (fun w37 σ38 q39 => ?_)
          obtain ⟨y40, rfl, H41, e42⟩ := q39
          refine k_st (st' := [.inr (.inl y40)]) rfl ?_
          refine k_lstore (ls' := [(8, .inr (.inl y40)), (6, .inr (.inl y32)), (4, .inr (.inl p2)), (0, .inr (.inr (some p0))), (1, .inr (.inr (some p1))), (2, .inr (.inl p2))]) rfl ?_
          refine k_aload_n rfl ?_
          have t43 := t22.x e42
          have c44 := (h_1_0.mi e21 (by decide)).trans c2
          have c45 := (t22.mi e42 (by decide)).trans c44
          refine k_get kg270 t43 (congrArg (Sum.inl : Int32 → AvC) c45) ?_
          refine k_bipush (m := 60) rfl (fun x46 h47 => ?_)
          refine k_ic_ne (fun h48 => ?_) (fun h48 => ?_)
          · refine hB _ _ _ _ (kgoC (is := KX2_behindLoop_133) rfl ?_)
            refine k_lload rfl ?_
            refine k_aload_n rfl ?_
            obtain ⟨y51, e49, c50⟩ := cg287 (σ := σ38) (a := p1)
            refine k_get kg287 t43 e49 ?_
            refine k_land (fun y52 => ?_)
            refine k_lreturn ?_
            have X53 : ExC [94, 217, 218] σ0 σ17 := ExC.rf.tr (e21.mo (by decide))
            have X54 : ExC [94, 217, 218] σ0 σ38 := X53.tr (e42.mo (by decide))
            exact ⟨_, rfl, H41, X54⟩
          · refine k_nil ?_
            refine hB _ _ _ _ (kgoC (is := KX2_behindLoop_117) rfl ?_)
            refine k_aload_n rfl ?_
            refine k_aload_n rfl ?_
            obtain ⟨o57, e55, c56, t58, f59⟩ := cg278 H41.1 t43
            refine k_get kg278 t43 e55 ?_
            refine k_lload rfl ?_
            refine k_aload_n rfl ?_
            obtain ⟨y62, e60, c61⟩ := cg288 (σ := σ38) (a := p1)
            refine k_get kg288 t43 e60 ?_
            refine k_land (fun y63 => ?_)
            have t64 := t29.x e42
            have r65 := r36.x t22 e42
            refine k_inv (P := (P_X2_assignRow d)) (Q := Q_X2_assignRow) rfl rfl rfl rfl (Nat.le_of_ble_eq_true rfl) (t64.rc (by decide)) ⟨_, o57, _, rfl, H41, t64, t58, (fun b hb => r65.row (f59 b hb).2.2 c45 (by omega))⟩ (fun w66 σ67 q68 => ?_)
            obtain ⟨y69, rfl, H70, e71⟩ := q68
            refine k_st (st' := [.inr (.inl y69)]) rfl ?_
            refine k_pop2 ?_
            refine k_nil ?_
            refine hB _ _ _ _ (kgoC (is := KX2_behindLoop_133) rfl ?_)
            refine k_lload rfl ?_
            refine k_aload_n rfl ?_
            have t72 := t43.x e71
            obtain ⟨y75, e73, c74⟩ := cg287 (σ := σ67) (a := p1)
            refine k_get kg287 t72 e73 ?_
            refine k_land (fun y76 => ?_)
            refine k_lreturn ?_
            have X77 : ExC [94, 217, 218] σ0 σ17 := ExC.rf.tr (e21.mo (by decide))
            have X78 : ExC [94, 217, 218] σ0 σ38 := X77.tr (e42.mo (by decide))
            have X79 : ExC [94, 217, 218] σ0 σ67 := X78.tr (e71.mo (by decide))
            exact ⟨_, rfl, H70, X79⟩
        · subst h25
          refine k_nil ?_
          refine hB _ _ _ _ (kgoC (is := KX2_behindLoop_85) rfl ?_)
          refine k_ldc2_w ?_
          refine k_goto ?_
          refine hB _ _ _ _ (kgoC (is := KX2_behindLoop_95) rfl ?_)
          refine k_lstore (ls' := [(6, .inr (.inl (Int64.ofInt (-1)))), (4, .inr (.inl p2)), (0, .inr (.inr (some p0))), (1, .inr (.inr (some p1))), (2, .inr (.inl p2))]) rfl ?_
          refine k_aload_n rfl ?_
          refine k_aload_n rfl ?_
          refine k_aload_n rfl ?_
          have t80 := h_0_0.x e21
          obtain ⟨y83, e81, c82⟩ := cg91 (σ := σ17) (a := p0)
          refine k_get kg91 t80 e81 ?_
          have r84 := q_0.x h_1_0 e21
          refine k_inv (P := (P_X2_assignBody (d + 1))) (Q := Q_X2_assignBody) rfl rfl rfl rfl (Nat.le_of_ble_eq_true rfl) (t80.rc (by decide)) ⟨_, _, _, rfl, H20, t80, t22, r84⟩ (fun w85 σ86 q87 => ?_)
          obtain ⟨y88, rfl, H89, e90⟩ := q87
          refine k_st (st' := [.inr (.inl y88)]) rfl ?_
          refine k_lstore (ls' := [(8, .inr (.inl y88)), (6, .inr (.inl (Int64.ofInt (-1)))), (4, .inr (.inl p2)), (0, .inr (.inr (some p0))), (1, .inr (.inr (some p1))), (2, .inr (.inl p2))]) rfl ?_
          refine k_aload_n rfl ?_
          have t91 := t22.x e90
          have c92 := (h_1_0.mi e21 (by decide)).trans c2
          have c93 := (t22.mi e90 (by decide)).trans c92
          refine k_get kg270 t91 (congrArg (Sum.inl : Int32 → AvC) c93) ?_
          refine k_bipush (m := 60) rfl (fun x94 h95 => ?_)
          refine k_ic_ne (fun h96 => ?_) (fun h96 => ?_)
          · refine hB _ _ _ _ (kgoC (is := KX2_behindLoop_133) rfl ?_)
            refine k_lload rfl ?_
            refine k_aload_n rfl ?_
            obtain ⟨y99, e97, c98⟩ := cg287 (σ := σ86) (a := p1)
            refine k_get kg287 t91 e97 ?_
            refine k_land (fun y100 => ?_)
            refine k_lreturn ?_
            have X101 : ExC [94, 217, 218] σ0 σ17 := ExC.rf.tr (e21.mo (by decide))
            have X102 : ExC [94, 217, 218] σ0 σ86 := X101.tr (e90.mo (by decide))
            exact ⟨_, rfl, H89, X102⟩
          · refine k_nil ?_
            refine hB _ _ _ _ (kgoC (is := KX2_behindLoop_117) rfl ?_)
            refine k_aload_n rfl ?_
            refine k_aload_n rfl ?_
            obtain ⟨o105, e103, c104, t106, f107⟩ := cg278 H89.1 t91
            refine k_get kg278 t91 e103 ?_
            refine k_lload rfl ?_
            refine k_aload_n rfl ?_
            obtain ⟨y110, e108, c109⟩ := cg288 (σ := σ86) (a := p1)
            refine k_get kg288 t91 e108 ?_
            refine k_land (fun y111 => ?_)
            have t112 := t80.x e90
            have r113 := r84.x t22 e90
            refine k_inv (P := (P_X2_assignRow d)) (Q := Q_X2_assignRow) rfl rfl rfl rfl (Nat.le_of_ble_eq_true rfl) (t112.rc (by decide)) ⟨_, o105, _, rfl, H89, t112, t106, (fun b hb => r113.row (f107 b hb).2.2 c93 (by omega))⟩ (fun w114 σ115 q116 => ?_)
            obtain ⟨y117, rfl, H118, e119⟩ := q116
            refine k_st (st' := [.inr (.inl y117)]) rfl ?_
            refine k_pop2 ?_
            refine k_nil ?_
            refine hB _ _ _ _ (kgoC (is := KX2_behindLoop_133) rfl ?_)
            refine k_lload rfl ?_
            refine k_aload_n rfl ?_
            have t120 := t91.x e119
            obtain ⟨y123, e121, c122⟩ := cg287 (σ := σ115) (a := p1)
            refine k_get kg287 t120 e121 ?_
            refine k_land (fun y124 => ?_)
            refine k_lreturn ?_
            have X125 : ExC [94, 217, 218] σ0 σ17 := ExC.rf.tr (e21.mo (by decide))
            have X126 : ExC [94, 217, 218] σ0 σ86 := X125.tr (e90.mo (by decide))
            have X127 : ExC [94, 217, 218] σ0 σ115 := X126.tr (e119.mo (by decide))
            exact ⟨_, rfl, H118, X127⟩
      · refine k_nil ?_
        refine hB _ _ _ _ (kgoC (is := KX2_behindLoop_52) rfl ?_)
        refine k_aload_n rfl ?_
        refine k_aload_n rfl ?_
        obtain ⟨o130, e128, c129, t131, f132⟩ := cg277 H0.1 h_1_0
        refine k_get kg277 h_1_0 e128 ?_
        refine k_lload_n rfl ?_
        refine k_inv (P := (P_X2_assignRow d)) (Q := Q_X2_assignRow) rfl rfl rfl rfl (Nat.le_of_ble_eq_true rfl) (h_0_0.rc (by decide)) ⟨_, o130, _, rfl, H0, h_0_0, t131, (fun b hb => q_0.row (f132 b hb).2.2 c2 (by omega))⟩ (fun w133 σ134 q135 => ?_)
        obtain ⟨y136, rfl, H137, e138⟩ := q135
        refine k_st (st' := [.inr (.inl y136)]) rfl ?_
        refine k_goto ?_
        refine hB _ _ _ _ (kgoC (is := KX2_behindLoop_65) rfl ?_)
        refine k_lstore (ls' := [(4, .inr (.inl y136)), (0, .inr (.inr (some p0))), (1, .inr (.inr (some p1))), (2, .inr (.inl p2))]) rfl ?_
        refine k_aload_n rfl ?_
        refine k_aload_n rfl ?_
        have t139 := h_1_0.x e138
        obtain ⟨o142, e140, c141, t143⟩ := cg279 H137.1 t139
        refine k_get kg279 t139 e140 ?_
        refine k_lload rfl ?_
        have t144 := h_0_0.x e138
        refine k_inv (P := P_X2_behindExp) (Q := Q_X2_behindExp) rfl rfl rfl rfl (Nat.le_of_ble_eq_true rfl) (t144.rc (by decide)) ⟨_, o142, _, rfl, H137, t144, t143⟩ (fun w145 σ146 q147 => ?_)
        obtain ⟨y148, rfl, H149, e150⟩ := q147
        refine k_st (st' := [.inr (.inl y148)]) rfl ?_
        refine k_pop2 ?_
        refine k_aload_n rfl ?_
        have t151 := t139.x e150
        have c152 := (t139.mr e150 (by decide)).trans c141
        refine k_get kg279 t151 (congrArg (fun z : Option Nat => (Sum.inr (Sum.inr z) : AvC)) c152) ?_
        have t155 := t143.x e150
        refine k_ifnonnull (fun b153 h154 => ?_) (fun h154 => ?_)
        · subst h154
          have t156 := t143 b153 rfl
          have t157 := t155 b153 rfl
          refine hB _ _ _ _ (kgoC (is := KX2_behindLoop_91) rfl ?_)
          refine k_aload_n rfl ?_
          have t158 := t144.x e150
          obtain ⟨y161, e159, c160⟩ := cg92 (σ := σ146) (a := p0)
          refine k_get kg92 t158 e159 ?_
          refine k_nil ?_
          refine hB _ _ _ _ (kgoC (is := KX2_behindLoop_95) rfl ?_)
          refine k_lstore (ls' := [(6, .inr (.inl y161)), (4, .inr (.inl y136)), (0, .inr (.inr (some p0))), (1, .inr (.inr (some p1))), (2, .inr (.inl p2))]) rfl ?_
          refine k_aload_n rfl ?_
          refine k_aload_n rfl ?_
          refine k_aload_n rfl ?_
          obtain ⟨y164, e162, c163⟩ := cg91 (σ := σ146) (a := p0)
          refine k_get kg91 t158 e162 ?_
          have r165 := q_0.x h_1_0 e138
          have r166 := r165.x t139 e150
          refine k_inv (P := (P_X2_assignBody (d + 1))) (Q := Q_X2_assignBody) rfl rfl rfl rfl (Nat.le_of_ble_eq_true rfl) (t158.rc (by decide)) ⟨_, _, _, rfl, H149, t158, t151, r166⟩ (fun w167 σ168 q169 => ?_)
          obtain ⟨y170, rfl, H171, e172⟩ := q169
          refine k_st (st' := [.inr (.inl y170)]) rfl ?_
          refine k_lstore (ls' := [(8, .inr (.inl y170)), (6, .inr (.inl y161)), (4, .inr (.inl y136)), (0, .inr (.inr (some p0))), (1, .inr (.inr (some p1))), (2, .inr (.inl p2))]) rfl ?_
          refine k_aload_n rfl ?_
          have t173 := t151.x e172
          have c174 := (h_1_0.mi e138 (by decide)).trans c2
          have c175 := (t139.mi e150 (by decide)).trans c174
          have c176 := (t151.mi e172 (by decide)).trans c175
          refine k_get kg270 t173 (congrArg (Sum.inl : Int32 → AvC) c176) ?_
          refine k_bipush (m := 60) rfl (fun x177 h178 => ?_)
          refine k_ic_ne (fun h179 => by exfalso; omega) (fun h179 => ?_)
          refine k_nil ?_
          refine hB _ _ _ _ (kgoC (is := KX2_behindLoop_117) rfl ?_)
          refine k_aload_n rfl ?_
          refine k_aload_n rfl ?_
          obtain ⟨o182, e180, c181, t183, f184⟩ := cg278 H171.1 t173
          refine k_get kg278 t173 e180 ?_
          refine k_lload rfl ?_
          refine k_aload_n rfl ?_
          obtain ⟨y187, e185, c186⟩ := cg288 (σ := σ168) (a := p1)
          refine k_get kg288 t173 e185 ?_
          refine k_land (fun y188 => ?_)
          have t189 := t158.x e172
          have r190 := r166.x t151 e172
          refine k_inv (P := (P_X2_assignRow d)) (Q := Q_X2_assignRow) rfl rfl rfl rfl (Nat.le_of_ble_eq_true rfl) (t189.rc (by decide)) ⟨_, o182, _, rfl, H171, t189, t183, (fun b hb => r190.row (f184 b hb).2.2 c176 (by omega))⟩ (fun w191 σ192 q193 => ?_)
          obtain ⟨y194, rfl, H195, e196⟩ := q193
          refine k_st (st' := [.inr (.inl y194)]) rfl ?_
          refine k_pop2 ?_
          refine k_nil ?_
          refine hB _ _ _ _ (kgoC (is := KX2_behindLoop_133) rfl ?_)
          refine k_lload rfl ?_
          refine k_aload_n rfl ?_
          have t197 := t173.x e196
          obtain ⟨y200, e198, c199⟩ := cg287 (σ := σ192) (a := p1)
          refine k_get kg287 t197 e198 ?_
          refine k_land (fun y201 => ?_)
          refine k_lreturn ?_
          have X202 : ExC [94, 217, 218] σ0 σ134 := ExC.rf.tr (e138.mo (by decide))
          have X203 : ExC [94, 217, 218] σ0 σ146 := X202.tr (e150.mo (by decide))
          have X204 : ExC [94, 217, 218] σ0 σ168 := X203.tr (e172.mo (by decide))
          have X205 : ExC [94, 217, 218] σ0 σ192 := X204.tr (e196.mo (by decide))
          exact ⟨_, rfl, H195, X205⟩
        · subst h154
          refine k_nil ?_
          refine hB _ _ _ _ (kgoC (is := KX2_behindLoop_85) rfl ?_)
          refine k_ldc2_w ?_
          refine k_goto ?_
          refine hB _ _ _ _ (kgoC (is := KX2_behindLoop_95) rfl ?_)
          refine k_lstore (ls' := [(6, .inr (.inl (Int64.ofInt (-1)))), (4, .inr (.inl y136)), (0, .inr (.inr (some p0))), (1, .inr (.inr (some p1))), (2, .inr (.inl p2))]) rfl ?_
          refine k_aload_n rfl ?_
          refine k_aload_n rfl ?_
          refine k_aload_n rfl ?_
          have t206 := t144.x e150
          obtain ⟨y209, e207, c208⟩ := cg91 (σ := σ146) (a := p0)
          refine k_get kg91 t206 e207 ?_
          have r210 := q_0.x h_1_0 e138
          have r211 := r210.x t139 e150
          refine k_inv (P := (P_X2_assignBody (d + 1))) (Q := Q_X2_assignBody) rfl rfl rfl rfl (Nat.le_of_ble_eq_true rfl) (t206.rc (by decide)) ⟨_, _, _, rfl, H149, t206, t151, r211⟩ (fun w212 σ213 q214 => ?_)
          obtain ⟨y215, rfl, H216, e217⟩ := q214
          refine k_st (st' := [.inr (.inl y215)]) rfl ?_
          refine k_lstore (ls' := [(8, .inr (.inl y215)), (6, .inr (.inl (Int64.ofInt (-1)))), (4, .inr (.inl y136)), (0, .inr (.inr (some p0))), (1, .inr (.inr (some p1))), (2, .inr (.inl p2))]) rfl ?_
          refine k_aload_n rfl ?_
          have t218 := t151.x e217
          have c219 := (h_1_0.mi e138 (by decide)).trans c2
          have c220 := (t139.mi e150 (by decide)).trans c219
          have c221 := (t151.mi e217 (by decide)).trans c220
          refine k_get kg270 t218 (congrArg (Sum.inl : Int32 → AvC) c221) ?_
          refine k_bipush (m := 60) rfl (fun x222 h223 => ?_)
          refine k_ic_ne (fun h224 => by exfalso; omega) (fun h224 => ?_)
          refine k_nil ?_
          refine hB _ _ _ _ (kgoC (is := KX2_behindLoop_117) rfl ?_)
          refine k_aload_n rfl ?_
          refine k_aload_n rfl ?_
          obtain ⟨o227, e225, c226, t228, f229⟩ := cg278 H216.1 t218
          refine k_get kg278 t218 e225 ?_
          refine k_lload rfl ?_
          refine k_aload_n rfl ?_
          obtain ⟨y232, e230, c231⟩ := cg288 (σ := σ213) (a := p1)
          refine k_get kg288 t218 e230 ?_
          refine k_land (fun y233 => ?_)
          have t234 := t206.x e217
          have r235 := r211.x t151 e217
          refine k_inv (P := (P_X2_assignRow d)) (Q := Q_X2_assignRow) rfl rfl rfl rfl (Nat.le_of_ble_eq_true rfl) (t234.rc (by decide)) ⟨_, o227, _, rfl, H216, t234, t228, (fun b hb => r235.row (f229 b hb).2.2 c221 (by omega))⟩ (fun w236 σ237 q238 => ?_)
          obtain ⟨y239, rfl, H240, e241⟩ := q238
          refine k_st (st' := [.inr (.inl y239)]) rfl ?_
          refine k_pop2 ?_
          refine k_nil ?_
          refine hB _ _ _ _ (kgoC (is := KX2_behindLoop_133) rfl ?_)
          refine k_lload rfl ?_
          refine k_aload_n rfl ?_
          have t242 := t218.x e241
          obtain ⟨y245, e243, c244⟩ := cg287 (σ := σ237) (a := p1)
          refine k_get kg287 t242 e243 ?_
          refine k_land (fun y246 => ?_)
          refine k_lreturn ?_
          have X247 : ExC [94, 217, 218] σ0 σ134 := ExC.rf.tr (e138.mo (by decide))
          have X248 : ExC [94, 217, 218] σ0 σ146 := X247.tr (e150.mo (by decide))
          have X249 : ExC [94, 217, 218] σ0 σ213 := X248.tr (e217.mo (by decide))
          have X250 : ExC [94, 217, 218] σ0 σ237 := X249.tr (e241.mo (by decide))
          exact ⟨_, rfl, H240, X250⟩
    · refine k_nil ?_
      refine hB _ _ _ _ (kgoC (is := KX2_behindLoop_9) rfl ?_)
      refine k_aload_n rfl ?_
      refine k_aload_n rfl ?_
      refine k_lload_n rfl ?_
      refine k_inv (P := (P_X2_assignBody (d + 1))) (Q := Q_X2_assignBody) rfl rfl rfl rfl (Nat.le_of_ble_eq_true rfl) (h_0_0.rc (by decide)) ⟨_, _, _, rfl, H0, h_0_0, h_1_0, q_0⟩ (fun w251 σ252 q253 => ?_)
      obtain ⟨y254, rfl, H255, e256⟩ := q253
      refine k_st (st' := [.inr (.inl y254)]) rfl ?_
      refine k_lstore (ls' := [(4, .inr (.inl y254)), (0, .inr (.inr (some p0))), (1, .inr (.inr (some p1))), (2, .inr (.inl p2))]) rfl ?_
      refine k_aload_n rfl ?_
      refine k_aload_n rfl ?_
      have t257 := h_1_0.x e256
      obtain ⟨o260, e258, c259, t261⟩ := cg279 H255.1 t257
      refine k_get kg279 t257 e258 ?_
      refine k_lload rfl ?_
      refine k_aload_n rfl ?_
      obtain ⟨y264, e262, c263⟩ := cg288 (σ := σ252) (a := p1)
      refine k_get kg288 t257 e262 ?_
      refine k_land (fun y265 => ?_)
      have t266 := h_0_0.x e256
      refine k_inv (P := P_X2_behindExp) (Q := Q_X2_behindExp) rfl rfl rfl rfl (Nat.le_of_ble_eq_true rfl) (t266.rc (by decide)) ⟨_, o260, _, rfl, H255, t266, t261⟩ (fun w267 σ268 q269 => ?_)
      obtain ⟨y270, rfl, H271, e272⟩ := q269
      refine k_st (st' := [.inr (.inl y270)]) rfl ?_
      refine k_pop2 ?_
      refine k_aload_n rfl ?_
      have t273 := t266.x e272
      obtain ⟨y276, e274, c275⟩ := cg92 (σ := σ268) (a := p0)
      refine k_get kg92 t273 e274 ?_
      refine k_aload_n rfl ?_
      have t277 := t257.x e272
      obtain ⟨y280, e278, c279⟩ := cg287 (σ := σ268) (a := p1)
      refine k_get kg287 t277 e278 ?_
      refine k_land (fun y281 => ?_)
      refine k_lreturn ?_
      have X282 : ExC [94, 217, 218] σ0 σ252 := ExC.rf.tr (e256.mo (by decide))
      have X283 : ExC [94, 217, 218] σ0 σ268 := X282.tr (e272.mo (by decide))
      exact ⟨_, rfl, H271, X283⟩
theorem lg_X2_behindLoop (d : Nat) : ∀ (As : List AvC) (σ : CsC), (P_X2_behindLoop (d + 1)) As σ → lgC As ≤ rX2_behindLoop.2.2.1 := by
  rintro As σ ⟨p0, p1, p2, rfl, -⟩
  exact Nat.le_of_ble_eq_true rfl
theorem s_X2_behindLoop (l : Launch) (d : Nat) (h_X2_assignBody : CMetC l (8 * (d + 1) + 21) 31 (P_X2_assignBody (d + 1)) Q_X2_assignBody) (h_X2_assignRow : CMetC l (8 * d + 25) 30 (P_X2_assignRow d) Q_X2_assignRow) : CMetC l (8 * (d + 1) + 22) 36 (P_X2_behindLoop (d + 1)) Q_X2_behindLoop :=
  CMetC.of KX2_behindLoop [(39, P_X2_behindExp, Q_X2_behindExp), (31, (P_X2_assignBody (d + 1)), Q_X2_assignBody), (30, (P_X2_assignRow d), Q_X2_assignRow)] hX2_behindLoop (by decide) (by omega) okX2_behindLoop (cc1C (m_X2_behindExp l) (by omega) (cc1C h_X2_assignBody (by omega) (cc1C h_X2_assignRow (by omega) cc0C))) (lg_X2_behindLoop d) (b_X2_behindLoop d)

set_option maxRecDepth 100000 in
set_option maxHeartbeats 4000000 in
theorem b_X2_behindSwitch (d : Nat) : TbC KX2_behindSwitch [(39, P_X2_behindExp, Q_X2_behindExp), (29, (P_X2_assign d), Q_X2_assign)] (P_X2_behindSwitch (d + 1)) Q_X2_behindSwitch := by
  · rintro As σ0 ⟨p0, p1, p2, rfl, H0, h_0_0, h_1_0, q_0, q_1⟩ hgr G hB hW
    change G 0 [(0, .inr (.inr (some p0))), (1, .inr (.inr (some p1))), (2, .inr (.inl p2))] [] σ0
    obtain ⟨x1, e2, c3, h4, h5⟩ := cg270 H0.1 h_1_0
    have h6 : ¬ x1.toInt = 68 := by rw [← c3]; exact q_1
    have L25 : ∀ (n25 : Nat), ∀ (σ7 : CsC) (v25_4 : Int64) (v25_6 : Int64) (v25_8 : Int32) (v25_9 : Option Nat), msNC (cnC σ0) v25_9 = n25 → HIC σ7 → ExC [94, 217, 218] σ0 σ7 → 0 ≤ v25_8.toInt → v25_8.toInt ≤ 1 → OtC σ7 v25_9 9 → (∀ b, v25_9 = some b → RowC σ7 b d) → G 25 [(0, .inr (.inr (some p0))), (1, .inr (.inr (some p1))), (4, .inr (.inl v25_4)), (6, .inr (.inl v25_6)), (8, .inl v25_8), (9, .inr (.inr v25_9))] [] σ7 := by
      intro n25
      induction n25 using Nat.strongRecOn with
      | _ n25 ih25 =>
        intro σ7 v25_4 v25_6 v25_8 v25_9 n25_ H8 e9 h10 h11 h12 r13
        refine hB _ _ _ _ (kgoC (is := KX2_behindSwitch_25) rfl ?_)
        refine k_aload rfl ?_
        refine k_ifnull (fun h15 => ?_) (fun b14 h15 => ?_)
        · subst h15
          refine hB _ _ _ _ (kgoC (is := KX2_behindSwitch_100) rfl ?_)
          refine k_iload rfl ?_
          refine k_if_eq (fun h16 => ?_) (fun h16 => ?_)
          · refine hB _ _ _ _ (kgoC (is := KX2_behindSwitch_110) rfl ?_)
            refine k_lload rfl ?_
            refine k_lload rfl ?_
            refine k_land (fun y17 => ?_)
            refine k_nil ?_
            refine hB _ _ _ _ (kgoC (is := KX2_behindSwitch_115) rfl ?_)
            refine k_aload_n rfl ?_
            have t18 := h_1_0.x e9
            obtain ⟨y21, e19, c20⟩ := cg287 (σ := σ7) (a := p1)
            refine k_get kg287 t18 e19 ?_
            refine k_land (fun y22 => ?_)
            refine k_lreturn ?_
            have X23 : ExC [94, 217, 218] σ0 σ7 := ExC.rf.tr (e9.mo (by decide))
            exact ⟨_, rfl, H8, X23⟩
          · refine k_nil ?_
            refine hB _ _ _ _ (kgoC (is := KX2_behindSwitch_105) rfl ?_)
            refine k_lload rfl ?_
            refine k_goto ?_
            refine hB _ _ _ _ (kgoC (is := KX2_behindSwitch_115) rfl ?_)
            refine k_aload_n rfl ?_
            have t24 := h_1_0.x e9
            obtain ⟨y27, e25, c26⟩ := cg287 (σ := σ7) (a := p1)
            refine k_get kg287 t24 e25 ?_
            refine k_land (fun y28 => ?_)
            refine k_lreturn ?_
            have X29 : ExC [94, 217, 218] σ0 σ7 := ExC.rf.tr (e9.mo (by decide))
            exact ⟨_, rfl, H8, X29⟩
        · subst h15
          have t30 := h12 b14 rfl
          have r31 := r13 b14 rfl
          refine k_nil ?_
          refine hB _ _ _ _ (kgoC (is := KX2_behindSwitch_30) rfl ?_)
          refine k_aload rfl ?_
          obtain ⟨x34, e32, c33, h35, h36⟩ := cg270 H8.1 t30
          refine k_get kg270 t30 e32 ?_
          refine k_bipush (m := 62) rfl (fun x37 h38 => ?_)
          refine k_ic_eq (fun h39 => ?_) (fun h39 => ?_)
          · refine hB _ _ _ _ (kgoC (is := KX2_behindSwitch_50) rfl ?_)
            refine k_lload rfl ?_
            refine k_lload rfl ?_
            refine k_land (fun y40 => ?_)
            refine k_lstore (ls' := [(6, .inr (.inl y40)), (0, .inr (.inr (some p0))), (1, .inr (.inr (some p1))), (4, .inr (.inl v25_4)), (8, .inl v25_8), (9, .inr (.inr (some b14)))]) rfl ?_
            refine k_iload rfl ?_
            refine k_aload rfl ?_
            refine k_get kg270 t30 (congrArg (Sum.inl : Int32 → AvC) c33) ?_
            refine k_bipush (m := 63) rfl (fun x41 h42 => ?_)
            refine k_ic_ne (fun h43 => ?_) (fun h43 => by exfalso; omega)
            refine hB _ _ _ _ (kgoC (is := KX2_behindSwitch_73) rfl ?_)
            refine k_iconst (m := 0) rfl (fun x44 h45 => ?_)
            refine k_nil ?_
            refine hB _ _ _ _ (kgoC (is := KX2_behindSwitch_74) rfl ?_)
            refine k_ior_b (b01C (by omega) (by omega)) (b01C (by omega) (by omega)) (fun x46 h47 h48 => ?_)
            refine k_istore (ls' := [(8, .inl x46), (6, .inr (.inl y40)), (0, .inr (.inr (some p0))), (1, .inr (.inr (some p1))), (4, .inr (.inl v25_4)), (9, .inr (.inr (some b14)))]) rfl ?_
            refine k_goto ?_
            refine hB _ _ _ _ (kgoC (is := KX2_behindSwitch_90) rfl ?_)
            refine k_aload rfl ?_
            obtain ⟨o51, e49, c50, t52, f53⟩ := cg275 H8.1 t30
            refine k_get kg275 t30 e49 ?_
            refine k_astore (ls' := [(9, .inr (.inr o51)), (8, .inl x46), (6, .inr (.inl y40)), (0, .inr (.inr (some p0))), (1, .inr (.inr (some p1))), (4, .inr (.inl v25_4))]) rfl ?_
            refine k_goto ?_
            have X54 : ExC [94, 217, 218] σ0 σ7 := ExC.rf.tr (e9.mo (by decide))
            exact hW _ _ _ _ _ (List.forall_mem_cons.2 ⟨List.Mem.tail _ (List.Mem.tail _ (List.Mem.tail _ (List.Mem.head _))), (List.forall_mem_cons.2 ⟨List.Mem.tail _ (List.Mem.tail _ (List.Mem.tail _ (List.Mem.tail _ (List.Mem.head _)))), (List.forall_mem_cons.2 ⟨List.Mem.tail _ (List.Mem.tail _ (List.Mem.tail _ (List.Mem.tail _ (List.Mem.tail _ (List.Mem.head _))))), (List.forall_mem_cons.2 ⟨List.Mem.tail _ (List.Mem.tail _ (List.Mem.head _)), (List.forall_mem_cons.2 ⟨List.Mem.tail _ (List.Mem.head _), (List.forall_mem_cons.2 ⟨List.Mem.head _, fun _ h => absurd h List.not_mem_nil⟩)⟩)⟩)⟩)⟩)⟩) (ih25 (msNC (cnC σ0) o51) (by have qb := t30.1; have qc := (X54.cn (by decide) : cnC σ7 = cnC σ0); have qm := n25_; cases o51 with
                          | none => dsimp only [msNC] at qm ⊢; omega
                          | some bz => have := (t52 bz rfl).1; have qf := (f53 bz rfl).2; have qg := (show _ < bz from by first | exact qf | exact qf.1); dsimp only [msNC] at qm ⊢; omega) σ7 v25_4 y40 x46 o51 rfl H8 X54 (by omega) (by omega) t52 (fun b hb => r31.nx (f53 b hb).2.2))
          · refine k_nil ?_
            refine hB _ _ _ _ (kgoC (is := KX2_behindSwitch_40) rfl ?_)
            refine k_aload rfl ?_
            refine k_get kg270 t30 (congrArg (Sum.inl : Int32 → AvC) c33) ?_
            refine k_bipush (m := 63) rfl (fun x55 h56 => ?_)
            refine k_ic_ne (fun h57 => ?_) (fun h57 => ?_)
            · refine hB _ _ _ _ (kgoC (is := KX2_behindSwitch_80) rfl ?_)
              refine k_aload_n rfl ?_
              refine k_aload rfl ?_
              refine k_lload rfl ?_
              have t58 := h_0_0.x e9
              refine k_inv (P := (P_X2_assign d)) (Q := Q_X2_assign) rfl rfl rfl rfl (Nat.le_of_ble_eq_true rfl) (t58.rc (by decide)) ⟨_, _, _, rfl, H8, t58, t30, r31.rk⟩ (fun w59 σ60 q61 => ?_)
              obtain ⟨y62, rfl, H63, e64⟩ := q61
              refine k_st (st' := [.inr (.inl y62)]) rfl ?_
              refine k_lstore (ls' := [(6, .inr (.inl y62)), (0, .inr (.inr (some p0))), (1, .inr (.inr (some p1))), (4, .inr (.inl v25_4)), (8, .inl v25_8), (9, .inr (.inr (some b14)))]) rfl ?_
              refine k_nil ?_
              refine hB _ _ _ _ (kgoC (is := KX2_behindSwitch_90) rfl ?_)
              refine k_aload rfl ?_
              have t65 := t30.x e64
              obtain ⟨o68, e66, c67, t69, f70⟩ := cg275 H63.1 t65
              refine k_get kg275 t65 e66 ?_
              refine k_astore (ls' := [(9, .inr (.inr o68)), (6, .inr (.inl y62)), (0, .inr (.inr (some p0))), (1, .inr (.inr (some p1))), (4, .inr (.inl v25_4)), (8, .inl v25_8)]) rfl ?_
              refine k_goto ?_
              have r71 := r31.x t30 e64
              have X72 : ExC [94, 217, 218] σ0 σ7 := ExC.rf.tr (e9.mo (by decide))
              have X73 : ExC [94, 217, 218] σ0 σ60 := X72.tr (e64.mo (by decide))
              exact hW _ _ _ _ _ (List.forall_mem_cons.2 ⟨List.Mem.tail _ (List.Mem.tail _ (List.Mem.head _)), (List.forall_mem_cons.2 ⟨List.Mem.tail _ (List.Mem.tail _ (List.Mem.tail _ (List.Mem.head _))), (List.forall_mem_cons.2 ⟨List.Mem.tail _ (List.Mem.tail _ (List.Mem.tail _ (List.Mem.tail _ (List.Mem.head _)))), (List.forall_mem_cons.2 ⟨List.Mem.tail _ (List.Mem.head _), (List.forall_mem_cons.2 ⟨List.Mem.tail _ (List.Mem.tail _ (List.Mem.tail _ (List.Mem.tail _ (List.Mem.tail _ (List.Mem.head _))))), (List.forall_mem_cons.2 ⟨List.Mem.head _, fun _ h => absurd h List.not_mem_nil⟩)⟩)⟩)⟩)⟩)⟩) (ih25 (msNC (cnC σ0) o68) (by have qb := t65.1; have qc := (X73.cn (by decide) : cnC σ60 = cnC σ0); have qm := n25_; cases o68 with
                              | none => dsimp only [msNC] at qm ⊢; omega
                              | some bz => have := (t69 bz rfl).1; have qf := (f70 bz rfl).2; have qg := (show _ < bz from by first | exact qf | exact qf.1); dsimp only [msNC] at qm ⊢; omega) σ60 v25_4 y62 v25_8 o68 rfl H63 X73 (by omega) (by omega) t69 (fun b hb => r71.nx (f70 b hb).2.2))
            · refine k_nil ?_
              refine hB _ _ _ _ (kgoC (is := KX2_behindSwitch_50) rfl ?_)
              refine k_lload rfl ?_
              refine k_lload rfl ?_
              refine k_land (fun y74 => ?_)
              refine k_lstore (ls' := [(6, .inr (.inl y74)), (0, .inr (.inr (some p0))), (1, .inr (.inr (some p1))), (4, .inr (.inl v25_4)), (8, .inl v25_8), (9, .inr (.inr (some b14)))]) rfl ?_
              refine k_iload rfl ?_
              refine k_aload rfl ?_
              refine k_get kg270 t30 (congrArg (Sum.inl : Int32 → AvC) c33) ?_
              refine k_bipush (m := 63) rfl (fun x75 h76 => ?_)
              refine k_ic_ne (fun h77 => by exfalso; omega) (fun h77 => ?_)
              refine k_nil ?_
              refine hB _ _ _ _ (kgoC (is := KX2_behindSwitch_69) rfl ?_)
              refine k_iconst (m := 1) rfl (fun x78 h79 => ?_)
              refine k_goto ?_
              refine hB _ _ _ _ (kgoC (is := KX2_behindSwitch_74) rfl ?_)
              refine k_ior_b (b01C (by omega) (by omega)) (b01C (by omega) (by omega)) (fun x80 h81 h82 => ?_)
              refine k_istore (ls' := [(8, .inl x80), (6, .inr (.inl y74)), (0, .inr (.inr (some p0))), (1, .inr (.inr (some p1))), (4, .inr (.inl v25_4)), (9, .inr (.inr (some b14)))]) rfl ?_
              refine k_goto ?_
              refine hB _ _ _ _ (kgoC (is := KX2_behindSwitch_90) rfl ?_)
              refine k_aload rfl ?_
              obtain ⟨o85, e83, c84, t86, f87⟩ := cg275 H8.1 t30
              refine k_get kg275 t30 e83 ?_
              refine k_astore (ls' := [(9, .inr (.inr o85)), (8, .inl x80), (6, .inr (.inl y74)), (0, .inr (.inr (some p0))), (1, .inr (.inr (some p1))), (4, .inr (.inl v25_4))]) rfl ?_
              refine k_goto ?_
              have X88 : ExC [94, 217, 218] σ0 σ7 := ExC.rf.tr (e9.mo (by decide))
              exact hW _ _ _ _ _ (List.forall_mem_cons.2 ⟨List.Mem.tail _ (List.Mem.tail _ (List.Mem.tail _ (List.Mem.head _))), (List.forall_mem_cons.2 ⟨List.Mem.tail _ (List.Mem.tail _ (List.Mem.tail _ (List.Mem.tail _ (List.Mem.head _)))), (List.forall_mem_cons.2 ⟨List.Mem.tail _ (List.Mem.tail _ (List.Mem.tail _ (List.Mem.tail _ (List.Mem.tail _ (List.Mem.head _))))), (List.forall_mem_cons.2 ⟨List.Mem.tail _ (List.Mem.tail _ (List.Mem.head _)), (List.forall_mem_cons.2 ⟨List.Mem.tail _ (List.Mem.head _), (List.forall_mem_cons.2 ⟨List.Mem.head _, fun _ h => absurd h List.not_mem_nil⟩)⟩)⟩)⟩)⟩)⟩) (ih25 (msNC (cnC σ0) o85) (by have qb := t30.1; have qc := (X88.cn (by decide) : cnC σ7 = cnC σ0); have qm := n25_; cases o85 with
                              | none => dsimp only [msNC] at qm ⊢; omega
                              | some bz => have := (t86 bz rfl).1; have qf := (f87 bz rfl).2; have qg := (show _ < bz from by first | exact qf | exact qf.1); dsimp only [msNC] at qm ⊢; omega) σ7 v25_4 y74 x80 o85 rfl H8 X88 (by omega) (by omega) t86 (fun b hb => r31.nx (f87 b hb).2.2))
    refine hB _ _ _ _ (kgoC (is := KX2_behindSwitch_0) rfl ?_)
    refine k_aload_n rfl ?_
    refine k_aload_n rfl ?_
    obtain ⟨o91, e89, c90, t92⟩ := cg279 H0.1 h_1_0
    refine k_get kg279 h_1_0 e89 ?_
    refine k_lload_n rfl ?_
    refine k_inv (P := P_X2_behindExp) (Q := Q_X2_behindExp) rfl rfl rfl rfl (Nat.le_of_ble_eq_true rfl) (h_0_0.rc (by decide)) ⟨_, o91, _, rfl, H0, h_0_0, t92⟩ (fun w93 σ94 q95 => ?_)
    obtain ⟨y96, rfl, H97, e98⟩ := q95
    refine k_st (st' := [.inr (.inl y96)]) rfl ?_
    refine k_lstore (ls' := [(4, .inr (.inl y96)), (0, .inr (.inr (some p0))), (1, .inr (.inr (some p1))), (2, .inr (.inl p2))]) rfl ?_
    refine k_ldc2_w ?_
    refine k_lstore (ls' := [(6, .inr (.inl (Int64.ofInt (-1)))), (4, .inr (.inl y96)), (0, .inr (.inr (some p0))), (1, .inr (.inr (some p1))), (2, .inr (.inl p2))]) rfl ?_
    refine k_iconst (m := 0) rfl (fun x99 h100 => ?_)
    refine k_istore (ls' := [(8, .inl x99), (6, .inr (.inl (Int64.ofInt (-1)))), (4, .inr (.inl y96)), (0, .inr (.inr (some p0))), (1, .inr (.inr (some p1))), (2, .inr (.inl p2))]) rfl ?_
    refine k_aload_n rfl ?_
    have t101 := h_1_0.x e98
    obtain ⟨o104, e102, c103, t105, f106⟩ := cg276 H97.1 t101
    refine k_get kg276 t101 e102 ?_
    refine k_astore (ls' := [(9, .inr (.inr o104)), (8, .inl x99), (6, .inr (.inl (Int64.ofInt (-1)))), (4, .inr (.inl y96)), (0, .inr (.inr (some p0))), (1, .inr (.inr (some p1))), (2, .inr (.inl p2))]) rfl ?_
    refine k_nil ?_
    have r107 := q_0.x h_1_0 e98
    have c108 := (h_1_0.mi e98 (by decide)).trans c3
    have X109 : ExC [94, 217, 218] σ0 σ94 := ExC.rf.tr (e98.mo (by decide))
    exact hW _ _ _ _ _ (List.forall_mem_cons.2 ⟨List.Mem.tail _ (List.Mem.tail _ (List.Mem.tail _ (List.Mem.tail _ (List.Mem.head _)))), (List.forall_mem_cons.2 ⟨List.Mem.tail _ (List.Mem.tail _ (List.Mem.tail _ (List.Mem.tail _ (List.Mem.tail _ (List.Mem.head _))))), (List.forall_mem_cons.2 ⟨List.Mem.tail _ (List.Mem.tail _ (List.Mem.tail _ (List.Mem.head _))), (List.forall_mem_cons.2 ⟨List.Mem.tail _ (List.Mem.tail _ (List.Mem.head _)), (List.forall_mem_cons.2 ⟨List.Mem.tail _ (List.Mem.head _), (List.forall_mem_cons.2 ⟨List.Mem.head _, fun _ h => absurd h List.not_mem_nil⟩)⟩)⟩)⟩)⟩)⟩) (L25 _ σ94 y96 (Int64.ofInt (-1)) x99 o104 rfl H97 X109 (by omega) (by omega) t105 (fun b hb => r107.row (f106 b hb).2.2 c108 (by omega)))
theorem lg_X2_behindSwitch (d : Nat) : ∀ (As : List AvC) (σ : CsC), (P_X2_behindSwitch (d + 1)) As σ → lgC As ≤ rX2_behindSwitch.2.2.1 := by
  rintro As σ ⟨p0, p1, p2, rfl, -⟩
  exact Nat.le_of_ble_eq_true rfl
theorem s_X2_behindSwitch (l : Launch) (d : Nat) (h_X2_assign : CMetC l (8 * d + 24) 29 (P_X2_assign d) Q_X2_assign) : CMetC l (8 * (d + 1) + 22) 37 (P_X2_behindSwitch (d + 1)) Q_X2_behindSwitch :=
  CMetC.of KX2_behindSwitch [(39, P_X2_behindExp, Q_X2_behindExp), (29, (P_X2_assign d), Q_X2_assign)] hX2_behindSwitch (by decide) (by omega) okX2_behindSwitch (cc1C (m_X2_behindExp l) (by omega) (cc1C h_X2_assign (by omega) cc0C)) (lg_X2_behindSwitch d) (b_X2_behindSwitch d)

set_option maxRecDepth 100000 in
set_option maxHeartbeats 4000000 in
theorem b_X2_behindTry (d : Nat) : TbC KX2_behindTry [(29, (P_X2_assign d), Q_X2_assign), (31, (P_X2_assignBody (d + 1)), Q_X2_assignBody), (222, P_X11_bit, Q_X11_bit)] (P_X2_behindTry (d + 1)) Q_X2_behindTry := by
  · rintro As σ0 ⟨p0, p1, p2, rfl, H0, h_0_0, h_1_0, q_0⟩ hgr G hB hW
    change G 0 [(0, .inr (.inr (some p0))), (1, .inr (.inr (some p1))), (2, .inr (.inl p2))] [] σ0
    refine hB _ _ _ _ (kgoC (is := KX2_behindTry_0) rfl ?_)
    refine k_aload_n rfl ?_
    obtain ⟨o3, e1, c2, t4, f5⟩ := cg278 H0.1 h_1_0
    refine k_get kg278 h_1_0 e1 ?_
    refine k_ifnonnull (fun b6 h7 => ?_) (fun h7 => ?_)
    · subst h7
      have t8 := t4 b6 rfl
      have f9 := (f5 b6 rfl).2
      have r10 := q_0.ch f9.2
      refine hB _ _ _ _ (kgoC (is := KX2_behindTry_11) rfl ?_)
      refine k_aload_n rfl ?_
      refine k_aload_n rfl ?_
      refine k_get kg278 h_1_0 (congrArg (fun z : Option Nat => (Sum.inr (Sum.inr z) : AvC)) c2) ?_
      refine k_lload_n rfl ?_
      refine k_inv (P := (P_X2_assign d)) (Q := Q_X2_assign) rfl rfl rfl rfl (Nat.le_of_ble_eq_true rfl) (h_0_0.rc (by decide)) ⟨_, _, _, rfl, H0, h_0_0, t8, r10⟩ (fun w11 σ12 q13 => ?_)
      obtain ⟨y14, rfl, H15, e16⟩ := q13
      refine k_st (st' := [.inr (.inl y14)]) rfl ?_
      refine k_nil ?_
      refine hB _ _ _ _ (kgoC (is := KX2_behindTry_20) rfl ?_)
      refine k_lstore (ls' := [(4, .inr (.inl y14)), (0, .inr (.inr (some p0))), (1, .inr (.inr (some p1))), (2, .inr (.inl p2))]) rfl ?_
      refine k_aload_n rfl ?_
      refine k_aload_n rfl ?_
      refine k_lload_n rfl ?_
      have t17 := h_0_0.x e16
      have t18 := h_1_0.x e16
      have r19 := q_0.x h_1_0 e16
      refine k_inv (P := (P_X2_assignBody (d + 1))) (Q := Q_X2_assignBody) rfl rfl rfl rfl (Nat.le_of_ble_eq_true rfl) (t17.rc (by decide)) ⟨_, _, _, rfl, H15, t17, t18, r19⟩ (fun w20 σ21 q22 => ?_)
      obtain ⟨y23, rfl, H24, e25⟩ := q22
      refine k_st (st' := [.inr (.inl y23)]) rfl ?_
      refine k_lstore (ls' := [(6, .inr (.inl y23)), (4, .inr (.inl y14)), (0, .inr (.inr (some p0))), (1, .inr (.inr (some p1))), (2, .inr (.inl p2))]) rfl ?_
      refine k_aload_n rfl ?_
      have t26 := t18.x e25
      obtain ⟨o29, e27, c28, t30, f31⟩ := cg277 H24.1 t26
      refine k_get kg277 t26 e27 ?_
      refine k_ifnull (fun h33 => ?_) (fun b32 h33 => ?_)
      · subst h33
        refine hB _ _ _ _ (kgoC (is := KX2_behindTry_70) rfl ?_)
        refine k_lload rfl ?_
        refine k_lload rfl ?_
        refine k_lor (fun y34 => ?_)
        refine k_lreturn ?_
        have X35 : ExC [94, 217, 218] σ0 σ12 := ExC.rf.tr (e16.mo (by decide))
        have X36 : ExC [94, 217, 218] σ0 σ21 := X35.tr (e25.mo (by decide))
        exact ⟨_, rfl, H24, X36⟩
      · subst h33
        have t37 := t30 b32 rfl
        have f38 := (f31 b32 rfl).2
        have r40 := r19.x t18 e25
        have r39 := r40.ch f38.2
        refine k_nil ?_
        refine hB _ _ _ _ (kgoC (is := KX2_behindTry_37) rfl ?_)
        refine k_lload rfl ?_
        refine k_aload_n rfl ?_
        refine k_aload_n rfl ?_
        refine k_get kg277 t26 (congrArg (fun z : Option Nat => (Sum.inr (Sum.inr z) : AvC)) c28) ?_
        refine k_aload_n rfl ?_
        obtain ⟨x43, e41, c42, h44, h45⟩ := cg280 H24.1 t26
        refine k_get kg280 t26 e41 ?_
        refine k_if_lt (fun h46 => ?_) (fun h46 => ?_)
        · refine hB _ _ _ _ (kgoC (is := KX2_behindTry_63) rfl ?_)
          refine k_lload_n rfl ?_
          refine k_nil ?_
          refine hB _ _ _ _ (kgoC (is := KX2_behindTry_64) rfl ?_)
          have t47 := t17.x e25
          refine k_inv (P := (P_X2_assign d)) (Q := Q_X2_assign) rfl rfl rfl rfl (Nat.le_of_ble_eq_true rfl) (t47.rc (by decide)) ⟨_, _, _, rfl, H24, t47, t37, r39⟩ (fun w48 σ49 q50 => ?_)
          obtain ⟨y51, rfl, H52, e53⟩ := q50
          refine k_st (st' := [.inr (.inl y51), .inr (.inl y23)]) rfl ?_
          refine k_land (fun y54 => ?_)
          refine k_lstore (ls' := [(6, .inr (.inl y54)), (4, .inr (.inl y14)), (0, .inr (.inr (some p0))), (1, .inr (.inr (some p1))), (2, .inr (.inl p2))]) rfl ?_
          refine k_nil ?_
          refine hB _ _ _ _ (kgoC (is := KX2_behindTry_70) rfl ?_)
          refine k_lload rfl ?_
          refine k_lload rfl ?_
          refine k_lor (fun y55 => ?_)
          refine k_lreturn ?_
          have X56 : ExC [94, 217, 218] σ0 σ12 := ExC.rf.tr (e16.mo (by decide))
          have X57 : ExC [94, 217, 218] σ0 σ21 := X56.tr (e25.mo (by decide))
          have X58 : ExC [94, 217, 218] σ0 σ49 := X57.tr (e53.mo (by decide))
          exact ⟨_, rfl, H52, X58⟩
        · refine k_nil ?_
          refine hB _ _ _ _ (kgoC (is := KX2_behindTry_51) rfl ?_)
          refine k_lload_n rfl ?_
          refine k_aload_n rfl ?_
          refine k_get kg280 t26 (congrArg (Sum.inl : Int32 → AvC) c42) ?_
          refine k_stat (P := P_X11_bit) (Q := Q_X11_bit) rfl rfl (Nat.le_of_ble_eq_true rfl) rfl rfl (Nat.le_of_ble_eq_true rfl) ⟨_, rfl, H24⟩ (fun w59 σ60 q61 => ?_)
          obtain ⟨y62, rfl, rfl⟩ := q61
          refine k_st (st' := [.inr (.inl y62), .inr (.inl p2), .inr (.inr (some b32)), .inr (.inr (some p0)), .inr (.inl y23)]) rfl ?_
          refine k_lor (fun y63 => ?_)
          refine k_goto ?_
          refine hB _ _ _ _ (kgoC (is := KX2_behindTry_64) rfl ?_)
          have t64 := t17.x e25
          refine k_inv (P := (P_X2_assign d)) (Q := Q_X2_assign) rfl rfl rfl rfl (Nat.le_of_ble_eq_true rfl) (t64.rc (by decide)) ⟨_, _, _, rfl, H24, t64, t37, r39⟩ (fun w65 σ66 q67 => ?_)
          obtain ⟨y68, rfl, H69, e70⟩ := q67
          refine k_st (st' := [.inr (.inl y68), .inr (.inl y23)]) rfl ?_
          refine k_land (fun y71 => ?_)
          refine k_lstore (ls' := [(6, .inr (.inl y71)), (4, .inr (.inl y14)), (0, .inr (.inr (some p0))), (1, .inr (.inr (some p1))), (2, .inr (.inl p2))]) rfl ?_
          refine k_nil ?_
          refine hB _ _ _ _ (kgoC (is := KX2_behindTry_70) rfl ?_)
          refine k_lload rfl ?_
          refine k_lload rfl ?_
          refine k_lor (fun y72 => ?_)
          refine k_lreturn ?_
          have X73 : ExC [94, 217, 218] σ0 σ12 := ExC.rf.tr (e16.mo (by decide))
          have X74 : ExC [94, 217, 218] σ0 σ21 := X73.tr (e25.mo (by decide))
          have X75 : ExC [94, 217, 218] σ0 σ66 := X74.tr (e70.mo (by decide))
          exact ⟨_, rfl, H69, X75⟩
    · subst h7
      refine k_nil ?_
      refine hB _ _ _ _ (kgoC (is := KX2_behindTry_7) rfl ?_)
      refine k_lconst ?_
      refine k_goto ?_
      refine hB _ _ _ _ (kgoC (is := KX2_behindTry_20) rfl ?_)
      refine k_lstore (ls' := [(4, .inr (.inl (Int64.ofNat ((0 : Fin 2) : Nat)))), (0, .inr (.inr (some p0))), (1, .inr (.inr (some p1))), (2, .inr (.inl p2))]) rfl ?_
      refine k_aload_n rfl ?_
      refine k_aload_n rfl ?_
      refine k_lload_n rfl ?_
      refine k_inv (P := (P_X2_assignBody (d + 1))) (Q := Q_X2_assignBody) rfl rfl rfl rfl (Nat.le_of_ble_eq_true rfl) (h_0_0.rc (by decide)) ⟨_, _, _, rfl, H0, h_0_0, h_1_0, q_0⟩ (fun w76 σ77 q78 => ?_)
      obtain ⟨y79, rfl, H80, e81⟩ := q78
      refine k_st (st' := [.inr (.inl y79)]) rfl ?_
      refine k_lstore (ls' := [(6, .inr (.inl y79)), (4, .inr (.inl (Int64.ofNat ((0 : Fin 2) : Nat)))), (0, .inr (.inr (some p0))), (1, .inr (.inr (some p1))), (2, .inr (.inl p2))]) rfl ?_
      refine k_aload_n rfl ?_
      have t82 := h_1_0.x e81
      obtain ⟨o85, e83, c84, t86, f87⟩ := cg277 H80.1 t82
      refine k_get kg277 t82 e83 ?_
      refine k_ifnull (fun h89 => ?_) (fun b88 h89 => ?_)
      · subst h89
        refine hB _ _ _ _ (kgoC (is := KX2_behindTry_70) rfl ?_)
        refine k_lload rfl ?_
        refine k_lload rfl ?_
        refine k_lor (fun y90 => ?_)
        refine k_lreturn ?_
        have X91 : ExC [94, 217, 218] σ0 σ77 := ExC.rf.tr (e81.mo (by decide))
        exact ⟨_, rfl, H80, X91⟩
      · subst h89
        have t92 := t86 b88 rfl
        have f93 := (f87 b88 rfl).2
        have r95 := q_0.x h_1_0 e81
        have r94 := r95.ch f93.2
        refine k_nil ?_
        refine hB _ _ _ _ (kgoC (is := KX2_behindTry_37) rfl ?_)
        refine k_lload rfl ?_
        refine k_aload_n rfl ?_
        refine k_aload_n rfl ?_
        refine k_get kg277 t82 (congrArg (fun z : Option Nat => (Sum.inr (Sum.inr z) : AvC)) c84) ?_
        refine k_aload_n rfl ?_
        obtain ⟨x98, e96, c97, h99, h100⟩ := cg280 H80.1 t82
        refine k_get kg280 t82 e96 ?_
        refine k_if_lt (fun h101 => ?_) (fun h101 => ?_)
        · refine hB _ _ _ _ (kgoC (is := KX2_behindTry_63) rfl ?_)
          refine k_lload_n rfl ?_
          refine k_nil ?_
          refine hB _ _ _ _ (kgoC (is := KX2_behindTry_64) rfl ?_)
          have t102 := h_0_0.x e81
          refine k_inv (P := (P_X2_assign d)) (Q := Q_X2_assign) rfl rfl rfl rfl (Nat.le_of_ble_eq_true rfl) (t102.rc (by decide)) ⟨_, _, _, rfl, H80, t102, t92, r94⟩ (fun w103 σ104 q105 => ?_)
          obtain ⟨y106, rfl, H107, e108⟩ := q105
          refine k_st (st' := [.inr (.inl y106), .inr (.inl y79)]) rfl ?_
          refine k_land (fun y109 => ?_)
          refine k_lstore (ls' := [(6, .inr (.inl y109)), (4, .inr (.inl (Int64.ofNat ((0 : Fin 2) : Nat)))), (0, .inr (.inr (some p0))), (1, .inr (.inr (some p1))), (2, .inr (.inl p2))]) rfl ?_
          refine k_nil ?_
          refine hB _ _ _ _ (kgoC (is := KX2_behindTry_70) rfl ?_)
          refine k_lload rfl ?_
          refine k_lload rfl ?_
          refine k_lor (fun y110 => ?_)
          refine k_lreturn ?_
          have X111 : ExC [94, 217, 218] σ0 σ77 := ExC.rf.tr (e81.mo (by decide))
          have X112 : ExC [94, 217, 218] σ0 σ104 := X111.tr (e108.mo (by decide))
          exact ⟨_, rfl, H107, X112⟩
        · refine k_nil ?_
          refine hB _ _ _ _ (kgoC (is := KX2_behindTry_51) rfl ?_)
          refine k_lload_n rfl ?_
          refine k_aload_n rfl ?_
          refine k_get kg280 t82 (congrArg (Sum.inl : Int32 → AvC) c97) ?_
          refine k_stat (P := P_X11_bit) (Q := Q_X11_bit) rfl rfl (Nat.le_of_ble_eq_true rfl) rfl rfl (Nat.le_of_ble_eq_true rfl) ⟨_, rfl, H80⟩ (fun w113 σ114 q115 => ?_)
          obtain ⟨y116, rfl, rfl⟩ := q115
          refine k_st (st' := [.inr (.inl y116), .inr (.inl p2), .inr (.inr (some b88)), .inr (.inr (some p0)), .inr (.inl y79)]) rfl ?_
          refine k_lor (fun y117 => ?_)
          refine k_goto ?_
          refine hB _ _ _ _ (kgoC (is := KX2_behindTry_64) rfl ?_)
          have t118 := h_0_0.x e81
          refine k_inv (P := (P_X2_assign d)) (Q := Q_X2_assign) rfl rfl rfl rfl (Nat.le_of_ble_eq_true rfl) (t118.rc (by decide)) ⟨_, _, _, rfl, H80, t118, t92, r94⟩ (fun w119 σ120 q121 => ?_)
          obtain ⟨y122, rfl, H123, e124⟩ := q121
          refine k_st (st' := [.inr (.inl y122), .inr (.inl y79)]) rfl ?_
          refine k_land (fun y125 => ?_)
          refine k_lstore (ls' := [(6, .inr (.inl y125)), (4, .inr (.inl (Int64.ofNat ((0 : Fin 2) : Nat)))), (0, .inr (.inr (some p0))), (1, .inr (.inr (some p1))), (2, .inr (.inl p2))]) rfl ?_
          refine k_nil ?_
          refine hB _ _ _ _ (kgoC (is := KX2_behindTry_70) rfl ?_)
          refine k_lload rfl ?_
          refine k_lload rfl ?_
          refine k_lor (fun y126 => ?_)
          refine k_lreturn ?_
          have X127 : ExC [94, 217, 218] σ0 σ77 := ExC.rf.tr (e81.mo (by decide))
          have X128 : ExC [94, 217, 218] σ0 σ120 := X127.tr (e124.mo (by decide))
          exact ⟨_, rfl, H123, X128⟩
theorem lg_X2_behindTry (d : Nat) : ∀ (As : List AvC) (σ : CsC), (P_X2_behindTry (d + 1)) As σ → lgC As ≤ rX2_behindTry.2.2.1 := by
  rintro As σ ⟨p0, p1, p2, rfl, -⟩
  exact Nat.le_of_ble_eq_true rfl
theorem s_X2_behindTry (l : Launch) (d : Nat) (h_X2_assign : CMetC l (8 * d + 24) 29 (P_X2_assign d) Q_X2_assign) (h_X2_assignBody : CMetC l (8 * (d + 1) + 21) 31 (P_X2_assignBody (d + 1)) Q_X2_assignBody) : CMetC l (8 * (d + 1) + 22) 38 (P_X2_behindTry (d + 1)) Q_X2_behindTry :=
  CMetC.of KX2_behindTry [(29, (P_X2_assign d), Q_X2_assign), (31, (P_X2_assignBody (d + 1)), Q_X2_assignBody), (222, P_X11_bit, Q_X11_bit)] hX2_behindTry (by decide) (by omega) okX2_behindTry (cc1C h_X2_assign (by omega) (cc1C h_X2_assignBody (by omega) (cc1C (m_X11_bit l) (by omega) cc0C))) (lg_X2_behindTry d) (b_X2_behindTry d)

set_option maxRecDepth 100000 in
set_option maxHeartbeats 4000000 in
theorem b_X2_behind (d : Nat) : TbC KX2_behind [(30, (P_X2_assignRow d), Q_X2_assignRow), (31, (P_X2_assignBody (d + 1)), Q_X2_assignBody), (35, (P_X2_behindIf (d + 1)), Q_X2_behindIf), (36, (P_X2_behindLoop (d + 1)), Q_X2_behindLoop), (37, (P_X2_behindSwitch (d + 1)), Q_X2_behindSwitch), (34, P_X2_leadTo, Q_X2_leadTo), (39, P_X2_behindExp, Q_X2_behindExp), (38, (P_X2_behindTry (d + 1)), Q_X2_behindTry), (33, P_X2_behindTold, Q_X2_behindTold)] (P_X2_behind (d + 1)) Q_X2_behind := by
  · rintro As σ0 ⟨p0, p1, p2, rfl, H0, h_0_0, h_1_0, q_0⟩ hgr G hB hW
    change G 0 [(0, .inr (.inr (some p0))), (1, .inr (.inr (some p1))), (2, .inr (.inl p2))] [] σ0
    refine hB _ _ _ _ (kgoC (is := KX2_behind_0) rfl ?_)
    refine k_aload_n rfl ?_
    obtain ⟨x3, e1, c2, h4, h5⟩ := cg270 H0.1 h_1_0
    refine k_get kg270 h_1_0 e1 ?_
    refine k_lsw ?_
    refine k_swc (fun h6 => ?_) (fun h6 => ?_)
    · refine hB _ _ _ _ (kgoC (is := KX2_behind_152) rfl ?_)
      refine k_aload_n rfl ?_
      refine k_aload_n rfl ?_
      obtain ⟨o9, e7, c8, t10, f11⟩ := cg276 H0.1 h_1_0
      refine k_get kg276 h_1_0 e7 ?_
      refine k_lload_n rfl ?_
      refine k_inv (P := (P_X2_assignRow d)) (Q := Q_X2_assignRow) rfl rfl rfl rfl (Nat.le_of_ble_eq_true rfl) (h_0_0.rc (by decide)) ⟨_, o9, _, rfl, H0, h_0_0, t10, (fun b hb => q_0.row (f11 b hb).2.2 c2 (by omega))⟩ (fun w12 σ13 q14 => ?_)
      obtain ⟨y15, rfl, H16, e17⟩ := q14
      refine k_st (st' := [.inr (.inl y15)]) rfl ?_
      refine k_lreturn ?_
      have X18 : ExC [94, 217, 218] σ0 σ13 := ExC.rf.tr (e17.mo (by decide))
      exact ⟨_, rfl, H16, X18⟩
    refine k_swc (fun h19 => ?_) (fun h19 => ?_)
    · refine hB _ _ _ _ (kgoC (is := KX2_behind_203) rfl ?_)
      refine k_aload_n rfl ?_
      refine k_aload_n rfl ?_
      refine k_lload_n rfl ?_
      refine k_inv (P := (P_X2_assignBody (d + 1))) (Q := Q_X2_assignBody) rfl rfl rfl rfl (Nat.le_of_ble_eq_true rfl) (h_0_0.rc (by decide)) ⟨_, _, _, rfl, H0, h_0_0, h_1_0, q_0⟩ (fun w20 σ21 q22 => ?_)
      obtain ⟨y23, rfl, H24, e25⟩ := q22
      refine k_st (st' := [.inr (.inl y23)]) rfl ?_
      refine k_lstore (ls' := [(4, .inr (.inl y23)), (0, .inr (.inr (some p0))), (1, .inr (.inr (some p1))), (2, .inr (.inl p2))]) rfl ?_
      refine k_lload rfl ?_
      refine k_aload_n rfl ?_
      have t26 := h_1_0.x e25
      obtain ⟨y29, e27, c28⟩ := cg287 (σ := σ21) (a := p1)
      refine k_get kg287 t26 e27 ?_
      refine k_land (fun y30 => ?_)
      refine k_lreturn ?_
      have X31 : ExC [94, 217, 218] σ0 σ21 := ExC.rf.tr (e25.mo (by decide))
      exact ⟨_, rfl, H24, X31⟩
    refine k_swc (fun h32 => ?_) (fun h32 => ?_)
    · refine hB _ _ _ _ (kgoC (is := KX2_behind_219) rfl ?_)
      refine k_aload_n rfl ?_
      refine k_aload_n rfl ?_
      refine k_lload_n rfl ?_
      refine k_inv (P := (P_X2_behindIf (d + 1))) (Q := Q_X2_behindIf) rfl rfl rfl rfl (Nat.le_of_ble_eq_true rfl) (h_0_0.rc (by decide)) ⟨_, _, _, rfl, H0, h_0_0, h_1_0, q_0⟩ (fun w33 σ34 q35 => ?_)
      obtain ⟨y36, rfl, H37, e38⟩ := q35
      refine k_st (st' := [.inr (.inl y36)]) rfl ?_
      refine k_lreturn ?_
      have X39 : ExC [94, 217, 218] σ0 σ34 := ExC.rf.tr (e38.mo (by decide))
      exact ⟨_, rfl, H37, X39⟩
    refine k_swc (fun h40 => ?_) (fun h40 => ?_)
    · refine hB _ _ _ _ (kgoC (is := KX2_behind_226) rfl ?_)
      refine k_aload_n rfl ?_
      refine k_aload_n rfl ?_
      refine k_lload_n rfl ?_
      refine k_inv (P := (P_X2_behindLoop (d + 1))) (Q := Q_X2_behindLoop) rfl rfl rfl rfl (Nat.le_of_ble_eq_true rfl) (h_0_0.rc (by decide)) ⟨_, _, _, rfl, H0, h_0_0, h_1_0, q_0⟩ (fun w41 σ42 q43 => ?_)
      obtain ⟨y44, rfl, H45, e46⟩ := q43
      refine k_st (st' := [.inr (.inl y44)]) rfl ?_
      refine k_lreturn ?_
      have X47 : ExC [94, 217, 218] σ0 σ42 := ExC.rf.tr (e46.mo (by decide))
      exact ⟨_, rfl, H45, X47⟩
    refine k_swc (fun h48 => ?_) (fun h48 => ?_)
    · refine hB _ _ _ _ (kgoC (is := KX2_behind_226) rfl ?_)
      refine k_aload_n rfl ?_
      refine k_aload_n rfl ?_
      refine k_lload_n rfl ?_
      refine k_inv (P := (P_X2_behindLoop (d + 1))) (Q := Q_X2_behindLoop) rfl rfl rfl rfl (Nat.le_of_ble_eq_true rfl) (h_0_0.rc (by decide)) ⟨_, _, _, rfl, H0, h_0_0, h_1_0, q_0⟩ (fun w49 σ50 q51 => ?_)
      obtain ⟨y52, rfl, H53, e54⟩ := q51
      refine k_st (st' := [.inr (.inl y52)]) rfl ?_
      refine k_lreturn ?_
      have X55 : ExC [94, 217, 218] σ0 σ50 := ExC.rf.tr (e54.mo (by decide))
      exact ⟨_, rfl, H53, X55⟩
    refine k_swc (fun h56 => ?_) (fun h56 => ?_)
    · refine hB _ _ _ _ (kgoC (is := KX2_behind_226) rfl ?_)
      refine k_aload_n rfl ?_
      refine k_aload_n rfl ?_
      refine k_lload_n rfl ?_
      refine k_inv (P := (P_X2_behindLoop (d + 1))) (Q := Q_X2_behindLoop) rfl rfl rfl rfl (Nat.le_of_ble_eq_true rfl) (h_0_0.rc (by decide)) ⟨_, _, _, rfl, H0, h_0_0, h_1_0, q_0⟩ (fun w57 σ58 q59 => ?_)
      obtain ⟨y60, rfl, H61, e62⟩ := q59
      refine k_st (st' := [.inr (.inl y60)]) rfl ?_
      refine k_lreturn ?_
      have X63 : ExC [94, 217, 218] σ0 σ58 := ExC.rf.tr (e62.mo (by decide))
      exact ⟨_, rfl, H61, X63⟩
    refine k_swc (fun h64 => ?_) (fun h64 => ?_)
    · refine hB _ _ _ _ (kgoC (is := KX2_behind_233) rfl ?_)
      refine k_aload_n rfl ?_
      refine k_aload_n rfl ?_
      refine k_lload_n rfl ?_
      refine k_inv (P := (P_X2_behindSwitch (d + 1))) (Q := Q_X2_behindSwitch) rfl rfl rfl rfl (Nat.le_of_ble_eq_true rfl) (h_0_0.rc (by decide)) ⟨_, _, _, rfl, H0, h_0_0, h_1_0, q_0, (by rw [c2]; omega)⟩ (fun w65 σ66 q67 => ?_)
      obtain ⟨y68, rfl, H69, e70⟩ := q67
      refine k_st (st' := [.inr (.inl y68)]) rfl ?_
      refine k_lreturn ?_
      have X71 : ExC [94, 217, 218] σ0 σ66 := ExC.rf.tr (e70.mo (by decide))
      exact ⟨_, rfl, H69, X71⟩
    refine k_swc (fun h72 => ?_) (fun h72 => ?_)
    · refine hB _ _ _ _ (kgoC (is := KX2_behind_193) rfl ?_)
      refine k_aload_n rfl ?_
      refine k_aload_n rfl ?_
      refine k_lload_n rfl ?_
      refine k_inv (P := P_X2_leadTo) (Q := Q_X2_leadTo) rfl rfl rfl rfl (Nat.le_of_ble_eq_true rfl) (h_0_0.rc (by decide)) ⟨_, _, _, rfl, H0, h_0_0, h_1_0⟩ (fun w73 σ74 q75 => ?_)
      obtain ⟨rfl, H76, e77⟩ := q75
      refine k_st (st' := []) rfl ?_
      refine k_ldc2_w ?_
      refine k_lreturn ?_
      have X78 : ExC [94, 217, 218] σ0 σ74 := ExC.rf.tr (e77.mo (by decide))
      exact ⟨_, rfl, H76, X78⟩
    refine k_swc (fun h79 => ?_) (fun h79 => ?_)
    · refine hB _ _ _ _ (kgoC (is := KX2_behind_193) rfl ?_)
      refine k_aload_n rfl ?_
      refine k_aload_n rfl ?_
      refine k_lload_n rfl ?_
      refine k_inv (P := P_X2_leadTo) (Q := Q_X2_leadTo) rfl rfl rfl rfl (Nat.le_of_ble_eq_true rfl) (h_0_0.rc (by decide)) ⟨_, _, _, rfl, H0, h_0_0, h_1_0⟩ (fun w80 σ81 q82 => ?_)
      obtain ⟨rfl, H83, e84⟩ := q82
      refine k_st (st' := []) rfl ?_
      refine k_ldc2_w ?_
      refine k_lreturn ?_
      have X85 : ExC [94, 217, 218] σ0 σ81 := ExC.rf.tr (e84.mo (by decide))
      exact ⟨_, rfl, H83, X85⟩
    refine k_swc (fun h86 => ?_) (fun h86 => ?_)
    · refine hB _ _ _ _ (kgoC (is := KX2_behind_179) rfl ?_)
      refine k_aload_n rfl ?_
      refine k_aload_n rfl ?_
      obtain ⟨o89, e87, c88, t90⟩ := cg279 H0.1 h_1_0
      refine k_get kg279 h_1_0 e87 ?_
      refine k_lload_n rfl ?_
      refine k_inv (P := P_X2_behindExp) (Q := Q_X2_behindExp) rfl rfl rfl rfl (Nat.le_of_ble_eq_true rfl) (h_0_0.rc (by decide)) ⟨_, o89, _, rfl, H0, h_0_0, t90⟩ (fun w91 σ92 q93 => ?_)
      obtain ⟨y94, rfl, H95, e96⟩ := q93
      refine k_st (st' := [.inr (.inl y94)]) rfl ?_
      refine k_pop2 ?_
      refine k_ldc2_w ?_
      refine k_lreturn ?_
      have X97 : ExC [94, 217, 218] σ0 σ92 := ExC.rf.tr (e96.mo (by decide))
      exact ⟨_, rfl, H95, X97⟩
    refine k_swc (fun h98 => ?_) (fun h98 => ?_)
    · refine hB _ _ _ _ (kgoC (is := KX2_behind_179) rfl ?_)
      refine k_aload_n rfl ?_
      refine k_aload_n rfl ?_
      obtain ⟨o101, e99, c100, t102⟩ := cg279 H0.1 h_1_0
      refine k_get kg279 h_1_0 e99 ?_
      refine k_lload_n rfl ?_
      refine k_inv (P := P_X2_behindExp) (Q := Q_X2_behindExp) rfl rfl rfl rfl (Nat.le_of_ble_eq_true rfl) (h_0_0.rc (by decide)) ⟨_, o101, _, rfl, H0, h_0_0, t102⟩ (fun w103 σ104 q105 => ?_)
      obtain ⟨y106, rfl, H107, e108⟩ := q105
      refine k_st (st' := [.inr (.inl y106)]) rfl ?_
      refine k_pop2 ?_
      refine k_ldc2_w ?_
      refine k_lreturn ?_
      have X109 : ExC [94, 217, 218] σ0 σ104 := ExC.rf.tr (e108.mo (by decide))
      exact ⟨_, rfl, H107, X109⟩
    refine k_swc (fun h110 => ?_) (fun h110 => ?_)
    · refine hB _ _ _ _ (kgoC (is := KX2_behind_240) rfl ?_)
      refine k_aload_n rfl ?_
      refine k_aload_n rfl ?_
      refine k_lload_n rfl ?_
      refine k_inv (P := (P_X2_behindTry (d + 1))) (Q := Q_X2_behindTry) rfl rfl rfl rfl (Nat.le_of_ble_eq_true rfl) (h_0_0.rc (by decide)) ⟨_, _, _, rfl, H0, h_0_0, h_1_0, q_0⟩ (fun w111 σ112 q113 => ?_)
      obtain ⟨y114, rfl, H115, e116⟩ := q113
      refine k_st (st' := [.inr (.inl y114)]) rfl ?_
      refine k_lreturn ?_
      have X117 : ExC [94, 217, 218] σ0 σ112 := ExC.rf.tr (e116.mo (by decide))
      exact ⟨_, rfl, H115, X117⟩
    refine k_swc (fun h118 => ?_) (fun h118 => ?_)
    · refine hB _ _ _ _ (kgoC (is := KX2_behind_169) rfl ?_)
      refine k_aload_n rfl ?_
      refine k_aload_n rfl ?_
      obtain ⟨o121, e119, c120, t122⟩ := cg279 H0.1 h_1_0
      refine k_get kg279 h_1_0 e119 ?_
      refine k_lload_n rfl ?_
      refine k_inv (P := P_X2_behindExp) (Q := Q_X2_behindExp) rfl rfl rfl rfl (Nat.le_of_ble_eq_true rfl) (h_0_0.rc (by decide)) ⟨_, o121, _, rfl, H0, h_0_0, t122⟩ (fun w123 σ124 q125 => ?_)
      obtain ⟨y126, rfl, H127, e128⟩ := q125
      refine k_st (st' := [.inr (.inl y126)]) rfl ?_
      refine k_lreturn ?_
      have X129 : ExC [94, 217, 218] σ0 σ124 := ExC.rf.tr (e128.mo (by decide))
      exact ⟨_, rfl, H127, X129⟩
    refine k_swc (fun h130 => ?_) (fun h130 => ?_)
    · refine hB _ _ _ _ (kgoC (is := KX2_behind_162) rfl ?_)
      refine k_aload_n rfl ?_
      refine k_aload_n rfl ?_
      refine k_lload_n rfl ?_
      refine k_inv (P := P_X2_behindTold) (Q := Q_X2_behindTold) rfl rfl rfl rfl (Nat.le_of_ble_eq_true rfl) (h_0_0.rc (by decide)) ⟨_, _, _, rfl, H0, h_0_0, h_1_0⟩ (fun w131 σ132 q133 => ?_)
      obtain ⟨y134, rfl, H135, e136⟩ := q133
      refine k_st (st' := [.inr (.inl y134)]) rfl ?_
      refine k_lreturn ?_
      have X137 : ExC [94, 217, 218] σ0 σ132 := ExC.rf.tr (e136.mo (by decide))
      exact ⟨_, rfl, H135, X137⟩
    refine k_swc (fun h138 => ?_) (fun h138 => ?_)
    · refine hB _ _ _ _ (kgoC (is := KX2_behind_152) rfl ?_)
      refine k_aload_n rfl ?_
      refine k_aload_n rfl ?_
      obtain ⟨o141, e139, c140, t142, f143⟩ := cg276 H0.1 h_1_0
      refine k_get kg276 h_1_0 e139 ?_
      refine k_lload_n rfl ?_
      refine k_inv (P := (P_X2_assignRow d)) (Q := Q_X2_assignRow) rfl rfl rfl rfl (Nat.le_of_ble_eq_true rfl) (h_0_0.rc (by decide)) ⟨_, o141, _, rfl, H0, h_0_0, t142, (fun b hb => q_0.row (f143 b hb).2.2 c2 (by omega))⟩ (fun w144 σ145 q146 => ?_)
      obtain ⟨y147, rfl, H148, e149⟩ := q146
      refine k_st (st' := [.inr (.inl y147)]) rfl ?_
      refine k_lreturn ?_
      have X150 : ExC [94, 217, 218] σ0 σ145 := ExC.rf.tr (e149.mo (by decide))
      exact ⟨_, rfl, H148, X150⟩
    refine k_swc (fun h151 => ?_) (fun h151 => ?_)
    · refine hB _ _ _ _ (kgoC (is := KX2_behind_162) rfl ?_)
      refine k_aload_n rfl ?_
      refine k_aload_n rfl ?_
      refine k_lload_n rfl ?_
      refine k_inv (P := P_X2_behindTold) (Q := Q_X2_behindTold) rfl rfl rfl rfl (Nat.le_of_ble_eq_true rfl) (h_0_0.rc (by decide)) ⟨_, _, _, rfl, H0, h_0_0, h_1_0⟩ (fun w152 σ153 q154 => ?_)
      obtain ⟨y155, rfl, H156, e157⟩ := q154
      refine k_st (st' := [.inr (.inl y155)]) rfl ?_
      refine k_lreturn ?_
      have X158 : ExC [94, 217, 218] σ0 σ153 := ExC.rf.tr (e157.mo (by decide))
      exact ⟨_, rfl, H156, X158⟩
    refine k_swc (fun h159 => ?_) (fun h159 => ?_)
    · refine hB _ _ _ _ (kgoC (is := KX2_behind_169) rfl ?_)
      refine k_aload_n rfl ?_
      refine k_aload_n rfl ?_
      obtain ⟨o162, e160, c161, t163⟩ := cg279 H0.1 h_1_0
      refine k_get kg279 h_1_0 e160 ?_
      refine k_lload_n rfl ?_
      refine k_inv (P := P_X2_behindExp) (Q := Q_X2_behindExp) rfl rfl rfl rfl (Nat.le_of_ble_eq_true rfl) (h_0_0.rc (by decide)) ⟨_, o162, _, rfl, H0, h_0_0, t163⟩ (fun w164 σ165 q166 => ?_)
      obtain ⟨y167, rfl, H168, e169⟩ := q166
      refine k_st (st' := [.inr (.inl y167)]) rfl ?_
      refine k_lreturn ?_
      have X170 : ExC [94, 217, 218] σ0 σ165 := ExC.rf.tr (e169.mo (by decide))
      exact ⟨_, rfl, H168, X170⟩
    refine k_swn ?_
    refine hB _ _ _ _ (kgoC (is := KX2_behind_247) rfl ?_)
    refine k_lload_n rfl ?_
    refine k_lreturn ?_
    exact ⟨_, rfl, H0, (ExC.rf : ExC [94, 217, 218] σ0 σ0)⟩
theorem lg_X2_behind (d : Nat) : ∀ (As : List AvC) (σ : CsC), (P_X2_behind (d + 1)) As σ → lgC As ≤ rX2_behind.2.2.1 := by
  rintro As σ ⟨p0, p1, p2, rfl, -⟩
  exact Nat.le_of_ble_eq_true rfl
theorem s_X2_behind (l : Launch) (d : Nat) (h_X2_assignRow : CMetC l (8 * d + 25) 30 (P_X2_assignRow d) Q_X2_assignRow) (h_X2_assignBody : CMetC l (8 * (d + 1) + 21) 31 (P_X2_assignBody (d + 1)) Q_X2_assignBody) (h_X2_behindIf : CMetC l (8 * (d + 1) + 22) 35 (P_X2_behindIf (d + 1)) Q_X2_behindIf) (h_X2_behindLoop : CMetC l (8 * (d + 1) + 22) 36 (P_X2_behindLoop (d + 1)) Q_X2_behindLoop) (h_X2_behindSwitch : CMetC l (8 * (d + 1) + 22) 37 (P_X2_behindSwitch (d + 1)) Q_X2_behindSwitch) (h_X2_behindTry : CMetC l (8 * (d + 1) + 22) 38 (P_X2_behindTry (d + 1)) Q_X2_behindTry) : CMetC l (8 * (d + 1) + 23) 32 (P_X2_behind (d + 1)) Q_X2_behind :=
  CMetC.of KX2_behind [(30, (P_X2_assignRow d), Q_X2_assignRow), (31, (P_X2_assignBody (d + 1)), Q_X2_assignBody), (35, (P_X2_behindIf (d + 1)), Q_X2_behindIf), (36, (P_X2_behindLoop (d + 1)), Q_X2_behindLoop), (37, (P_X2_behindSwitch (d + 1)), Q_X2_behindSwitch), (34, P_X2_leadTo, Q_X2_leadTo), (39, P_X2_behindExp, Q_X2_behindExp), (38, (P_X2_behindTry (d + 1)), Q_X2_behindTry), (33, P_X2_behindTold, Q_X2_behindTold)] hX2_behind (by decide) (by omega) okX2_behind (cc1C h_X2_assignRow (by omega) (cc1C h_X2_assignBody (by omega) (cc1C h_X2_behindIf (by omega) (cc1C h_X2_behindLoop (by omega) (cc1C h_X2_behindSwitch (by omega) (cc1C (m_X2_leadTo l) (by omega) (cc1C (m_X2_behindExp l) (by omega) (cc1C h_X2_behindTry (by omega) (cc1C (m_X2_behindTold l) (by omega) cc0C))))))))) (lg_X2_behind d) (b_X2_behind d)

set_option maxRecDepth 100000 in
set_option maxHeartbeats 4000000 in
theorem b_X2_assign (d : Nat) : TbC KX2_assign [(32, (P_X2_behind (d + 1)), Q_X2_behind)] (P_X2_assign (d + 1)) Q_X2_assign := by
  · rintro As σ0 ⟨p0, p1, p2, rfl, H0, h_0_0, h_1_0, q_0⟩ hgr G hB hW
    change G 0 [(0, .inr (.inr (some p0))), (1, .inr (.inr (some p1))), (2, .inr (.inl p2))] [] σ0
    refine hB _ _ _ _ (kgoC (is := KX2_assign_0) rfl ?_)
    refine k_aload_n rfl ?_
    refine k_lload_n rfl ?_
    refine k_putL kg285 H0 h_1_0 fk285 (fun σ1 H2 e3 c4 => ?_)
    refine k_aload_n rfl ?_
    refine k_aload_n rfl ?_
    have t5 := h_1_0.x e3
    obtain ⟨x8, e6, c7, h9, h10⟩ := cg272 H2.1 t5
    refine k_get kg272 t5 e6 ?_
    refine k_bipush (m := 20) rfl (fun x11 h12 => ?_)
    refine k_ic_le (fun h13 => ?_) (fun h13 => ?_)
    · refine hB _ _ _ _ (kgoC (is := KX2_assign_19) rfl ?_)
      refine k_aload_n rfl ?_
      refine k_aload_n rfl ?_
      refine k_lload_n rfl ?_
      have t14 := h_0_0.x e3
      have r15 := q_0.x h_1_0 e3
      refine k_inv (P := (P_X2_behind (d + 1))) (Q := Q_X2_behind) rfl rfl rfl rfl (Nat.le_of_ble_eq_true rfl) (t14.rc (by decide)) ⟨_, _, _, rfl, H2, t14, t5, r15⟩ (fun w16 σ17 q18 => ?_)
      obtain ⟨y19, rfl, H20, e21⟩ := q18
      refine k_st (st' := [.inr (.inl y19), .inr (.inr (some p1))]) rfl ?_
      refine k_nil ?_
      refine hB _ _ _ _ (kgoC (is := KX2_assign_25) rfl ?_)
      have t22 := t5.x e21
      refine k_putL kg286 H20 t22 fk286 (fun σ23 H24 e25 c26 => ?_)
      refine k_aload_n rfl ?_
      have t27 := t22.x e25
      obtain ⟨y30, e28, c29⟩ := cg286 (σ := σ23) (a := p1)
      refine k_get kg286 t27 e28 ?_
      refine k_lreturn ?_
      have X31 : ExC [94, 217, 218] σ0 σ1 := ExC.rf.tr (e3.mo (by decide))
      have X32 : ExC [94, 217, 218] σ0 σ17 := X31.tr (e21.mo (by decide))
      have X33 : ExC [94, 217, 218] σ0 σ23 := X32.tr (e25.mo (by decide))
      exact ⟨_, rfl, H24, X33⟩
    · refine k_nil ?_
      refine hB _ _ _ _ (kgoC (is := KX2_assign_15) rfl ?_)
      refine k_lload_n rfl ?_
      refine k_goto ?_
      refine hB _ _ _ _ (kgoC (is := KX2_assign_25) rfl ?_)
      refine k_putL kg286 H2 t5 fk286 (fun σ34 H35 e36 c37 => ?_)
      refine k_aload_n rfl ?_
      have t38 := t5.x e36
      obtain ⟨y41, e39, c40⟩ := cg286 (σ := σ34) (a := p1)
      refine k_get kg286 t38 e39 ?_
      refine k_lreturn ?_
      have X42 : ExC [94, 217, 218] σ0 σ1 := ExC.rf.tr (e3.mo (by decide))
      have X43 : ExC [94, 217, 218] σ0 σ34 := X42.tr (e36.mo (by decide))
      exact ⟨_, rfl, H35, X43⟩
theorem lg_X2_assign (d : Nat) : ∀ (As : List AvC) (σ : CsC), (P_X2_assign (d + 1)) As σ → lgC As ≤ rX2_assign.2.2.1 := by
  rintro As σ ⟨p0, p1, p2, rfl, -⟩
  exact Nat.le_of_ble_eq_true rfl
theorem s_X2_assign (l : Launch) (d : Nat) (h_X2_behind : CMetC l (8 * (d + 1) + 23) 32 (P_X2_behind (d + 1)) Q_X2_behind) : CMetC l (8 * (d + 1) + 24) 29 (P_X2_assign (d + 1)) Q_X2_assign :=
  CMetC.of KX2_assign [(32, (P_X2_behind (d + 1)), Q_X2_behind)] hX2_assign (by decide) (by omega) okX2_assign (cc1C h_X2_behind (by omega) cc0C) (lg_X2_assign d) (b_X2_assign d)

set_option maxRecDepth 100000 in
set_option maxHeartbeats 4000000 in
theorem b_X2_assignRow (d : Nat) : TbC KX2_assignRow [(29, (P_X2_assign d), Q_X2_assign)] (P_X2_assignRow d) Q_X2_assignRow := by
  · rintro As σ0 ⟨p0, p1, p2, rfl, H0, h_0_0, h_1_0, q_0⟩ hgr G hB hW
    change G 0 [(0, .inr (.inr (some p0))), (1, .inr (.inr p1)), (2, .inr (.inl p2))] [] σ0
    have L6 : ∀ (n6 : Nat), ∀ (σ1 : CsC) (v6_4 : Int64) (v6_6 : Option Nat), msNC (cnC σ0) v6_6 = n6 → HIC σ1 → ExC [94, 217, 218] σ0 σ1 → OtC σ1 v6_6 9 → (∀ b, v6_6 = some b → RowC σ1 b d) → G 6 [(0, .inr (.inr (some p0))), (4, .inr (.inl v6_4)), (6, .inr (.inr v6_6))] [] σ1 := by
      intro n6
      induction n6 using Nat.strongRecOn with
      | _ n6 ih6 =>
        intro σ1 v6_4 v6_6 n6_ H2 e3 h4 r5
        refine hB _ _ _ _ (kgoC (is := KX2_assignRow_6) rfl ?_)
        refine k_aload rfl ?_
        refine k_ifnull (fun h7 => ?_) (fun b6 h7 => ?_)
        · subst h7
          refine hB _ _ _ _ (kgoC (is := KX2_assignRow_31) rfl ?_)
          refine k_lload rfl ?_
          refine k_lreturn ?_
          have X8 : ExC [94, 217, 218] σ0 σ1 := ExC.rf.tr (e3.mo (by decide))
          exact ⟨_, rfl, H2, X8⟩
        · subst h7
          have t9 := h4 b6 rfl
          have r10 := r5 b6 rfl
          refine k_nil ?_
          refine hB _ _ _ _ (kgoC (is := KX2_assignRow_11) rfl ?_)
          refine k_aload_n rfl ?_
          refine k_aload rfl ?_
          refine k_lload rfl ?_
          have t11 := h_0_0.x e3
          refine k_inv (P := (P_X2_assign d)) (Q := Q_X2_assign) rfl rfl rfl rfl (Nat.le_of_ble_eq_true rfl) (t11.rc (by decide)) ⟨_, _, _, rfl, H2, t11, t9, r10.rk⟩ (fun w12 σ13 q14 => ?_)
          obtain ⟨y15, rfl, H16, e17⟩ := q14
          refine k_st (st' := [.inr (.inl y15)]) rfl ?_
          refine k_lstore (ls' := [(4, .inr (.inl y15)), (0, .inr (.inr (some p0))), (6, .inr (.inr (some b6)))]) rfl ?_
          refine k_aload rfl ?_
          have t18 := t9.x e17
          obtain ⟨o21, e19, c20, t22, f23⟩ := cg275 H16.1 t18
          refine k_get kg275 t18 e19 ?_
          refine k_astore (ls' := [(6, .inr (.inr o21)), (4, .inr (.inl y15)), (0, .inr (.inr (some p0)))]) rfl ?_
          refine k_goto ?_
          have r24 := r10.x t9 e17
          have X25 : ExC [94, 217, 218] σ0 σ1 := ExC.rf.tr (e3.mo (by decide))
          have X26 : ExC [94, 217, 218] σ0 σ13 := X25.tr (e17.mo (by decide))
          exact hW _ _ _ _ _ (List.forall_mem_cons.2 ⟨List.Mem.tail _ (List.Mem.tail _ (List.Mem.head _)), (List.forall_mem_cons.2 ⟨List.Mem.tail _ (List.Mem.head _), (List.forall_mem_cons.2 ⟨List.Mem.head _, fun _ h => absurd h List.not_mem_nil⟩)⟩)⟩) (ih6 (msNC (cnC σ0) o21) (by have qb := t18.1; have qc := (X26.cn (by decide) : cnC σ13 = cnC σ0); have qm := n6_; cases o21 with
                      | none => dsimp only [msNC] at qm ⊢; omega
                      | some bz => have := (t22 bz rfl).1; have qf := (f23 bz rfl).2; have qg := (show _ < bz from by first | exact qf | exact qf.1); dsimp only [msNC] at qm ⊢; omega) σ13 y15 o21 rfl H16 X26 t22 (fun b hb => r24.nx (f23 b hb).2.2))
    refine hB _ _ _ _ (kgoC (is := KX2_assignRow_0) rfl ?_)
    refine k_lload_n rfl ?_
    refine k_lstore (ls' := [(4, .inr (.inl p2)), (0, .inr (.inr (some p0))), (1, .inr (.inr p1)), (2, .inr (.inl p2))]) rfl ?_
    refine k_aload_n rfl ?_
    refine k_astore (ls' := [(6, .inr (.inr p1)), (4, .inr (.inl p2)), (0, .inr (.inr (some p0))), (1, .inr (.inr p1)), (2, .inr (.inl p2))]) rfl ?_
    refine k_nil ?_
    exact hW _ _ _ _ _ (List.forall_mem_cons.2 ⟨List.Mem.tail _ (List.Mem.tail _ (List.Mem.head _)), (List.forall_mem_cons.2 ⟨List.Mem.tail _ (List.Mem.head _), (List.forall_mem_cons.2 ⟨List.Mem.head _, fun _ h => absurd h List.not_mem_nil⟩)⟩)⟩) (L6 _ σ0 p2 p1 rfl H0 ExC.rf h_1_0 q_0)
theorem lg_X2_assignRow (d : Nat) : ∀ (As : List AvC) (σ : CsC), (P_X2_assignRow d) As σ → lgC As ≤ rX2_assignRow.2.2.1 := by
  rintro As σ ⟨p0, p1, p2, rfl, -⟩
  exact Nat.le_of_ble_eq_true rfl
theorem s_X2_assignRow (l : Launch) (d : Nat) (h_X2_assign : CMetC l (8 * d + 24) 29 (P_X2_assign d) Q_X2_assign) : CMetC l (8 * d + 25) 30 (P_X2_assignRow d) Q_X2_assignRow :=
  CMetC.of KX2_assignRow [(29, (P_X2_assign d), Q_X2_assign)] hX2_assignRow (by decide) (by omega) okX2_assignRow (cc1C h_X2_assign (by omega) cc0C) (lg_X2_assignRow d) (b_X2_assignRow d)

set_option maxRecDepth 100000 in
set_option maxHeartbeats 4000000 in
theorem b_X0_layBody (d : Nat) : TbC KX0_layBody [(5, (P_X0_layRow d), Q_X0_layRow)] (P_X0_layBody (d + 1)) Q_X0_layBody := by
  · rintro As σ0 ⟨p0, p1, rfl, H0, h_0_0, h_1_0, q_0, q_1⟩ hgr G hB hW
    change G 0 [(0, .inr (.inr (some p0))), (1, .inr (.inr (some p1)))] [] σ0
    obtain ⟨x1, e2, c3, h4, h5⟩ := cg270 H0.1 h_1_0
    have h6 : ¬ x1.toInt = 68 := by rw [← c3]; exact q_1
    refine hB _ _ _ _ (kgoC (is := KX0_layBody_0) rfl ?_)
    refine k_aload_n rfl ?_
    refine k_aload_n rfl ?_
    obtain ⟨x9, e7, c8, h10, h11⟩ := cg34 H0.1 h_0_0
    refine k_get kg34 h_0_0 e7 ?_
    refine k_putI kp289 H0 h_1_0 (Or.inl fk289) (tiC x9).1 (tiC x9).2 (fun σ12 H13 e14 c15 => ?_)
    refine k_aload_n rfl ?_
    refine k_aload_n rfl ?_
    have t16 := h_1_0.x e14
    obtain ⟨o19, e17, c18, t20, f21⟩ := cg276 H13.1 t16
    refine k_get kg276 t16 e17 ?_
    have t22 := h_0_0.x e14
    have r23 := q_0.x h_1_0 e14
    have c24 := (h_1_0.mi e14 (by decide)).trans c3
    refine k_inv (P := (P_X0_layRow d)) (Q := Q_X0_layRow) rfl rfl rfl rfl (Nat.le_of_ble_eq_true rfl) (t22.rc (by decide)) ⟨_, o19, rfl, H13, t22, t20, (fun b hb => r23.row (f21 b hb).2.2 c24 (by omega))⟩ (fun w25 σ26 q27 => ?_)
    obtain ⟨rfl, H28, e29⟩ := q27
    refine k_st (st' := []) rfl ?_
    refine k_aload_n rfl ?_
    refine k_aload_n rfl ?_
    have t30 := t22.x e29
    have c31 := (h_0_0.mi e14 (by decide)).trans c8
    obtain ⟨x34, e32, c33, h35, h36⟩ := cg34 H28.1 t30
    refine k_get kg34 t30 e32 ?_
    have t37 := t16.x e29
    refine k_putI kp290 H28 t37 (Or.inl fk290) (tiC x34).1 (tiC x34).2 (fun σ38 H39 e40 c41 => ?_)
    refine k_return ?_
    have X42 : ExC [34, 36, 77, 289, 290] σ0 σ12 := ExC.rf.tr (e14.mo (by decide))
    have X43 : ExC [34, 36, 77, 289, 290] σ0 σ26 := X42.tr (e29.mo (by decide))
    have X44 : ExC [34, 36, 77, 289, 290] σ0 σ38 := X43.tr (e40.mo (by decide))
    exact ⟨rfl, H39, X44⟩
theorem lg_X0_layBody (d : Nat) : ∀ (As : List AvC) (σ : CsC), (P_X0_layBody (d + 1)) As σ → lgC As ≤ rX0_layBody.2.2.1 := by
  rintro As σ ⟨p0, p1, rfl, -⟩
  exact Nat.le_of_ble_eq_true rfl
theorem s_X0_layBody (l : Launch) (d : Nat) (h_X0_layRow : CMetC l (8 * d + 25) 5 (P_X0_layRow d) Q_X0_layRow) : CMetC l (8 * (d + 1) + 21) 4 (P_X0_layBody (d + 1)) Q_X0_layBody :=
  CMetC.of KX0_layBody [(5, (P_X0_layRow d), Q_X0_layRow)] hX0_layBody (by decide) (by omega) okX0_layBody (cc1C h_X0_layRow (by omega) cc0C) (lg_X0_layBody d) (b_X0_layBody d)

set_option maxRecDepth 100000 in
set_option maxHeartbeats 4000000 in
theorem b_X0_layIf (d : Nat) : TbC KX0_layIf [(15, P_X0_layExp, Q_X0_layExp), (2, P_X0_put, Q_X0_put), (7, (P_X0_layInner d), Q_X0_layInner), (6, (P_X0_layStatement d), Q_X0_layStatement)] (P_X0_layIf (d + 1)) Q_X0_layIf := by
  · rintro As σ0 ⟨p0, p1, rfl, H0, h_0_0, h_1_0, q_0⟩ hgr G hB hW
    change G 0 [(0, .inr (.inr (some p0))), (1, .inr (.inr (some p1)))] [] σ0
    refine hB _ _ _ _ (kgoC (is := KX0_layIf_0) rfl ?_)
    refine k_aload_n rfl ?_
    refine k_aload_n rfl ?_
    obtain ⟨o3, e1, c2, t4⟩ := cg279 H0.1 h_1_0
    refine k_get kg279 h_1_0 e1 ?_
    refine k_inv (P := P_X0_layExp) (Q := Q_X0_layExp) rfl rfl rfl rfl (Nat.le_of_ble_eq_true rfl) (h_0_0.rc (by decide)) ⟨_, o3, rfl, H0, h_0_0, t4⟩ (fun w5 σ6 q7 => ?_)
    obtain ⟨rfl, H8, e9⟩ := q7
    refine k_st (st' := []) rfl ?_
    refine k_aload_n rfl ?_
    refine k_bipush (m := 11) rfl (fun x10 h11 => ?_)
    refine k_aconst_null ?_
    have t12 := h_0_0.x e9
    refine k_inv (P := P_X0_put) (Q := Q_X0_put) rfl rfl rfl rfl (Nat.le_of_ble_eq_true rfl) (t12.rc (by decide)) ⟨_, _, none, rfl, H8, t12, OtC.n⟩ (fun w13 σ14 q15 => ?_)
    obtain ⟨x16, rfl, H17, e18, h19, h20⟩ := q15
    refine k_st (st' := [.inl x16]) rfl ?_
    refine k_istore_n (ls' := [(2, .inl x16), (0, .inr (.inr (some p0))), (1, .inr (.inr (some p1)))]) rfl ?_
    refine k_aload_n rfl ?_
    refine k_aload_n rfl ?_
    have t21 := h_1_0.x e9
    have t22 := t21.x e18
    obtain ⟨o25, e23, c24, t26, f27⟩ := cg276 H17.1 t22
    refine k_get kg276 t22 e23 ?_
    have t28 := t12.x e18
    have r29 := q_0.x h_1_0 e9
    have r30 := r29.x t21 e18
    refine k_inv (P := (P_X0_layInner d)) (Q := Q_X0_layInner) rfl rfl rfl rfl (Nat.le_of_ble_eq_true rfl) (t28.rc (by decide)) ⟨_, o25, rfl, H17, t28, t26, (fun b hb => r30.ch (f27 b hb).2.2)⟩ (fun w31 σ32 q33 => ?_)
    obtain ⟨rfl, H34, e35⟩ := q33
    refine k_st (st' := []) rfl ?_
    refine k_aload_n rfl ?_
    have t36 := t22.x e35
    obtain ⟨o39, e37, c38, t40, f41⟩ := cg277 H34.1 t36
    refine k_get kg277 t36 e37 ?_
    refine k_ifnull (fun h43 => ?_) (fun b42 h43 => ?_)
    · subst h43
      refine hB _ _ _ _ (kgoC (is := KX0_layIf_70) rfl ?_)
      refine k_aload_n rfl ?_
      have t44 := t28.x e35
      obtain ⟨a47, e45, c46, t48, l49, l50⟩ := cg31 H34.1 t44
      refine k_get kg31 t44 e45 ?_
      refine k_iload_n rfl ?_
      refine k_aload_n rfl ?_
      obtain ⟨x53, e51, c52, h54, h55⟩ := cg34 H34.1 t44
      refine k_get kg34 t44 e51 ?_
      refine k_iastore H34 t48 l50 (by omega) (by omega) (fun σ56 H57 e58 => ?_)
      refine k_nil ?_
      refine hB _ _ _ _ (kgoC (is := KX0_layIf_80) rfl ?_)
      refine k_return ?_
      have X59 : ExC [34, 36, 77, 289, 290] σ0 σ6 := ExC.rf.tr (e9.mo (by decide))
      have X60 : ExC [34, 36, 77, 289, 290] σ0 σ14 := X59.tr (e18.mo (by decide))
      have X61 : ExC [34, 36, 77, 289, 290] σ0 σ32 := X60.tr (e35.mo (by decide))
      have X62 : ExC [34, 36, 77, 289, 290] σ0 σ56 := X61.tr (e58.mo (by decide))
      exact ⟨rfl, H57, X62⟩
    · subst h43
      have t63 := t40 b42 rfl
      have f64 := (f41 b42 rfl).2
      have r66 := r30.x t22 e35
      have r65 := r66.ch f64.2
      refine k_nil ?_
      refine hB _ _ _ _ (kgoC (is := KX0_layIf_31) rfl ?_)
      refine k_aload_n rfl ?_
      refine k_bipush (m := 10) rfl (fun x67 h68 => ?_)
      refine k_aconst_null ?_
      have t69 := t28.x e35
      refine k_inv (P := P_X0_put) (Q := Q_X0_put) rfl rfl rfl rfl (Nat.le_of_ble_eq_true rfl) (t69.rc (by decide)) ⟨_, _, none, rfl, H34, t69, OtC.n⟩ (fun w70 σ71 q72 => ?_)
      obtain ⟨x73, rfl, H74, e75, h76, h77⟩ := q72
      refine k_st (st' := [.inl x73]) rfl ?_
      refine k_istore_n (ls' := [(3, .inl x73), (2, .inl x16), (0, .inr (.inr (some p0))), (1, .inr (.inr (some p1)))]) rfl ?_
      refine k_aload_n rfl ?_
      have t78 := t69.x e75
      obtain ⟨a81, e79, c80, t82, l83, l84⟩ := cg31 H74.1 t78
      refine k_get kg31 t78 e79 ?_
      refine k_iload_n rfl ?_
      refine k_aload_n rfl ?_
      obtain ⟨x87, e85, c86, h88, h89⟩ := cg34 H74.1 t78
      refine k_get kg34 t78 e85 ?_
      refine k_iastore H74 t82 l84 (by omega) (by omega) (fun σ90 H91 e92 => ?_)
      refine k_aload_n rfl ?_
      refine k_aload_n rfl ?_
      have t93 := t36.x e75
      have t94 := t93.x e92
      have c95 := (t36.mr e75 (by decide)).trans c38
      have c96 := (t93.mr e92 (by decide)).trans c95
      refine k_get kg277 t94 (congrArg (fun z : Option Nat => (Sum.inr (Sum.inr z) : AvC)) c96) ?_
      have t97 := t78.x e92
      have t98 := t63.x e75
      have t99 := t98.x e92
      have r100 := r65.x t63 e75
      have r101 := r100.x t98 e92
      refine k_inv (P := (P_X0_layStatement d)) (Q := Q_X0_layStatement) rfl rfl rfl rfl (Nat.le_of_ble_eq_true rfl) (t97.rc (by decide)) ⟨_, _, rfl, H91, t97, t99, r101⟩ (fun w102 σ103 q104 => ?_)
      obtain ⟨rfl, H105, e106⟩ := q104
      refine k_st (st' := []) rfl ?_
      refine k_aload_n rfl ?_
      have t107 := t97.x e106
      have c108 := (t78.mr e92 (by decide)).trans c80
      have c109 := (t97.mr e106 (by decide)).trans c108
      refine k_get kg31 t107 (congrArg (fun z : Option Nat => (Sum.inr (Sum.inr z) : AvC)) c109) ?_
      refine k_iload_n rfl ?_
      refine k_aload_n rfl ?_
      have c110 := (t78.mi e92 (by decide)).trans c86
      obtain ⟨x113, e111, c112, h114, h115⟩ := cg34 H105.1 t107
      refine k_get kg34 t107 e111 ?_
      have t116 := t82.x e92
      have t117 := t116.x e106
      have l118 := (t82.al e92).trans l83
      have l119 := (t116.al e106).trans l118
      have l123 := (t82.gh e92).trans l84
      have l124 := (t116.gh e106).trans l123
      refine k_iastore H105 t117 l124 (by omega) (by omega) (fun σ120 H121 e122 => ?_)
      refine k_goto ?_
      refine hB _ _ _ _ (kgoC (is := KX0_layIf_80) rfl ?_)
      refine k_return ?_
      have X125 : ExC [34, 36, 77, 289, 290] σ0 σ6 := ExC.rf.tr (e9.mo (by decide))
      have X126 : ExC [34, 36, 77, 289, 290] σ0 σ14 := X125.tr (e18.mo (by decide))
      have X127 : ExC [34, 36, 77, 289, 290] σ0 σ32 := X126.tr (e35.mo (by decide))
      have X128 : ExC [34, 36, 77, 289, 290] σ0 σ71 := X127.tr (e75.mo (by decide))
      have X129 : ExC [34, 36, 77, 289, 290] σ0 σ90 := X128.tr (e92.mo (by decide))
      have X130 : ExC [34, 36, 77, 289, 290] σ0 σ103 := X129.tr (e106.mo (by decide))
      have X131 : ExC [34, 36, 77, 289, 290] σ0 σ120 := X130.tr (e122.mo (by decide))
      exact ⟨rfl, H121, X131⟩
theorem lg_X0_layIf (d : Nat) : ∀ (As : List AvC) (σ : CsC), (P_X0_layIf (d + 1)) As σ → lgC As ≤ rX0_layIf.2.2.1 := by
  rintro As σ ⟨p0, p1, rfl, -⟩
  exact Nat.le_of_ble_eq_true rfl
theorem s_X0_layIf (l : Launch) (d : Nat) (h_X0_layInner : CMetC l (8 * d + 25) 7 (P_X0_layInner d) Q_X0_layInner) (h_X0_layStatement : CMetC l (8 * d + 24) 6 (P_X0_layStatement d) Q_X0_layStatement) : CMetC l (8 * (d + 1) + 22) 10 (P_X0_layIf (d + 1)) Q_X0_layIf :=
  CMetC.of KX0_layIf [(15, P_X0_layExp, Q_X0_layExp), (2, P_X0_put, Q_X0_put), (7, (P_X0_layInner d), Q_X0_layInner), (6, (P_X0_layStatement d), Q_X0_layStatement)] hX0_layIf (by decide) (by omega) okX0_layIf (cc1C (m_X0_layExp l) (by omega) (cc1C (m_X0_put l) (by omega) (cc1C h_X0_layInner (by omega) (cc1C h_X0_layStatement (by omega) cc0C)))) (lg_X0_layIf d) (b_X0_layIf d)

set_option maxRecDepth 100000 in
set_option maxHeartbeats 4000000 in
theorem b_X0_layWhile (d : Nat) : TbC KX0_layWhile [(2, P_X0_put, Q_X0_put), (15, P_X0_layExp, Q_X0_layExp), (7, (P_X0_layInner d), Q_X0_layInner), (3, P_X0_jumpTo, Q_X0_jumpTo)] (P_X0_layWhile (d + 1)) Q_X0_layWhile := by
  · rintro As σ0 ⟨p0, p1, rfl, H0, h_0_0, h_1_0, q_0⟩ hgr G hB hW
    change G 0 [(0, .inr (.inr (some p0))), (1, .inr (.inr (some p1)))] [] σ0
    refine hB _ _ _ _ (kgoC (is := KX0_layWhile_0) rfl ?_)
    refine k_aload_n rfl ?_
    obtain ⟨x3, e1, c2, h4, h5⟩ := cg34 H0.1 h_0_0
    refine k_get kg34 h_0_0 e1 ?_
    refine k_istore_n (ls' := [(2, .inl x3), (0, .inr (.inr (some p0))), (1, .inr (.inr (some p1)))]) rfl ?_
    refine k_aload_n rfl ?_
    refine k_bipush (m := 16) rfl (fun x6 h7 => ?_)
    refine k_aconst_null ?_
    refine k_inv (P := P_X0_put) (Q := Q_X0_put) rfl rfl rfl rfl (Nat.le_of_ble_eq_true rfl) (h_0_0.rc (by decide)) ⟨_, _, none, rfl, H0, h_0_0, OtC.n⟩ (fun w8 σ9 q10 => ?_)
    obtain ⟨x11, rfl, H12, e13, h14, h15⟩ := q10
    refine k_st (st' := [.inl x11]) rfl ?_
    refine k_popI ?_
    refine k_aload_n rfl ?_
    refine k_aload_n rfl ?_
    have t16 := h_1_0.x e13
    obtain ⟨o19, e17, c18, t20⟩ := cg279 H12.1 t16
    refine k_get kg279 t16 e17 ?_
    have t21 := h_0_0.x e13
    refine k_inv (P := P_X0_layExp) (Q := Q_X0_layExp) rfl rfl rfl rfl (Nat.le_of_ble_eq_true rfl) (t21.rc (by decide)) ⟨_, o19, rfl, H12, t21, t20⟩ (fun w22 σ23 q24 => ?_)
    obtain ⟨rfl, H25, e26⟩ := q24
    refine k_st (st' := []) rfl ?_
    refine k_aload_n rfl ?_
    refine k_bipush (m := 11) rfl (fun x27 h28 => ?_)
    refine k_aconst_null ?_
    have t29 := t21.x e26
    refine k_inv (P := P_X0_put) (Q := Q_X0_put) rfl rfl rfl rfl (Nat.le_of_ble_eq_true rfl) (t29.rc (by decide)) ⟨_, _, none, rfl, H25, t29, OtC.n⟩ (fun w30 σ31 q32 => ?_)
    obtain ⟨x33, rfl, H34, e35, h36, h37⟩ := q32
    refine k_st (st' := [.inl x33]) rfl ?_
    refine k_istore_n (ls' := [(3, .inl x33), (2, .inl x3), (0, .inr (.inr (some p0))), (1, .inr (.inr (some p1)))]) rfl ?_
    refine k_aload_n rfl ?_
    refine k_aload_n rfl ?_
    have t38 := t16.x e26
    have t39 := t38.x e35
    obtain ⟨o42, e40, c41, t43, f44⟩ := cg276 H34.1 t39
    refine k_get kg276 t39 e40 ?_
    have t45 := t29.x e35
    have r46 := q_0.x h_1_0 e13
    have r47 := r46.x t16 e26
    have r48 := r47.x t38 e35
    refine k_inv (P := (P_X0_layInner d)) (Q := Q_X0_layInner) rfl rfl rfl rfl (Nat.le_of_ble_eq_true rfl) (t45.rc (by decide)) ⟨_, o42, rfl, H34, t45, t43, (fun b hb => r48.ch (f44 b hb).2.2)⟩ (fun w49 σ50 q51 => ?_)
    obtain ⟨rfl, H52, e53⟩ := q51
    refine k_st (st' := []) rfl ?_
    refine k_aload_n rfl ?_
    refine k_bipush (m := 10) rfl (fun x54 h55 => ?_)
    refine k_iload_n rfl ?_
    have t56 := t45.x e53
    refine k_inv (P := P_X0_jumpTo) (Q := Q_X0_jumpTo) rfl rfl rfl rfl (Nat.le_of_ble_eq_true rfl) (t56.rc (by decide)) ⟨_, _, _, rfl, H52, t56⟩ (fun w57 σ58 q59 => ?_)
    obtain ⟨rfl, H60, e61⟩ := q59
    refine k_st (st' := []) rfl ?_
    refine k_aload_n rfl ?_
    have t62 := t56.x e61
    obtain ⟨a65, e63, c64, t66, l67, l68⟩ := cg31 H60.1 t62
    refine k_get kg31 t62 e63 ?_
    refine k_iload_n rfl ?_
    refine k_aload_n rfl ?_
    obtain ⟨x71, e69, c70, h72, h73⟩ := cg34 H60.1 t62
    refine k_get kg34 t62 e69 ?_
    refine k_iastore H60 t66 l68 (by omega) (by omega) (fun σ74 H75 e76 => ?_)
    refine k_return ?_
    have X77 : ExC [34, 36, 77, 289, 290] σ0 σ9 := ExC.rf.tr (e13.mo (by decide))
    have X78 : ExC [34, 36, 77, 289, 290] σ0 σ23 := X77.tr (e26.mo (by decide))
    have X79 : ExC [34, 36, 77, 289, 290] σ0 σ31 := X78.tr (e35.mo (by decide))
    have X80 : ExC [34, 36, 77, 289, 290] σ0 σ50 := X79.tr (e53.mo (by decide))
    have X81 : ExC [34, 36, 77, 289, 290] σ0 σ58 := X80.tr (e61.mo (by decide))
    have X82 : ExC [34, 36, 77, 289, 290] σ0 σ74 := X81.tr (e76.mo (by decide))
    exact ⟨rfl, H75, X82⟩
theorem lg_X0_layWhile (d : Nat) : ∀ (As : List AvC) (σ : CsC), (P_X0_layWhile (d + 1)) As σ → lgC As ≤ rX0_layWhile.2.2.1 := by
  rintro As σ ⟨p0, p1, rfl, -⟩
  exact Nat.le_of_ble_eq_true rfl
theorem s_X0_layWhile (l : Launch) (d : Nat) (h_X0_layInner : CMetC l (8 * d + 25) 7 (P_X0_layInner d) Q_X0_layInner) : CMetC l (8 * (d + 1) + 22) 11 (P_X0_layWhile (d + 1)) Q_X0_layWhile :=
  CMetC.of KX0_layWhile [(2, P_X0_put, Q_X0_put), (15, P_X0_layExp, Q_X0_layExp), (7, (P_X0_layInner d), Q_X0_layInner), (3, P_X0_jumpTo, Q_X0_jumpTo)] hX0_layWhile (by decide) (by omega) okX0_layWhile (cc1C (m_X0_put l) (by omega) (cc1C (m_X0_layExp l) (by omega) (cc1C h_X0_layInner (by omega) (cc1C (m_X0_jumpTo l) (by omega) cc0C)))) (lg_X0_layWhile d) (b_X0_layWhile d)

set_option maxRecDepth 100000 in
set_option maxHeartbeats 4000000 in
theorem b_X0_layDo (d : Nat) : TbC KX0_layDo [(7, (P_X0_layInner d), Q_X0_layInner), (2, P_X0_put, Q_X0_put), (15, P_X0_layExp, Q_X0_layExp), (3, P_X0_jumpTo, Q_X0_jumpTo)] (P_X0_layDo (d + 1)) Q_X0_layDo := by
  · rintro As σ0 ⟨p0, p1, rfl, H0, h_0_0, h_1_0, q_0⟩ hgr G hB hW
    change G 0 [(0, .inr (.inr (some p0))), (1, .inr (.inr (some p1)))] [] σ0
    refine hB _ _ _ _ (kgoC (is := KX0_layDo_0) rfl ?_)
    refine k_aload_n rfl ?_
    obtain ⟨x3, e1, c2, h4, h5⟩ := cg34 H0.1 h_0_0
    refine k_get kg34 h_0_0 e1 ?_
    refine k_istore_n (ls' := [(2, .inl x3), (0, .inr (.inr (some p0))), (1, .inr (.inr (some p1)))]) rfl ?_
    refine k_aload_n rfl ?_
    refine k_aload_n rfl ?_
    obtain ⟨o8, e6, c7, t9, f10⟩ := cg276 H0.1 h_1_0
    refine k_get kg276 h_1_0 e6 ?_
    refine k_inv (P := (P_X0_layInner d)) (Q := Q_X0_layInner) rfl rfl rfl rfl (Nat.le_of_ble_eq_true rfl) (h_0_0.rc (by decide)) ⟨_, o8, rfl, H0, h_0_0, t9, (fun b hb => q_0.ch (f10 b hb).2.2)⟩ (fun w11 σ12 q13 => ?_)
    obtain ⟨rfl, H14, e15⟩ := q13
    refine k_st (st' := []) rfl ?_
    refine k_aload_n rfl ?_
    refine k_bipush (m := 16) rfl (fun x16 h17 => ?_)
    refine k_aconst_null ?_
    have t18 := h_0_0.x e15
    refine k_inv (P := P_X0_put) (Q := Q_X0_put) rfl rfl rfl rfl (Nat.le_of_ble_eq_true rfl) (t18.rc (by decide)) ⟨_, _, none, rfl, H14, t18, OtC.n⟩ (fun w19 σ20 q21 => ?_)
    obtain ⟨x22, rfl, H23, e24, h25, h26⟩ := q21
    refine k_st (st' := [.inl x22]) rfl ?_
    refine k_istore_n (ls' := [(3, .inl x22), (2, .inl x3), (0, .inr (.inr (some p0))), (1, .inr (.inr (some p1)))]) rfl ?_
    refine k_aload_n rfl ?_
    refine k_aload_n rfl ?_
    have t27 := h_1_0.x e15
    have t28 := t27.x e24
    obtain ⟨o31, e29, c30, t32⟩ := cg279 H23.1 t28
    refine k_get kg279 t28 e29 ?_
    have t33 := t18.x e24
    refine k_inv (P := P_X0_layExp) (Q := Q_X0_layExp) rfl rfl rfl rfl (Nat.le_of_ble_eq_true rfl) (t33.rc (by decide)) ⟨_, o31, rfl, H23, t33, t32⟩ (fun w34 σ35 q36 => ?_)
    obtain ⟨rfl, H37, e38⟩ := q36
    refine k_st (st' := []) rfl ?_
    refine k_aload_n rfl ?_
    refine k_bipush (m := 12) rfl (fun x39 h40 => ?_)
    refine k_iload_n rfl ?_
    have t41 := t33.x e38
    refine k_inv (P := P_X0_jumpTo) (Q := Q_X0_jumpTo) rfl rfl rfl rfl (Nat.le_of_ble_eq_true rfl) (t41.rc (by decide)) ⟨_, _, _, rfl, H37, t41⟩ (fun w42 σ43 q44 => ?_)
    obtain ⟨rfl, H45, e46⟩ := q44
    refine k_st (st' := []) rfl ?_
    refine k_aload_n rfl ?_
    refine k_iload_n rfl ?_
    have t47 := t28.x e38
    have t48 := t47.x e46
    refine k_putI kp289 H45 t48 (Or.inl fk289) (tiC x22).1 (tiC x22).2 (fun σ49 H50 e51 c52 => ?_)
    refine k_return ?_
    have X53 : ExC [34, 36, 77, 289, 290] σ0 σ12 := ExC.rf.tr (e15.mo (by decide))
    have X54 : ExC [34, 36, 77, 289, 290] σ0 σ20 := X53.tr (e24.mo (by decide))
    have X55 : ExC [34, 36, 77, 289, 290] σ0 σ35 := X54.tr (e38.mo (by decide))
    have X56 : ExC [34, 36, 77, 289, 290] σ0 σ43 := X55.tr (e46.mo (by decide))
    have X57 : ExC [34, 36, 77, 289, 290] σ0 σ49 := X56.tr (e51.mo (by decide))
    exact ⟨rfl, H50, X57⟩
theorem lg_X0_layDo (d : Nat) : ∀ (As : List AvC) (σ : CsC), (P_X0_layDo (d + 1)) As σ → lgC As ≤ rX0_layDo.2.2.1 := by
  rintro As σ ⟨p0, p1, rfl, -⟩
  exact Nat.le_of_ble_eq_true rfl
theorem s_X0_layDo (l : Launch) (d : Nat) (h_X0_layInner : CMetC l (8 * d + 25) 7 (P_X0_layInner d) Q_X0_layInner) : CMetC l (8 * (d + 1) + 22) 12 (P_X0_layDo (d + 1)) Q_X0_layDo :=
  CMetC.of KX0_layDo [(7, (P_X0_layInner d), Q_X0_layInner), (2, P_X0_put, Q_X0_put), (15, P_X0_layExp, Q_X0_layExp), (3, P_X0_jumpTo, Q_X0_jumpTo)] hX0_layDo (by decide) (by omega) okX0_layDo (cc1C h_X0_layInner (by omega) (cc1C (m_X0_put l) (by omega) (cc1C (m_X0_layExp l) (by omega) (cc1C (m_X0_jumpTo l) (by omega) cc0C)))) (lg_X0_layDo d) (b_X0_layDo d)

set_option maxRecDepth 100000 in
set_option maxHeartbeats 4000000 in
theorem b_X0_layFor (d : Nat) : TbC KX0_layFor [(5, (P_X0_layRow d), Q_X0_layRow), (2, P_X0_put, Q_X0_put), (3, P_X0_jumpTo, Q_X0_jumpTo), (7, (P_X0_layInner d), Q_X0_layInner), (15, P_X0_layExp, Q_X0_layExp)] (P_X0_layFor (d + 1)) Q_X0_layFor := by
  · rintro As σ0 ⟨p0, p1, rfl, H0, h_0_0, h_1_0, q_0, q_1⟩ hgr G hB hW
    change G 0 [(0, .inr (.inr (some p0))), (1, .inr (.inr (some p1)))] [] σ0
    obtain ⟨x1, e2, c3, h4, h5⟩ := cg270 H0.1 h_1_0
    have h6 : x1.toInt = 60 := by rw [← c3]; exact q_1
    refine hB _ _ _ _ (kgoC (is := KX0_layFor_0) rfl ?_)
    refine k_aload_n rfl ?_
    refine k_aload_n rfl ?_
    obtain ⟨o9, e7, c8, t10, f11⟩ := cg277 H0.1 h_1_0
    refine k_get kg277 h_1_0 e7 ?_
    refine k_inv (P := (P_X0_layRow d)) (Q := Q_X0_layRow) rfl rfl rfl rfl (Nat.le_of_ble_eq_true rfl) (h_0_0.rc (by decide)) ⟨_, o9, rfl, H0, h_0_0, t10, (fun b hb => q_0.row (f11 b hb).2.2 c3 (by omega))⟩ (fun w12 σ13 q14 => ?_)
    obtain ⟨rfl, H15, e16⟩ := q14
    refine k_st (st' := []) rfl ?_
    refine k_aload_n rfl ?_
    refine k_bipush (m := 16) rfl (fun x17 h18 => ?_)
    refine k_aconst_null ?_
    have t19 := h_0_0.x e16
    refine k_inv (P := P_X0_put) (Q := Q_X0_put) rfl rfl rfl rfl (Nat.le_of_ble_eq_true rfl) (t19.rc (by decide)) ⟨_, _, none, rfl, H15, t19, OtC.n⟩ (fun w20 σ21 q22 => ?_)
    obtain ⟨x23, rfl, H24, e25, h26, h27⟩ := q22
    refine k_st (st' := [.inl x23]) rfl ?_
    refine k_istore_n (ls' := [(2, .inl x23), (0, .inr (.inr (some p0))), (1, .inr (.inr (some p1)))]) rfl ?_
    refine k_iconst (m := (-1)) rfl (fun x28 h29 => ?_)
    refine k_istore_n (ls' := [(3, .inl x28), (2, .inl x23), (0, .inr (.inr (some p0))), (1, .inr (.inr (some p1)))]) rfl ?_
    refine k_aload_n rfl ?_
    have t30 := h_1_0.x e16
    have t31 := t30.x e25
    obtain ⟨o34, e32, c33, t35⟩ := cg279 H24.1 t31
    refine k_get kg279 t31 e32 ?_
    refine k_ifnull (fun h37 => ?_) (fun b36 h37 => ?_)
    · subst h37
      refine hB _ _ _ _ (kgoC (is := KX0_layFor_41) rfl ?_)
      refine k_aload_n rfl ?_
      refine k_bipush (m := 10) rfl (fun x38 h39 => ?_)
      refine k_aconst_null ?_
      have t40 := t19.x e25
      refine k_inv (P := P_X0_put) (Q := Q_X0_put) rfl rfl rfl rfl (Nat.le_of_ble_eq_true rfl) (t40.rc (by decide)) ⟨_, _, none, rfl, H24, t40, OtC.n⟩ (fun w41 σ42 q43 => ?_)
      obtain ⟨x44, rfl, H45, e46, h47, h48⟩ := q43
      refine k_st (st' := [.inl x44]) rfl ?_
      refine k_istore (ls' := [(4, .inl x44), (3, .inl x28), (2, .inl x23), (0, .inr (.inr (some p0))), (1, .inr (.inr (some p1)))]) rfl ?_
      refine k_aload_n rfl ?_
      have t49 := t40.x e46
      obtain ⟨x52, e50, c51, h53, h54⟩ := cg34 H45.1 t49
      refine k_get kg34 t49 e50 ?_
      refine k_istore (ls' := [(5, .inl x52), (4, .inl x44), (3, .inl x28), (2, .inl x23), (0, .inr (.inr (some p0))), (1, .inr (.inr (some p1)))]) rfl ?_
      refine k_aload_n rfl ?_
      refine k_aload_n rfl ?_
      have t55 := t31.x e46
      obtain ⟨o58, e56, c57, t59, f60⟩ := cg278 H45.1 t55
      refine k_get kg278 t55 e56 ?_
      have r61 := q_0.x h_1_0 e16
      have r62 := r61.x t30 e25
      have r63 := r62.x t31 e46
      have c64 := (h_1_0.mi e16 (by decide)).trans c3
      have c65 := (t30.mi e25 (by decide)).trans c64
      have c66 := (t31.mi e46 (by decide)).trans c65
      refine k_inv (P := (P_X0_layRow d)) (Q := Q_X0_layRow) rfl rfl rfl rfl (Nat.le_of_ble_eq_true rfl) (t49.rc (by decide)) ⟨_, o58, rfl, H45, t49, t59, (fun b hb => r63.row (f60 b hb).2.2 c66 (by omega))⟩ (fun w67 σ68 q69 => ?_)
      obtain ⟨rfl, H70, e71⟩ := q69
      refine k_st (st' := []) rfl ?_
      refine k_aload_n rfl ?_
      refine k_bipush (m := 10) rfl (fun x72 h73 => ?_)
      refine k_iload_n rfl ?_
      have t74 := t49.x e71
      refine k_inv (P := P_X0_jumpTo) (Q := Q_X0_jumpTo) rfl rfl rfl rfl (Nat.le_of_ble_eq_true rfl) (t74.rc (by decide)) ⟨_, _, _, rfl, H70, t74⟩ (fun w75 σ76 q77 => ?_)
      obtain ⟨rfl, H78, e79⟩ := q77
      refine k_st (st' := []) rfl ?_
      refine k_aload_n rfl ?_
      have t80 := t74.x e79
      obtain ⟨a83, e81, c82, t84, l85, l86⟩ := cg31 H78.1 t80
      refine k_get kg31 t80 e81 ?_
      refine k_iload rfl ?_
      refine k_aload_n rfl ?_
      obtain ⟨x89, e87, c88, h90, h91⟩ := cg34 H78.1 t80
      refine k_get kg34 t80 e87 ?_
      refine k_iastore H78 t84 l86 (by omega) (by omega) (fun σ92 H93 e94 => ?_)
      refine k_aload_n rfl ?_
      refine k_aload_n rfl ?_
      have t95 := t55.x e71
      have t96 := t95.x e79
      have t97 := t96.x e94
      obtain ⟨o100, e98, c99, t101, f102⟩ := cg276 H93.1 t97
      refine k_get kg276 t97 e98 ?_
      have t103 := t80.x e94
      have r104 := r63.x t55 e71
      have r105 := r104.x t95 e79
      have r106 := r105.x t96 e94
      refine k_inv (P := (P_X0_layInner d)) (Q := Q_X0_layInner) rfl rfl rfl rfl (Nat.le_of_ble_eq_true rfl) (t103.rc (by decide)) ⟨_, o100, rfl, H93, t103, t101, (fun b hb => r106.ch (f102 b hb).2.2)⟩ (fun w107 σ108 q109 => ?_)
      obtain ⟨rfl, H110, e111⟩ := q109
      refine k_st (st' := []) rfl ?_
      refine k_aload_n rfl ?_
      refine k_bipush (m := 10) rfl (fun x112 h113 => ?_)
      refine k_iload rfl ?_
      have t114 := t103.x e111
      refine k_inv (P := P_X0_jumpTo) (Q := Q_X0_jumpTo) rfl rfl rfl rfl (Nat.le_of_ble_eq_true rfl) (t114.rc (by decide)) ⟨_, _, _, rfl, H110, t114⟩ (fun w115 σ116 q117 => ?_)
      obtain ⟨rfl, H118, e119⟩ := q117
      refine k_st (st' := []) rfl ?_
      refine k_iload_n rfl ?_
      refine k_if_lt (fun h120 => ?_) (fun h120 => by exfalso; omega)
      refine hB _ _ _ _ (kgoC (is := KX0_layFor_112) rfl ?_)
      refine k_aload_n rfl ?_
      refine k_iload rfl ?_
      have t121 := t97.x e111
      have t122 := t121.x e119
      refine k_putI kp289 H118 t122 (Or.inl fk289) (tiC x52).1 (tiC x52).2 (fun σ123 H124 e125 c126 => ?_)
      refine k_return ?_
      have X127 : ExC [34, 36, 77, 289, 290] σ0 σ13 := ExC.rf.tr (e16.mo (by decide))
      have X128 : ExC [34, 36, 77, 289, 290] σ0 σ21 := X127.tr (e25.mo (by decide))
      have X129 : ExC [34, 36, 77, 289, 290] σ0 σ42 := X128.tr (e46.mo (by decide))
      have X130 : ExC [34, 36, 77, 289, 290] σ0 σ68 := X129.tr (e71.mo (by decide))
      have X131 : ExC [34, 36, 77, 289, 290] σ0 σ76 := X130.tr (e79.mo (by decide))
      have X132 : ExC [34, 36, 77, 289, 290] σ0 σ92 := X131.tr (e94.mo (by decide))
      have X133 : ExC [34, 36, 77, 289, 290] σ0 σ108 := X132.tr (e111.mo (by decide))
      have X134 : ExC [34, 36, 77, 289, 290] σ0 σ116 := X133.tr (e119.mo (by decide))
      have X135 : ExC [34, 36, 77, 289, 290] σ0 σ123 := X134.tr (e125.mo (by decide))
      exact ⟨rfl, H124, X135⟩
    · subst h37
      have t136 := t35 b36 rfl
      refine k_nil ?_
      refine hB _ _ _ _ (kgoC (is := KX0_layFor_25) rfl ?_)
      refine k_aload_n rfl ?_
      refine k_aload_n rfl ?_
      refine k_get kg279 t31 (congrArg (fun z : Option Nat => (Sum.inr (Sum.inr z) : AvC)) c33) ?_
      have t137 := t19.x e25
      refine k_inv (P := P_X0_layExp) (Q := Q_X0_layExp) rfl rfl rfl rfl (Nat.le_of_ble_eq_true rfl) (t137.rc (by decide)) ⟨_, (some b36), rfl, H24, t137, t136.ot⟩ (fun w138 σ139 q140 => ?_)
      obtain ⟨rfl, H141, e142⟩ := q140
      refine k_st (st' := []) rfl ?_
      refine k_aload_n rfl ?_
      refine k_bipush (m := 11) rfl (fun x143 h144 => ?_)
      refine k_aconst_null ?_
      have t145 := t137.x e142
      refine k_inv (P := P_X0_put) (Q := Q_X0_put) rfl rfl rfl rfl (Nat.le_of_ble_eq_true rfl) (t145.rc (by decide)) ⟨_, _, none, rfl, H141, t145, OtC.n⟩ (fun w146 σ147 q148 => ?_)
      obtain ⟨x149, rfl, H150, e151, h152, h153⟩ := q148
      refine k_st (st' := [.inl x149]) rfl ?_
      refine k_istore_n (ls' := [(3, .inl x149), (2, .inl x23), (0, .inr (.inr (some p0))), (1, .inr (.inr (some p1)))]) rfl ?_
      refine k_nil ?_
      refine hB _ _ _ _ (kgoC (is := KX0_layFor_41) rfl ?_)
      refine k_aload_n rfl ?_
      refine k_bipush (m := 10) rfl (fun x154 h155 => ?_)
      refine k_aconst_null ?_
      have t156 := t145.x e151
      refine k_inv (P := P_X0_put) (Q := Q_X0_put) rfl rfl rfl rfl (Nat.le_of_ble_eq_true rfl) (t156.rc (by decide)) ⟨_, _, none, rfl, H150, t156, OtC.n⟩ (fun w157 σ158 q159 => ?_)
      obtain ⟨x160, rfl, H161, e162, h163, h164⟩ := q159
      refine k_st (st' := [.inl x160]) rfl ?_
      refine k_istore (ls' := [(4, .inl x160), (3, .inl x149), (2, .inl x23), (0, .inr (.inr (some p0))), (1, .inr (.inr (some p1)))]) rfl ?_
      refine k_aload_n rfl ?_
      have t165 := t156.x e162
      obtain ⟨x168, e166, c167, h169, h170⟩ := cg34 H161.1 t165
      refine k_get kg34 t165 e166 ?_
      refine k_istore (ls' := [(5, .inl x168), (4, .inl x160), (3, .inl x149), (2, .inl x23), (0, .inr (.inr (some p0))), (1, .inr (.inr (some p1)))]) rfl ?_
      refine k_aload_n rfl ?_
      refine k_aload_n rfl ?_
      have t171 := t31.x e142
      have t172 := t171.x e151
      have t173 := t172.x e162
      obtain ⟨o176, e174, c175, t177, f178⟩ := cg278 H161.1 t173
      refine k_get kg278 t173 e174 ?_
      have r179 := q_0.x h_1_0 e16
      have r180 := r179.x t30 e25
      have r181 := r180.x t31 e142
      have r182 := r181.x t171 e151
      have r183 := r182.x t172 e162
      have c184 := (h_1_0.mi e16 (by decide)).trans c3
      have c185 := (t30.mi e25 (by decide)).trans c184
      have c186 := (t31.mi e142 (by decide)).trans c185
      have c187 := (t171.mi e151 (by decide)).trans c186
      have c188 := (t172.mi e162 (by decide)).trans c187
      refine k_inv (P := (P_X0_layRow d)) (Q := Q_X0_layRow) rfl rfl rfl rfl (Nat.le_of_ble_eq_true rfl) (t165.rc (by decide)) ⟨_, o176, rfl, H161, t165, t177, (fun b hb => r183.row (f178 b hb).2.2 c188 (by omega))⟩ (fun w189 σ190 q191 => ?_)
      obtain ⟨rfl, H192, e193⟩ := q191
      refine k_st (st' := []) rfl ?_
      refine k_aload_n rfl ?_
      refine k_bipush (m := 10) rfl (fun x194 h195 => ?_)
      refine k_iload_n rfl ?_
      have t196 := t165.x e193
      refine k_inv (P := P_X0_jumpTo) (Q := Q_X0_jumpTo) rfl rfl rfl rfl (Nat.le_of_ble_eq_true rfl) (t196.rc (by decide)) ⟨_, _, _, rfl, H192, t196⟩ (fun w197 σ198 q199 => ?_)
      obtain ⟨rfl, H200, e201⟩ := q199
      refine k_st (st' := []) rfl ?_
      refine k_aload_n rfl ?_
      have t202 := t196.x e201
      obtain ⟨a205, e203, c204, t206, l207, l208⟩ := cg31 H200.1 t202
      refine k_get kg31 t202 e203 ?_
      refine k_iload rfl ?_
      refine k_aload_n rfl ?_
      obtain ⟨x211, e209, c210, h212, h213⟩ := cg34 H200.1 t202
      refine k_get kg34 t202 e209 ?_
      refine k_iastore H200 t206 l208 (by omega) (by omega) (fun σ214 H215 e216 => ?_)
      refine k_aload_n rfl ?_
      refine k_aload_n rfl ?_
      have t217 := t173.x e193
      have t218 := t217.x e201
      have t219 := t218.x e216
      obtain ⟨o222, e220, c221, t223, f224⟩ := cg276 H215.1 t219
      refine k_get kg276 t219 e220 ?_
      have t225 := t202.x e216
      have r226 := r183.x t173 e193
      have r227 := r226.x t217 e201
      have r228 := r227.x t218 e216
      refine k_inv (P := (P_X0_layInner d)) (Q := Q_X0_layInner) rfl rfl rfl rfl (Nat.le_of_ble_eq_true rfl) (t225.rc (by decide)) ⟨_, o222, rfl, H215, t225, t223, (fun b hb => r228.ch (f224 b hb).2.2)⟩ (fun w229 σ230 q231 => ?_)
      obtain ⟨rfl, H232, e233⟩ := q231
      refine k_st (st' := []) rfl ?_
      refine k_aload_n rfl ?_
      refine k_bipush (m := 10) rfl (fun x234 h235 => ?_)
      refine k_iload rfl ?_
      have t236 := t225.x e233
      refine k_inv (P := P_X0_jumpTo) (Q := Q_X0_jumpTo) rfl rfl rfl rfl (Nat.le_of_ble_eq_true rfl) (t236.rc (by decide)) ⟨_, _, _, rfl, H232, t236⟩ (fun w237 σ238 q239 => ?_)
      obtain ⟨rfl, H240, e241⟩ := q239
      refine k_st (st' := []) rfl ?_
      refine k_iload_n rfl ?_
      refine k_if_lt (fun h242 => by exfalso; omega) (fun h242 => ?_)
      refine k_nil ?_
      refine hB _ _ _ _ (kgoC (is := KX0_layFor_102) rfl ?_)
      refine k_aload_n rfl ?_
      have t243 := t236.x e241
      have c244 := (t202.mr e216 (by decide)).trans c204
      have c245 := (t225.mr e233 (by decide)).trans c244
      have c246 := (t236.mr e241 (by decide)).trans c245
      refine k_get kg31 t243 (congrArg (fun z : Option Nat => (Sum.inr (Sum.inr z) : AvC)) c246) ?_
      refine k_iload_n rfl ?_
      refine k_aload_n rfl ?_
      have c247 := (t202.mi e216 (by decide)).trans c210
      obtain ⟨x250, e248, c249, h251, h252⟩ := cg34 H240.1 t243
      refine k_get kg34 t243 e248 ?_
      have t253 := t206.x e216
      have t254 := t253.x e233
      have t255 := t254.x e241
      have l256 := (t206.al e216).trans l207
      have l257 := (t253.al e233).trans l256
      have l258 := (t254.al e241).trans l257
      have l262 := (t206.gh e216).trans l208
      have l263 := (t253.gh e233).trans l262
      have l264 := (t254.gh e241).trans l263
      refine k_iastore H240 t255 l264 (by omega) (by omega) (fun σ259 H260 e261 => ?_)
      refine k_nil ?_
      refine hB _ _ _ _ (kgoC (is := KX0_layFor_112) rfl ?_)
      refine k_aload_n rfl ?_
      refine k_iload rfl ?_
      have t265 := t219.x e233
      have t266 := t265.x e241
      have t267 := t266.x e261
      refine k_putI kp289 H260 t267 (Or.inl fk289) (tiC x168).1 (tiC x168).2 (fun σ268 H269 e270 c271 => ?_)
      refine k_return ?_
      have X272 : ExC [34, 36, 77, 289, 290] σ0 σ13 := ExC.rf.tr (e16.mo (by decide))
      have X273 : ExC [34, 36, 77, 289, 290] σ0 σ21 := X272.tr (e25.mo (by decide))
      have X274 : ExC [34, 36, 77, 289, 290] σ0 σ139 := X273.tr (e142.mo (by decide))
      have X275 : ExC [34, 36, 77, 289, 290] σ0 σ147 := X274.tr (e151.mo (by decide))
      have X276 : ExC [34, 36, 77, 289, 290] σ0 σ158 := X275.tr (e162.mo (by decide))
      have X277 : ExC [34, 36, 77, 289, 290] σ0 σ190 := X276.tr (e193.mo (by decide))
      have X278 : ExC [34, 36, 77, 289, 290] σ0 σ198 := X277.tr (e201.mo (by decide))
      have X279 : ExC [34, 36, 77, 289, 290] σ0 σ214 := X278.tr (e216.mo (by decide))
      have X280 : ExC [34, 36, 77, 289, 290] σ0 σ230 := X279.tr (e233.mo (by decide))
      have X281 : ExC [34, 36, 77, 289, 290] σ0 σ238 := X280.tr (e241.mo (by decide))
      have X282 : ExC [34, 36, 77, 289, 290] σ0 σ259 := X281.tr (e261.mo (by decide))
      have X283 : ExC [34, 36, 77, 289, 290] σ0 σ268 := X282.tr (e270.mo (by decide))
      exact ⟨rfl, H269, X283⟩
theorem lg_X0_layFor (d : Nat) : ∀ (As : List AvC) (σ : CsC), (P_X0_layFor (d + 1)) As σ → lgC As ≤ rX0_layFor.2.2.1 := by
  rintro As σ ⟨p0, p1, rfl, -⟩
  exact Nat.le_of_ble_eq_true rfl
theorem s_X0_layFor (l : Launch) (d : Nat) (h_X0_layRow : CMetC l (8 * d + 25) 5 (P_X0_layRow d) Q_X0_layRow) (h_X0_layInner : CMetC l (8 * d + 25) 7 (P_X0_layInner d) Q_X0_layInner) : CMetC l (8 * (d + 1) + 22) 13 (P_X0_layFor (d + 1)) Q_X0_layFor :=
  CMetC.of KX0_layFor [(5, (P_X0_layRow d), Q_X0_layRow), (2, P_X0_put, Q_X0_put), (3, P_X0_jumpTo, Q_X0_jumpTo), (7, (P_X0_layInner d), Q_X0_layInner), (15, P_X0_layExp, Q_X0_layExp)] hX0_layFor (by decide) (by omega) okX0_layFor (cc1C h_X0_layRow (by omega) (cc1C (m_X0_put l) (by omega) (cc1C (m_X0_jumpTo l) (by omega) (cc1C h_X0_layInner (by omega) (cc1C (m_X0_layExp l) (by omega) cc0C))))) (lg_X0_layFor d) (b_X0_layFor d)

set_option maxRecDepth 100000 in
set_option maxHeartbeats 4000000 in
theorem b_X0_layTry (d : Nat) : TbC KX0_layTry [(2, P_X0_put, Q_X0_put), (4, (P_X0_layBody d), Q_X0_layBody)] (P_X0_layTry (d + 1)) Q_X0_layTry := by
  · rintro As σ0 ⟨p0, p1, rfl, H0, h_0_0, h_1_0, q_0, q_1⟩ hgr G hB hW
    change G 0 [(0, .inr (.inr (some p0))), (1, .inr (.inr (some p1)))] [] σ0
    obtain ⟨x1, e2, c3, h4, h5⟩ := cg270 H0.1 h_1_0
    have h6 : x1.toInt = 68 := by rw [← c3]; exact q_1
    refine hB _ _ _ _ (kgoC (is := KX0_layTry_0) rfl ?_)
    refine k_aload_n rfl ?_
    obtain ⟨o9, e7, c8, t10, f11⟩ := cg276 H0.1 h_1_0
    refine k_get kg276 h_1_0 e7 ?_
    refine k_ifnull (fun h13 => ?_) (fun b12 h13 => ?_)
    · subst h13
      refine hB _ _ _ _ (kgoC (is := KX0_layTry_15) rfl ?_)
      refine k_aload_n rfl ?_
      refine k_bipush (m := 10) rfl (fun x14 h15 => ?_)
      refine k_aconst_null ?_
      refine k_inv (P := P_X0_put) (Q := Q_X0_put) rfl rfl rfl rfl (Nat.le_of_ble_eq_true rfl) (h_0_0.rc (by decide)) ⟨_, _, none, rfl, H0, h_0_0, OtC.n⟩ (fun w16 σ17 q18 => ?_)
      obtain ⟨x19, rfl, H20, e21, h22, h23⟩ := q18
      refine k_st (st' := [.inl x19]) rfl ?_
      refine k_istore_n (ls' := [(2, .inl x19), (0, .inr (.inr (some p0))), (1, .inr (.inr (some p1)))]) rfl ?_
      refine k_aload_n rfl ?_
      have t24 := h_1_0.x e21
      obtain ⟨o27, e25, c26, t28, f29⟩ := cg277 H20.1 t24
      refine k_get kg277 t24 e25 ?_
      refine k_ifnull (fun h31 => ?_) (fun b30 h31 => ?_)
      · subst h31
        refine hB _ _ _ _ (kgoC (is := KX0_layTry_38) rfl ?_)
        refine k_aload_n rfl ?_
        have t32 := h_0_0.x e21
        obtain ⟨a35, e33, c34, t36, l37, l38⟩ := cg31 H20.1 t32
        refine k_get kg31 t32 e33 ?_
        refine k_iload_n rfl ?_
        refine k_aload_n rfl ?_
        obtain ⟨x41, e39, c40, h42, h43⟩ := cg34 H20.1 t32
        refine k_get kg34 t32 e39 ?_
        refine k_iastore H20 t36 l38 (by omega) (by omega) (fun σ44 H45 e46 => ?_)
        refine k_aload_n rfl ?_
        have t47 := t24.x e46
        obtain ⟨o50, e48, c49, t51, f52⟩ := cg278 H45.1 t47
        refine k_get kg278 t47 e48 ?_
        refine k_ifnull (fun h54 => ?_) (fun b53 h54 => ?_)
        · subst h54
          refine hB _ _ _ _ (kgoC (is := KX0_layTry_79) rfl ?_)
          refine k_return ?_
          have X55 : ExC [34, 36, 77, 289, 290] σ0 σ17 := ExC.rf.tr (e21.mo (by decide))
          have X56 : ExC [34, 36, 77, 289, 290] σ0 σ44 := X55.tr (e46.mo (by decide))
          exact ⟨rfl, H45, X56⟩
        · subst h54
          have t57 := t51 b53 rfl
          have f58 := (f52 b53 rfl).2
          have r60 := q_0.x h_1_0 e21
          have r61 := r60.x t24 e46
          have r59 := r61.ch f58.2
          have c62 := (h_1_0.mi e21 (by decide)).trans c3
          have c63 := (t24.mi e46 (by decide)).trans c62
          have k64 := (f58.2.1 (by rw [c63]; omega)).1
          refine k_nil ?_
          refine hB _ _ _ _ (kgoC (is := KX0_layTry_55) rfl ?_)
          refine k_aload_n rfl ?_
          refine k_bipush (m := 21) rfl (fun x65 h66 => ?_)
          refine k_aconst_null ?_
          have t67 := t32.x e46
          refine k_inv (P := P_X0_put) (Q := Q_X0_put) rfl rfl rfl rfl (Nat.le_of_ble_eq_true rfl) (t67.rc (by decide)) ⟨_, _, none, rfl, H45, t67, OtC.n⟩ (fun w68 σ69 q70 => ?_)
          obtain ⟨x71, rfl, H72, e73, h74, h75⟩ := q70
          refine k_st (st' := [.inl x71]) rfl ?_
          refine k_popI ?_
          refine k_aload_n rfl ?_
          refine k_aload_n rfl ?_
          have t76 := t47.x e73
          have c77 := (t47.mr e73 (by decide)).trans c49
          refine k_get kg278 t76 (congrArg (fun z : Option Nat => (Sum.inr (Sum.inr z) : AvC)) c77) ?_
          have t78 := t67.x e73
          have t79 := t57.x e73
          have r80 := r59.x t57 e73
          have k82 := (congrArg Int32.toInt (t57.fi e73 (k := 270) (by decide) (by decide))).trans k64
          refine k_inv (P := (P_X0_layBody d)) (Q := Q_X0_layBody) rfl rfl rfl rfl (Nat.le_of_ble_eq_true rfl) (t78.rc (by decide)) ⟨_, _, rfl, H72, t78, t79, r80, (by rw [k82]; decide)⟩ (fun w83 σ84 q85 => ?_)
          obtain ⟨rfl, H86, e87⟩ := q85
          refine k_st (st' := []) rfl ?_
          refine k_aload_n rfl ?_
          refine k_bipush (m := 22) rfl (fun x88 h89 => ?_)
          refine k_aconst_null ?_
          have t90 := t78.x e87
          refine k_inv (P := P_X0_put) (Q := Q_X0_put) rfl rfl rfl rfl (Nat.le_of_ble_eq_true rfl) (t90.rc (by decide)) ⟨_, _, none, rfl, H86, t90, OtC.n⟩ (fun w91 σ92 q93 => ?_)
          obtain ⟨x94, rfl, H95, e96, h97, h98⟩ := q93
          refine k_st (st' := [.inl x94]) rfl ?_
          refine k_popI ?_
          refine k_nil ?_
          refine hB _ _ _ _ (kgoC (is := KX0_layTry_79) rfl ?_)
          refine k_return ?_
          have X99 : ExC [34, 36, 77, 289, 290] σ0 σ17 := ExC.rf.tr (e21.mo (by decide))
          have X100 : ExC [34, 36, 77, 289, 290] σ0 σ44 := X99.tr (e46.mo (by decide))
          have X101 : ExC [34, 36, 77, 289, 290] σ0 σ69 := X100.tr (e73.mo (by decide))
          have X102 : ExC [34, 36, 77, 289, 290] σ0 σ84 := X101.tr (e87.mo (by decide))
          have X103 : ExC [34, 36, 77, 289, 290] σ0 σ92 := X102.tr (e96.mo (by decide))
          exact ⟨rfl, H95, X103⟩
      · subst h31
        have t104 := t28 b30 rfl
        have f105 := (f29 b30 rfl).2
        have r107 := q_0.x h_1_0 e21
        have r106 := r107.ch f105.2
        have c108 := (h_1_0.mi e21 (by decide)).trans c3
        have k109 := (f105.2.1 (by rw [c108]; omega)).1
        refine k_nil ?_
        refine hB _ _ _ _ (kgoC (is := KX0_layTry_30) rfl ?_)
        refine k_aload_n rfl ?_
        refine k_aload_n rfl ?_
        refine k_get kg277 t24 (congrArg (fun z : Option Nat => (Sum.inr (Sum.inr z) : AvC)) c26) ?_
        have t110 := h_0_0.x e21
        refine k_inv (P := (P_X0_layBody d)) (Q := Q_X0_layBody) rfl rfl rfl rfl (Nat.le_of_ble_eq_true rfl) (t110.rc (by decide)) ⟨_, _, rfl, H20, t110, t104, r106, (by rw [k109]; decide)⟩ (fun w111 σ112 q113 => ?_)
        obtain ⟨rfl, H114, e115⟩ := q113
        refine k_st (st' := []) rfl ?_
        refine k_nil ?_
        refine hB _ _ _ _ (kgoC (is := KX0_layTry_38) rfl ?_)
        refine k_aload_n rfl ?_
        have t116 := t110.x e115
        obtain ⟨a119, e117, c118, t120, l121, l122⟩ := cg31 H114.1 t116
        refine k_get kg31 t116 e117 ?_
        refine k_iload_n rfl ?_
        refine k_aload_n rfl ?_
        obtain ⟨x125, e123, c124, h126, h127⟩ := cg34 H114.1 t116
        refine k_get kg34 t116 e123 ?_
        refine k_iastore H114 t120 l122 (by omega) (by omega) (fun σ128 H129 e130 => ?_)
        refine k_aload_n rfl ?_
        have t131 := t24.x e115
        have t132 := t131.x e130
        obtain ⟨o135, e133, c134, t136, f137⟩ := cg278 H129.1 t132
        refine k_get kg278 t132 e133 ?_
        refine k_ifnull (fun h139 => ?_) (fun b138 h139 => ?_)
        · subst h139
          refine hB _ _ _ _ (kgoC (is := KX0_layTry_79) rfl ?_)
          refine k_return ?_
          have X140 : ExC [34, 36, 77, 289, 290] σ0 σ17 := ExC.rf.tr (e21.mo (by decide))
          have X141 : ExC [34, 36, 77, 289, 290] σ0 σ112 := X140.tr (e115.mo (by decide))
          have X142 : ExC [34, 36, 77, 289, 290] σ0 σ128 := X141.tr (e130.mo (by decide))
          exact ⟨rfl, H129, X142⟩
        · subst h139
          have t143 := t136 b138 rfl
          have f144 := (f137 b138 rfl).2
          have r146 := r107.x t24 e115
          have r147 := r146.x t131 e130
          have r145 := r147.ch f144.2
          have c148 := (t24.mi e115 (by decide)).trans c108
          have c149 := (t131.mi e130 (by decide)).trans c148
          have k150 := (f144.2.1 (by rw [c149]; omega)).1
          refine k_nil ?_
          refine hB _ _ _ _ (kgoC (is := KX0_layTry_55) rfl ?_)
          refine k_aload_n rfl ?_
          refine k_bipush (m := 21) rfl (fun x151 h152 => ?_)
          refine k_aconst_null ?_
          have t153 := t116.x e130
          refine k_inv (P := P_X0_put) (Q := Q_X0_put) rfl rfl rfl rfl (Nat.le_of_ble_eq_true rfl) (t153.rc (by decide)) ⟨_, _, none, rfl, H129, t153, OtC.n⟩ (fun w154 σ155 q156 => ?_)
          obtain ⟨x157, rfl, H158, e159, h160, h161⟩ := q156
          refine k_st (st' := [.inl x157]) rfl ?_
          refine k_popI ?_
          refine k_aload_n rfl ?_
          refine k_aload_n rfl ?_
          have t162 := t132.x e159
          have c163 := (t132.mr e159 (by decide)).trans c134
          refine k_get kg278 t162 (congrArg (fun z : Option Nat => (Sum.inr (Sum.inr z) : AvC)) c163) ?_
          have t164 := t153.x e159
          have t165 := t143.x e159
          have r166 := r145.x t143 e159
          have k168 := (congrArg Int32.toInt (t143.fi e159 (k := 270) (by decide) (by decide))).trans k150
          refine k_inv (P := (P_X0_layBody d)) (Q := Q_X0_layBody) rfl rfl rfl rfl (Nat.le_of_ble_eq_true rfl) (t164.rc (by decide)) ⟨_, _, rfl, H158, t164, t165, r166, (by rw [k168]; decide)⟩ (fun w169 σ170 q171 => ?_)
          obtain ⟨rfl, H172, e173⟩ := q171
          refine k_st (st' := []) rfl ?_
          refine k_aload_n rfl ?_
          refine k_bipush (m := 22) rfl (fun x174 h175 => ?_)
          refine k_aconst_null ?_
          have t176 := t164.x e173
          refine k_inv (P := P_X0_put) (Q := Q_X0_put) rfl rfl rfl rfl (Nat.le_of_ble_eq_true rfl) (t176.rc (by decide)) ⟨_, _, none, rfl, H172, t176, OtC.n⟩ (fun w177 σ178 q179 => ?_)
          obtain ⟨x180, rfl, H181, e182, h183, h184⟩ := q179
          refine k_st (st' := [.inl x180]) rfl ?_
          refine k_popI ?_
          refine k_nil ?_
          refine hB _ _ _ _ (kgoC (is := KX0_layTry_79) rfl ?_)
          refine k_return ?_
          have X185 : ExC [34, 36, 77, 289, 290] σ0 σ17 := ExC.rf.tr (e21.mo (by decide))
          have X186 : ExC [34, 36, 77, 289, 290] σ0 σ112 := X185.tr (e115.mo (by decide))
          have X187 : ExC [34, 36, 77, 289, 290] σ0 σ128 := X186.tr (e130.mo (by decide))
          have X188 : ExC [34, 36, 77, 289, 290] σ0 σ155 := X187.tr (e159.mo (by decide))
          have X189 : ExC [34, 36, 77, 289, 290] σ0 σ170 := X188.tr (e173.mo (by decide))
          have X190 : ExC [34, 36, 77, 289, 290] σ0 σ178 := X189.tr (e182.mo (by decide))
          exact ⟨rfl, H181, X190⟩
    · subst h13
      have t191 := t10 b12 rfl
      have f192 := (f11 b12 rfl).2
      have r193 := q_0.ch f192.2
      have k194 := (f192.2.1 (by rw [c3]; omega)).1
      refine k_nil ?_
      refine hB _ _ _ _ (kgoC (is := KX0_layTry_7) rfl ?_)
      refine k_aload_n rfl ?_
      refine k_aload_n rfl ?_
      refine k_get kg276 h_1_0 (congrArg (fun z : Option Nat => (Sum.inr (Sum.inr z) : AvC)) c8) ?_
      refine k_inv (P := (P_X0_layBody d)) (Q := Q_X0_layBody) rfl rfl rfl rfl (Nat.le_of_ble_eq_true rfl) (h_0_0.rc (by decide)) ⟨_, _, rfl, H0, h_0_0, t191, r193, (by rw [k194]; decide)⟩ (fun w195 σ196 q197 => ?_)
      obtain ⟨rfl, H198, e199⟩ := q197
      refine k_st (st' := []) rfl ?_
      refine k_nil ?_
      refine hB _ _ _ _ (kgoC (is := KX0_layTry_15) rfl ?_)
      refine k_aload_n rfl ?_
      refine k_bipush (m := 10) rfl (fun x200 h201 => ?_)
      refine k_aconst_null ?_
      have t202 := h_0_0.x e199
      refine k_inv (P := P_X0_put) (Q := Q_X0_put) rfl rfl rfl rfl (Nat.le_of_ble_eq_true rfl) (t202.rc (by decide)) ⟨_, _, none, rfl, H198, t202, OtC.n⟩ (fun w203 σ204 q205 => ?_)
      obtain ⟨x206, rfl, H207, e208, h209, h210⟩ := q205
      refine k_st (st' := [.inl x206]) rfl ?_
      refine k_istore_n (ls' := [(2, .inl x206), (0, .inr (.inr (some p0))), (1, .inr (.inr (some p1)))]) rfl ?_
      refine k_aload_n rfl ?_
      have t211 := h_1_0.x e199
      have t212 := t211.x e208
      obtain ⟨o215, e213, c214, t216, f217⟩ := cg277 H207.1 t212
      refine k_get kg277 t212 e213 ?_
      refine k_ifnull (fun h219 => ?_) (fun b218 h219 => ?_)
      · subst h219
        refine hB _ _ _ _ (kgoC (is := KX0_layTry_38) rfl ?_)
        refine k_aload_n rfl ?_
        have t220 := t202.x e208
        obtain ⟨a223, e221, c222, t224, l225, l226⟩ := cg31 H207.1 t220
        refine k_get kg31 t220 e221 ?_
        refine k_iload_n rfl ?_
        refine k_aload_n rfl ?_
        obtain ⟨x229, e227, c228, h230, h231⟩ := cg34 H207.1 t220
        refine k_get kg34 t220 e227 ?_
        refine k_iastore H207 t224 l226 (by omega) (by omega) (fun σ232 H233 e234 => ?_)
        refine k_aload_n rfl ?_
        have t235 := t212.x e234
        obtain ⟨o238, e236, c237, t239, f240⟩ := cg278 H233.1 t235
        refine k_get kg278 t235 e236 ?_
        refine k_ifnull (fun h242 => ?_) (fun b241 h242 => ?_)
        · subst h242
          refine hB _ _ _ _ (kgoC (is := KX0_layTry_79) rfl ?_)
          refine k_return ?_
          have X243 : ExC [34, 36, 77, 289, 290] σ0 σ196 := ExC.rf.tr (e199.mo (by decide))
          have X244 : ExC [34, 36, 77, 289, 290] σ0 σ204 := X243.tr (e208.mo (by decide))
          have X245 : ExC [34, 36, 77, 289, 290] σ0 σ232 := X244.tr (e234.mo (by decide))
          exact ⟨rfl, H233, X245⟩
        · subst h242
          have t246 := t239 b241 rfl
          have f247 := (f240 b241 rfl).2
          have r249 := q_0.x h_1_0 e199
          have r250 := r249.x t211 e208
          have r251 := r250.x t212 e234
          have r248 := r251.ch f247.2
          have c252 := (h_1_0.mi e199 (by decide)).trans c3
          have c253 := (t211.mi e208 (by decide)).trans c252
          have c254 := (t212.mi e234 (by decide)).trans c253
          have k255 := (f247.2.1 (by rw [c254]; omega)).1
          refine k_nil ?_
          refine hB _ _ _ _ (kgoC (is := KX0_layTry_55) rfl ?_)
          refine k_aload_n rfl ?_
          refine k_bipush (m := 21) rfl (fun x256 h257 => ?_)
          refine k_aconst_null ?_
          have t258 := t220.x e234
          refine k_inv (P := P_X0_put) (Q := Q_X0_put) rfl rfl rfl rfl (Nat.le_of_ble_eq_true rfl) (t258.rc (by decide)) ⟨_, _, none, rfl, H233, t258, OtC.n⟩ (fun w259 σ260 q261 => ?_)
          obtain ⟨x262, rfl, H263, e264, h265, h266⟩ := q261
          refine k_st (st' := [.inl x262]) rfl ?_
          refine k_popI ?_
          refine k_aload_n rfl ?_
          refine k_aload_n rfl ?_
          have t267 := t235.x e264
          have c268 := (t235.mr e264 (by decide)).trans c237
          refine k_get kg278 t267 (congrArg (fun z : Option Nat => (Sum.inr (Sum.inr z) : AvC)) c268) ?_
          have t269 := t258.x e264
          have t270 := t246.x e264
          have r271 := r248.x t246 e264
          have k273 := (congrArg Int32.toInt (t246.fi e264 (k := 270) (by decide) (by decide))).trans k255
          refine k_inv (P := (P_X0_layBody d)) (Q := Q_X0_layBody) rfl rfl rfl rfl (Nat.le_of_ble_eq_true rfl) (t269.rc (by decide)) ⟨_, _, rfl, H263, t269, t270, r271, (by rw [k273]; decide)⟩ (fun w274 σ275 q276 => ?_)
          obtain ⟨rfl, H277, e278⟩ := q276
          refine k_st (st' := []) rfl ?_
          refine k_aload_n rfl ?_
          refine k_bipush (m := 22) rfl (fun x279 h280 => ?_)
          refine k_aconst_null ?_
          have t281 := t269.x e278
          refine k_inv (P := P_X0_put) (Q := Q_X0_put) rfl rfl rfl rfl (Nat.le_of_ble_eq_true rfl) (t281.rc (by decide)) ⟨_, _, none, rfl, H277, t281, OtC.n⟩ (fun w282 σ283 q284 => ?_)
          obtain ⟨x285, rfl, H286, e287, h288, h289⟩ := q284
          refine k_st (st' := [.inl x285]) rfl ?_
          refine k_popI ?_
          refine k_nil ?_
          refine hB _ _ _ _ (kgoC (is := KX0_layTry_79) rfl ?_)
          refine k_return ?_
          have X290 : ExC [34, 36, 77, 289, 290] σ0 σ196 := ExC.rf.tr (e199.mo (by decide))
          have X291 : ExC [34, 36, 77, 289, 290] σ0 σ204 := X290.tr (e208.mo (by decide))
          have X292 : ExC [34, 36, 77, 289, 290] σ0 σ232 := X291.tr (e234.mo (by decide))
          have X293 : ExC [34, 36, 77, 289, 290] σ0 σ260 := X292.tr (e264.mo (by decide))
          have X294 : ExC [34, 36, 77, 289, 290] σ0 σ275 := X293.tr (e278.mo (by decide))
          have X295 : ExC [34, 36, 77, 289, 290] σ0 σ283 := X294.tr (e287.mo (by decide))
          exact ⟨rfl, H286, X295⟩
      · subst h219
        have t296 := t216 b218 rfl
        have f297 := (f217 b218 rfl).2
        have r299 := q_0.x h_1_0 e199
        have r300 := r299.x t211 e208
        have r298 := r300.ch f297.2
        have c301 := (h_1_0.mi e199 (by decide)).trans c3
        have c302 := (t211.mi e208 (by decide)).trans c301
        have k303 := (f297.2.1 (by rw [c302]; omega)).1
        refine k_nil ?_
        refine hB _ _ _ _ (kgoC (is := KX0_layTry_30) rfl ?_)
        refine k_aload_n rfl ?_
        refine k_aload_n rfl ?_
        refine k_get kg277 t212 (congrArg (fun z : Option Nat => (Sum.inr (Sum.inr z) : AvC)) c214) ?_
        have t304 := t202.x e208
        refine k_inv (P := (P_X0_layBody d)) (Q := Q_X0_layBody) rfl rfl rfl rfl (Nat.le_of_ble_eq_true rfl) (t304.rc (by decide)) ⟨_, _, rfl, H207, t304, t296, r298, (by rw [k303]; decide)⟩ (fun w305 σ306 q307 => ?_)
        obtain ⟨rfl, H308, e309⟩ := q307
        refine k_st (st' := []) rfl ?_
        refine k_nil ?_
        refine hB _ _ _ _ (kgoC (is := KX0_layTry_38) rfl ?_)
        refine k_aload_n rfl ?_
        have t310 := t304.x e309
        obtain ⟨a313, e311, c312, t314, l315, l316⟩ := cg31 H308.1 t310
        refine k_get kg31 t310 e311 ?_
        refine k_iload_n rfl ?_
        refine k_aload_n rfl ?_
        obtain ⟨x319, e317, c318, h320, h321⟩ := cg34 H308.1 t310
        refine k_get kg34 t310 e317 ?_
        refine k_iastore H308 t314 l316 (by omega) (by omega) (fun σ322 H323 e324 => ?_)
        refine k_aload_n rfl ?_
        have t325 := t212.x e309
        have t326 := t325.x e324
        obtain ⟨o329, e327, c328, t330, f331⟩ := cg278 H323.1 t326
        refine k_get kg278 t326 e327 ?_
        refine k_ifnull (fun h333 => ?_) (fun b332 h333 => ?_)
        · subst h333
          refine hB _ _ _ _ (kgoC (is := KX0_layTry_79) rfl ?_)
          refine k_return ?_
          have X334 : ExC [34, 36, 77, 289, 290] σ0 σ196 := ExC.rf.tr (e199.mo (by decide))
          have X335 : ExC [34, 36, 77, 289, 290] σ0 σ204 := X334.tr (e208.mo (by decide))
          have X336 : ExC [34, 36, 77, 289, 290] σ0 σ306 := X335.tr (e309.mo (by decide))
          have X337 : ExC [34, 36, 77, 289, 290] σ0 σ322 := X336.tr (e324.mo (by decide))
          exact ⟨rfl, H323, X337⟩
        · subst h333
          have t338 := t330 b332 rfl
          have f339 := (f331 b332 rfl).2
          have r341 := r300.x t212 e309
          have r342 := r341.x t325 e324
          have r340 := r342.ch f339.2
          have c343 := (t212.mi e309 (by decide)).trans c302
          have c344 := (t325.mi e324 (by decide)).trans c343
          have k345 := (f339.2.1 (by rw [c344]; omega)).1
          refine k_nil ?_
          refine hB _ _ _ _ (kgoC (is := KX0_layTry_55) rfl ?_)
          refine k_aload_n rfl ?_
          refine k_bipush (m := 21) rfl (fun x346 h347 => ?_)
          refine k_aconst_null ?_
          have t348 := t310.x e324
          refine k_inv (P := P_X0_put) (Q := Q_X0_put) rfl rfl rfl rfl (Nat.le_of_ble_eq_true rfl) (t348.rc (by decide)) ⟨_, _, none, rfl, H323, t348, OtC.n⟩ (fun w349 σ350 q351 => ?_)
          obtain ⟨x352, rfl, H353, e354, h355, h356⟩ := q351
          refine k_st (st' := [.inl x352]) rfl ?_
          refine k_popI ?_
          refine k_aload_n rfl ?_
          refine k_aload_n rfl ?_
          have t357 := t326.x e354
          have c358 := (t326.mr e354 (by decide)).trans c328
          refine k_get kg278 t357 (congrArg (fun z : Option Nat => (Sum.inr (Sum.inr z) : AvC)) c358) ?_
          have t359 := t348.x e354
          have t360 := t338.x e354
          have r361 := r340.x t338 e354
          have k363 := (congrArg Int32.toInt (t338.fi e354 (k := 270) (by decide) (by decide))).trans k345
          refine k_inv (P := (P_X0_layBody d)) (Q := Q_X0_layBody) rfl rfl rfl rfl (Nat.le_of_ble_eq_true rfl) (t359.rc (by decide)) ⟨_, _, rfl, H353, t359, t360, r361, (by rw [k363]; decide)⟩ (fun w364 σ365 q366 => ?_)
          obtain ⟨rfl, H367, e368⟩ := q366
          refine k_st (st' := []) rfl ?_
          refine k_aload_n rfl ?_
          refine k_bipush (m := 22) rfl (fun x369 h370 => ?_)
          refine k_aconst_null ?_
          have t371 := t359.x e368
          refine k_inv (P := P_X0_put) (Q := Q_X0_put) rfl rfl rfl rfl (Nat.le_of_ble_eq_true rfl) (t371.rc (by decide)) ⟨_, _, none, rfl, H367, t371, OtC.n⟩ (fun w372 σ373 q374 => ?_)
          obtain ⟨x375, rfl, H376, e377, h378, h379⟩ := q374
          refine k_st (st' := [.inl x375]) rfl ?_
          refine k_popI ?_
          refine k_nil ?_
          refine hB _ _ _ _ (kgoC (is := KX0_layTry_79) rfl ?_)
          refine k_return ?_
          have X380 : ExC [34, 36, 77, 289, 290] σ0 σ196 := ExC.rf.tr (e199.mo (by decide))
          have X381 : ExC [34, 36, 77, 289, 290] σ0 σ204 := X380.tr (e208.mo (by decide))
          have X382 : ExC [34, 36, 77, 289, 290] σ0 σ306 := X381.tr (e309.mo (by decide))
          have X383 : ExC [34, 36, 77, 289, 290] σ0 σ322 := X382.tr (e324.mo (by decide))
          have X384 : ExC [34, 36, 77, 289, 290] σ0 σ350 := X383.tr (e354.mo (by decide))
          have X385 : ExC [34, 36, 77, 289, 290] σ0 σ365 := X384.tr (e368.mo (by decide))
          have X386 : ExC [34, 36, 77, 289, 290] σ0 σ373 := X385.tr (e377.mo (by decide))
          exact ⟨rfl, H376, X386⟩
theorem lg_X0_layTry (d : Nat) : ∀ (As : List AvC) (σ : CsC), (P_X0_layTry (d + 1)) As σ → lgC As ≤ rX0_layTry.2.2.1 := by
  rintro As σ ⟨p0, p1, rfl, -⟩
  exact Nat.le_of_ble_eq_true rfl
theorem s_X0_layTry (l : Launch) (d : Nat) (h_X0_layBody : CMetC l (8 * d + 21) 4 (P_X0_layBody d) Q_X0_layBody) : CMetC l (8 * (d + 1) + 22) 14 (P_X0_layTry (d + 1)) Q_X0_layTry :=
  CMetC.of KX0_layTry [(2, P_X0_put, Q_X0_put), (4, (P_X0_layBody d), Q_X0_layBody)] hX0_layTry (by decide) (by omega) okX0_layTry (cc1C (m_X0_put l) (by omega) (cc1C h_X0_layBody (by omega) cc0C)) (lg_X0_layTry d) (b_X0_layTry d)

set_option maxRecDepth 100000 in
set_option maxHeartbeats 4000000 in
theorem b_X0_layInside (d : Nat) : TbC KX0_layInside [(5, (P_X0_layRow d), Q_X0_layRow), (7, (P_X0_layInner d), Q_X0_layInner), (10, (P_X0_layIf (d + 1)), Q_X0_layIf), (11, (P_X0_layWhile (d + 1)), Q_X0_layWhile), (12, (P_X0_layDo (d + 1)), Q_X0_layDo), (13, (P_X0_layFor (d + 1)), Q_X0_layFor), (15, P_X0_layExp, Q_X0_layExp), (2, P_X0_put, Q_X0_put), (14, (P_X0_layTry (d + 1)), Q_X0_layTry), (9, P_X0_layTold, Q_X0_layTold)] (P_X0_layInside (d + 1)) Q_X0_layInside := by
  · rintro As σ0 ⟨p0, p1, rfl, H0, h_0_0, h_1_0, q_0⟩ hgr G hB hW
    change G 0 [(0, .inr (.inr (some p0))), (1, .inr (.inr (some p1)))] [] σ0
    refine hB _ _ _ _ (kgoC (is := KX0_layInside_0) rfl ?_)
    refine k_aload_n rfl ?_
    obtain ⟨x3, e1, c2, h4, h5⟩ := cg270 H0.1 h_1_0
    refine k_get kg270 h_1_0 e1 ?_
    refine k_lsw ?_
    refine k_swc (fun h6 => ?_) (fun h6 => ?_)
    · refine hB _ _ _ _ (kgoC (is := KX0_layInside_144) rfl ?_)
      refine k_aload_n rfl ?_
      refine k_aload_n rfl ?_
      obtain ⟨o9, e7, c8, t10, f11⟩ := cg276 H0.1 h_1_0
      refine k_get kg276 h_1_0 e7 ?_
      refine k_inv (P := (P_X0_layRow d)) (Q := Q_X0_layRow) rfl rfl rfl rfl (Nat.le_of_ble_eq_true rfl) (h_0_0.rc (by decide)) ⟨_, o9, rfl, H0, h_0_0, t10, (fun b hb => q_0.row (f11 b hb).2.2 c2 (by omega))⟩ (fun w12 σ13 q14 => ?_)
      obtain ⟨rfl, H15, e16⟩ := q14
      refine k_st (st' := []) rfl ?_
      refine k_goto ?_
      refine hB _ _ _ _ (kgoC (is := KX0_layInside_309) rfl ?_)
      refine k_return ?_
      have X17 : ExC [34, 36, 77, 289, 290] σ0 σ13 := ExC.rf.tr (e16.mo (by decide))
      exact ⟨rfl, H15, X17⟩
    refine k_swc (fun h18 => ?_) (fun h18 => ?_)
    · refine hB _ _ _ _ (kgoC (is := KX0_layInside_155) rfl ?_)
      refine k_aload_n rfl ?_
      refine k_aload_n rfl ?_
      obtain ⟨o21, e19, c20, t22, f23⟩ := cg276 H0.1 h_1_0
      refine k_get kg276 h_1_0 e19 ?_
      refine k_inv (P := (P_X0_layInner d)) (Q := Q_X0_layInner) rfl rfl rfl rfl (Nat.le_of_ble_eq_true rfl) (h_0_0.rc (by decide)) ⟨_, o21, rfl, H0, h_0_0, t22, (fun b hb => q_0.ch (f23 b hb).2.2)⟩ (fun w24 σ25 q26 => ?_)
      obtain ⟨rfl, H27, e28⟩ := q26
      refine k_st (st' := []) rfl ?_
      refine k_goto ?_
      refine hB _ _ _ _ (kgoC (is := KX0_layInside_309) rfl ?_)
      refine k_return ?_
      have X29 : ExC [34, 36, 77, 289, 290] σ0 σ25 := ExC.rf.tr (e28.mo (by decide))
      exact ⟨rfl, H27, X29⟩
    refine k_swc (fun h30 => ?_) (fun h30 => ?_)
    · refine hB _ _ _ _ (kgoC (is := KX0_layInside_193) rfl ?_)
      refine k_aload_n rfl ?_
      refine k_aload_n rfl ?_
      refine k_inv (P := (P_X0_layIf (d + 1))) (Q := Q_X0_layIf) rfl rfl rfl rfl (Nat.le_of_ble_eq_true rfl) (h_0_0.rc (by decide)) ⟨_, _, rfl, H0, h_0_0, h_1_0, q_0⟩ (fun w31 σ32 q33 => ?_)
      obtain ⟨rfl, H34, e35⟩ := q33
      refine k_st (st' := []) rfl ?_
      refine k_goto ?_
      refine hB _ _ _ _ (kgoC (is := KX0_layInside_309) rfl ?_)
      refine k_return ?_
      have X36 : ExC [34, 36, 77, 289, 290] σ0 σ32 := ExC.rf.tr (e35.mo (by decide))
      exact ⟨rfl, H34, X36⟩
    refine k_swc (fun h37 => ?_) (fun h37 => ?_)
    · refine hB _ _ _ _ (kgoC (is := KX0_layInside_201) rfl ?_)
      refine k_aload_n rfl ?_
      refine k_aload_n rfl ?_
      refine k_inv (P := (P_X0_layWhile (d + 1))) (Q := Q_X0_layWhile) rfl rfl rfl rfl (Nat.le_of_ble_eq_true rfl) (h_0_0.rc (by decide)) ⟨_, _, rfl, H0, h_0_0, h_1_0, q_0⟩ (fun w38 σ39 q40 => ?_)
      obtain ⟨rfl, H41, e42⟩ := q40
      refine k_st (st' := []) rfl ?_
      refine k_goto ?_
      refine hB _ _ _ _ (kgoC (is := KX0_layInside_309) rfl ?_)
      refine k_return ?_
      have X43 : ExC [34, 36, 77, 289, 290] σ0 σ39 := ExC.rf.tr (e42.mo (by decide))
      exact ⟨rfl, H41, X43⟩
    refine k_swc (fun h44 => ?_) (fun h44 => ?_)
    · refine hB _ _ _ _ (kgoC (is := KX0_layInside_209) rfl ?_)
      refine k_aload_n rfl ?_
      refine k_aload_n rfl ?_
      refine k_inv (P := (P_X0_layDo (d + 1))) (Q := Q_X0_layDo) rfl rfl rfl rfl (Nat.le_of_ble_eq_true rfl) (h_0_0.rc (by decide)) ⟨_, _, rfl, H0, h_0_0, h_1_0, q_0⟩ (fun w45 σ46 q47 => ?_)
      obtain ⟨rfl, H48, e49⟩ := q47
      refine k_st (st' := []) rfl ?_
      refine k_goto ?_
      refine hB _ _ _ _ (kgoC (is := KX0_layInside_309) rfl ?_)
      refine k_return ?_
      have X50 : ExC [34, 36, 77, 289, 290] σ0 σ46 := ExC.rf.tr (e49.mo (by decide))
      exact ⟨rfl, H48, X50⟩
    refine k_swc (fun h51 => ?_) (fun h51 => ?_)
    · refine hB _ _ _ _ (kgoC (is := KX0_layInside_217) rfl ?_)
      refine k_aload_n rfl ?_
      refine k_aload_n rfl ?_
      refine k_inv (P := (P_X0_layFor (d + 1))) (Q := Q_X0_layFor) rfl rfl rfl rfl (Nat.le_of_ble_eq_true rfl) (h_0_0.rc (by decide)) ⟨_, _, rfl, H0, h_0_0, h_1_0, q_0, (by rw [c2]; omega)⟩ (fun w52 σ53 q54 => ?_)
      obtain ⟨rfl, H55, e56⟩ := q54
      refine k_st (st' := []) rfl ?_
      refine k_goto ?_
      refine hB _ _ _ _ (kgoC (is := KX0_layInside_309) rfl ?_)
      refine k_return ?_
      have X57 : ExC [34, 36, 77, 289, 290] σ0 σ53 := ExC.rf.tr (e56.mo (by decide))
      exact ⟨rfl, H55, X57⟩
    refine k_swc (fun h58 => ?_) (fun h58 => ?_)
    · refine hB _ _ _ _ (kgoC (is := KX0_layInside_225) rfl ?_)
      refine k_aload_n rfl ?_
      refine k_aload_n rfl ?_
      obtain ⟨o61, e59, c60, t62⟩ := cg279 H0.1 h_1_0
      refine k_get kg279 h_1_0 e59 ?_
      refine k_inv (P := P_X0_layExp) (Q := Q_X0_layExp) rfl rfl rfl rfl (Nat.le_of_ble_eq_true rfl) (h_0_0.rc (by decide)) ⟨_, o61, rfl, H0, h_0_0, t62⟩ (fun w63 σ64 q65 => ?_)
      obtain ⟨rfl, H66, e67⟩ := q65
      refine k_st (st' := []) rfl ?_
      refine k_aload_n rfl ?_
      refine k_bipush (m := 17) rfl (fun x68 h69 => ?_)
      refine k_aconst_null ?_
      have t70 := h_0_0.x e67
      refine k_inv (P := P_X0_put) (Q := Q_X0_put) rfl rfl rfl rfl (Nat.le_of_ble_eq_true rfl) (t70.rc (by decide)) ⟨_, _, none, rfl, H66, t70, OtC.n⟩ (fun w71 σ72 q73 => ?_)
      obtain ⟨x74, rfl, H75, e76, h77, h78⟩ := q73
      refine k_st (st' := [.inl x74]) rfl ?_
      refine k_popI ?_
      refine k_aload_n rfl ?_
      refine k_aload_n rfl ?_
      have t79 := h_1_0.x e67
      have t80 := t79.x e76
      obtain ⟨o83, e81, c82, t84, f85⟩ := cg276 H75.1 t80
      refine k_get kg276 t80 e81 ?_
      have t86 := t70.x e76
      have r87 := q_0.x h_1_0 e67
      have r88 := r87.x t79 e76
      have c89 := (h_1_0.mi e67 (by decide)).trans c2
      have c90 := (t79.mi e76 (by decide)).trans c89
      refine k_inv (P := (P_X0_layRow d)) (Q := Q_X0_layRow) rfl rfl rfl rfl (Nat.le_of_ble_eq_true rfl) (t86.rc (by decide)) ⟨_, o83, rfl, H75, t86, t84, (fun b hb => r88.row (f85 b hb).2.2 c90 (by omega))⟩ (fun w91 σ92 q93 => ?_)
      obtain ⟨rfl, H94, e95⟩ := q93
      refine k_st (st' := []) rfl ?_
      refine k_goto ?_
      refine hB _ _ _ _ (kgoC (is := KX0_layInside_309) rfl ?_)
      refine k_return ?_
      have X96 : ExC [34, 36, 77, 289, 290] σ0 σ64 := ExC.rf.tr (e67.mo (by decide))
      have X97 : ExC [34, 36, 77, 289, 290] σ0 σ72 := X96.tr (e76.mo (by decide))
      have X98 : ExC [34, 36, 77, 289, 290] σ0 σ92 := X97.tr (e95.mo (by decide))
      exact ⟨rfl, H94, X98⟩
    refine k_swc (fun h99 => ?_) (fun h99 => ?_)
    · refine hB _ _ _ _ (kgoC (is := KX0_layInside_260) rfl ?_)
      refine k_aload_n rfl ?_
      refine k_bipush (m := 18) rfl (fun x100 h101 => ?_)
      refine k_aconst_null ?_
      refine k_inv (P := P_X0_put) (Q := Q_X0_put) rfl rfl rfl rfl (Nat.le_of_ble_eq_true rfl) (h_0_0.rc (by decide)) ⟨_, _, none, rfl, H0, h_0_0, OtC.n⟩ (fun w102 σ103 q104 => ?_)
      obtain ⟨x105, rfl, H106, e107, h108, h109⟩ := q104
      refine k_st (st' := [.inl x105]) rfl ?_
      refine k_popI ?_
      refine k_goto ?_
      refine hB _ _ _ _ (kgoC (is := KX0_layInside_309) rfl ?_)
      refine k_return ?_
      have X110 : ExC [34, 36, 77, 289, 290] σ0 σ103 := ExC.rf.tr (e107.mo (by decide))
      exact ⟨rfl, H106, X110⟩
    refine k_swc (fun h111 => ?_) (fun h111 => ?_)
    · refine hB _ _ _ _ (kgoC (is := KX0_layInside_260) rfl ?_)
      refine k_aload_n rfl ?_
      refine k_bipush (m := 18) rfl (fun x112 h113 => ?_)
      refine k_aconst_null ?_
      refine k_inv (P := P_X0_put) (Q := Q_X0_put) rfl rfl rfl rfl (Nat.le_of_ble_eq_true rfl) (h_0_0.rc (by decide)) ⟨_, _, none, rfl, H0, h_0_0, OtC.n⟩ (fun w114 σ115 q116 => ?_)
      obtain ⟨x117, rfl, H118, e119, h120, h121⟩ := q116
      refine k_st (st' := [.inl x117]) rfl ?_
      refine k_popI ?_
      refine k_goto ?_
      refine hB _ _ _ _ (kgoC (is := KX0_layInside_309) rfl ?_)
      refine k_return ?_
      have X122 : ExC [34, 36, 77, 289, 290] σ0 σ115 := ExC.rf.tr (e119.mo (by decide))
      exact ⟨rfl, H118, X122⟩
    refine k_swc (fun h123 => ?_) (fun h123 => ?_)
    · refine hB _ _ _ _ (kgoC (is := KX0_layInside_271) rfl ?_)
      refine k_aload_n rfl ?_
      refine k_aload_n rfl ?_
      obtain ⟨o126, e124, c125, t127⟩ := cg279 H0.1 h_1_0
      refine k_get kg279 h_1_0 e124 ?_
      refine k_inv (P := P_X0_layExp) (Q := Q_X0_layExp) rfl rfl rfl rfl (Nat.le_of_ble_eq_true rfl) (h_0_0.rc (by decide)) ⟨_, o126, rfl, H0, h_0_0, t127⟩ (fun w128 σ129 q130 => ?_)
      obtain ⟨rfl, H131, e132⟩ := q130
      refine k_st (st' := []) rfl ?_
      refine k_aload_n rfl ?_
      refine k_bipush (m := 19) rfl (fun x133 h134 => ?_)
      refine k_aconst_null ?_
      have t135 := h_0_0.x e132
      refine k_inv (P := P_X0_put) (Q := Q_X0_put) rfl rfl rfl rfl (Nat.le_of_ble_eq_true rfl) (t135.rc (by decide)) ⟨_, _, none, rfl, H131, t135, OtC.n⟩ (fun w136 σ137 q138 => ?_)
      obtain ⟨x139, rfl, H140, e141, h142, h143⟩ := q138
      refine k_st (st' := [.inl x139]) rfl ?_
      refine k_popI ?_
      refine k_goto ?_
      refine hB _ _ _ _ (kgoC (is := KX0_layInside_309) rfl ?_)
      refine k_return ?_
      have X144 : ExC [34, 36, 77, 289, 290] σ0 σ129 := ExC.rf.tr (e132.mo (by decide))
      have X145 : ExC [34, 36, 77, 289, 290] σ0 σ137 := X144.tr (e141.mo (by decide))
      exact ⟨rfl, H140, X145⟩
    refine k_swc (fun h146 => ?_) (fun h146 => ?_)
    · refine hB _ _ _ _ (kgoC (is := KX0_layInside_290) rfl ?_)
      refine k_aload_n rfl ?_
      refine k_aload_n rfl ?_
      obtain ⟨o149, e147, c148, t150⟩ := cg279 H0.1 h_1_0
      refine k_get kg279 h_1_0 e147 ?_
      refine k_inv (P := P_X0_layExp) (Q := Q_X0_layExp) rfl rfl rfl rfl (Nat.le_of_ble_eq_true rfl) (h_0_0.rc (by decide)) ⟨_, o149, rfl, H0, h_0_0, t150⟩ (fun w151 σ152 q153 => ?_)
      obtain ⟨rfl, H154, e155⟩ := q153
      refine k_st (st' := []) rfl ?_
      refine k_aload_n rfl ?_
      refine k_bipush (m := 20) rfl (fun x156 h157 => ?_)
      refine k_aconst_null ?_
      have t158 := h_0_0.x e155
      refine k_inv (P := P_X0_put) (Q := Q_X0_put) rfl rfl rfl rfl (Nat.le_of_ble_eq_true rfl) (t158.rc (by decide)) ⟨_, _, none, rfl, H154, t158, OtC.n⟩ (fun w159 σ160 q161 => ?_)
      obtain ⟨x162, rfl, H163, e164, h165, h166⟩ := q161
      refine k_st (st' := [.inl x162]) rfl ?_
      refine k_popI ?_
      refine k_goto ?_
      refine hB _ _ _ _ (kgoC (is := KX0_layInside_309) rfl ?_)
      refine k_return ?_
      have X167 : ExC [34, 36, 77, 289, 290] σ0 σ152 := ExC.rf.tr (e155.mo (by decide))
      have X168 : ExC [34, 36, 77, 289, 290] σ0 σ160 := X167.tr (e164.mo (by decide))
      exact ⟨rfl, H163, X168⟩
    refine k_swc (fun h169 => ?_) (fun h169 => ?_)
    · refine hB _ _ _ _ (kgoC (is := KX0_layInside_252) rfl ?_)
      refine k_aload_n rfl ?_
      refine k_aload_n rfl ?_
      refine k_inv (P := (P_X0_layTry (d + 1))) (Q := Q_X0_layTry) rfl rfl rfl rfl (Nat.le_of_ble_eq_true rfl) (h_0_0.rc (by decide)) ⟨_, _, rfl, H0, h_0_0, h_1_0, q_0, (by rw [c2]; omega)⟩ (fun w170 σ171 q172 => ?_)
      obtain ⟨rfl, H173, e174⟩ := q172
      refine k_st (st' := []) rfl ?_
      refine k_goto ?_
      refine hB _ _ _ _ (kgoC (is := KX0_layInside_309) rfl ?_)
      refine k_return ?_
      have X175 : ExC [34, 36, 77, 289, 290] σ0 σ171 := ExC.rf.tr (e174.mo (by decide))
      exact ⟨rfl, H173, X175⟩
    refine k_swc (fun h176 => ?_) (fun h176 => ?_)
    · refine hB _ _ _ _ (kgoC (is := KX0_layInside_174) rfl ?_)
      refine k_aload_n rfl ?_
      refine k_aload_n rfl ?_
      obtain ⟨o179, e177, c178, t180⟩ := cg279 H0.1 h_1_0
      refine k_get kg279 h_1_0 e177 ?_
      refine k_inv (P := P_X0_layExp) (Q := Q_X0_layExp) rfl rfl rfl rfl (Nat.le_of_ble_eq_true rfl) (h_0_0.rc (by decide)) ⟨_, o179, rfl, H0, h_0_0, t180⟩ (fun w181 σ182 q183 => ?_)
      obtain ⟨rfl, H184, e185⟩ := q183
      refine k_st (st' := []) rfl ?_
      refine k_aload_n rfl ?_
      refine k_bipush (m := 9) rfl (fun x186 h187 => ?_)
      refine k_aconst_null ?_
      have t188 := h_0_0.x e185
      refine k_inv (P := P_X0_put) (Q := Q_X0_put) rfl rfl rfl rfl (Nat.le_of_ble_eq_true rfl) (t188.rc (by decide)) ⟨_, _, none, rfl, H184, t188, OtC.n⟩ (fun w189 σ190 q191 => ?_)
      obtain ⟨x192, rfl, H193, e194, h195, h196⟩ := q191
      refine k_st (st' := [.inl x192]) rfl ?_
      refine k_popI ?_
      refine k_goto ?_
      refine hB _ _ _ _ (kgoC (is := KX0_layInside_309) rfl ?_)
      refine k_return ?_
      have X197 : ExC [34, 36, 77, 289, 290] σ0 σ182 := ExC.rf.tr (e185.mo (by decide))
      have X198 : ExC [34, 36, 77, 289, 290] σ0 σ190 := X197.tr (e194.mo (by decide))
      exact ⟨rfl, H193, X198⟩
    refine k_swc (fun h199 => ?_) (fun h199 => ?_)
    · refine hB _ _ _ _ (kgoC (is := KX0_layInside_166) rfl ?_)
      refine k_aload_n rfl ?_
      refine k_aload_n rfl ?_
      refine k_inv (P := P_X0_layTold) (Q := Q_X0_layTold) rfl rfl rfl rfl (Nat.le_of_ble_eq_true rfl) (h_0_0.rc (by decide)) ⟨_, _, rfl, H0, h_0_0, h_1_0⟩ (fun w200 σ201 q202 => ?_)
      obtain ⟨rfl, H203, e204⟩ := q202
      refine k_st (st' := []) rfl ?_
      refine k_goto ?_
      refine hB _ _ _ _ (kgoC (is := KX0_layInside_309) rfl ?_)
      refine k_return ?_
      have X205 : ExC [34, 36, 77, 289, 290] σ0 σ201 := ExC.rf.tr (e204.mo (by decide))
      exact ⟨rfl, H203, X205⟩
    refine k_swc (fun h206 => ?_) (fun h206 => ?_)
    · refine hB _ _ _ _ (kgoC (is := KX0_layInside_166) rfl ?_)
      refine k_aload_n rfl ?_
      refine k_aload_n rfl ?_
      refine k_inv (P := P_X0_layTold) (Q := Q_X0_layTold) rfl rfl rfl rfl (Nat.le_of_ble_eq_true rfl) (h_0_0.rc (by decide)) ⟨_, _, rfl, H0, h_0_0, h_1_0⟩ (fun w207 σ208 q209 => ?_)
      obtain ⟨rfl, H210, e211⟩ := q209
      refine k_st (st' := []) rfl ?_
      refine k_goto ?_
      refine hB _ _ _ _ (kgoC (is := KX0_layInside_309) rfl ?_)
      refine k_return ?_
      have X212 : ExC [34, 36, 77, 289, 290] σ0 σ208 := ExC.rf.tr (e211.mo (by decide))
      exact ⟨rfl, H210, X212⟩
    refine k_swc (fun h213 => ?_) (fun h213 => ?_)
    · refine hB _ _ _ _ (kgoC (is := KX0_layInside_174) rfl ?_)
      refine k_aload_n rfl ?_
      refine k_aload_n rfl ?_
      obtain ⟨o216, e214, c215, t217⟩ := cg279 H0.1 h_1_0
      refine k_get kg279 h_1_0 e214 ?_
      refine k_inv (P := P_X0_layExp) (Q := Q_X0_layExp) rfl rfl rfl rfl (Nat.le_of_ble_eq_true rfl) (h_0_0.rc (by decide)) ⟨_, o216, rfl, H0, h_0_0, t217⟩ (fun w218 σ219 q220 => ?_)
      obtain ⟨rfl, H221, e222⟩ := q220
      refine k_st (st' := []) rfl ?_
      refine k_aload_n rfl ?_
      refine k_bipush (m := 9) rfl (fun x223 h224 => ?_)
      refine k_aconst_null ?_
      have t225 := h_0_0.x e222
      refine k_inv (P := P_X0_put) (Q := Q_X0_put) rfl rfl rfl rfl (Nat.le_of_ble_eq_true rfl) (t225.rc (by decide)) ⟨_, _, none, rfl, H221, t225, OtC.n⟩ (fun w226 σ227 q228 => ?_)
      obtain ⟨x229, rfl, H230, e231, h232, h233⟩ := q228
      refine k_st (st' := [.inl x229]) rfl ?_
      refine k_popI ?_
      refine k_goto ?_
      refine hB _ _ _ _ (kgoC (is := KX0_layInside_309) rfl ?_)
      refine k_return ?_
      have X234 : ExC [34, 36, 77, 289, 290] σ0 σ219 := ExC.rf.tr (e222.mo (by decide))
      have X235 : ExC [34, 36, 77, 289, 290] σ0 σ227 := X234.tr (e231.mo (by decide))
      exact ⟨rfl, H230, X235⟩
    refine k_swn ?_
    refine hB _ _ _ _ (kgoC (is := KX0_layInside_309) rfl ?_)
    refine k_return ?_
    exact ⟨rfl, H0, (ExC.rf : ExC [34, 36, 77, 289, 290] σ0 σ0)⟩
theorem lg_X0_layInside (d : Nat) : ∀ (As : List AvC) (σ : CsC), (P_X0_layInside (d + 1)) As σ → lgC As ≤ rX0_layInside.2.2.1 := by
  rintro As σ ⟨p0, p1, rfl, -⟩
  exact Nat.le_of_ble_eq_true rfl
theorem s_X0_layInside (l : Launch) (d : Nat) (h_X0_layRow : CMetC l (8 * d + 25) 5 (P_X0_layRow d) Q_X0_layRow) (h_X0_layInner : CMetC l (8 * d + 25) 7 (P_X0_layInner d) Q_X0_layInner) (h_X0_layIf : CMetC l (8 * (d + 1) + 22) 10 (P_X0_layIf (d + 1)) Q_X0_layIf) (h_X0_layWhile : CMetC l (8 * (d + 1) + 22) 11 (P_X0_layWhile (d + 1)) Q_X0_layWhile) (h_X0_layDo : CMetC l (8 * (d + 1) + 22) 12 (P_X0_layDo (d + 1)) Q_X0_layDo) (h_X0_layFor : CMetC l (8 * (d + 1) + 22) 13 (P_X0_layFor (d + 1)) Q_X0_layFor) (h_X0_layTry : CMetC l (8 * (d + 1) + 22) 14 (P_X0_layTry (d + 1)) Q_X0_layTry) : CMetC l (8 * (d + 1) + 23) 8 (P_X0_layInside (d + 1)) Q_X0_layInside :=
  CMetC.of KX0_layInside [(5, (P_X0_layRow d), Q_X0_layRow), (7, (P_X0_layInner d), Q_X0_layInner), (10, (P_X0_layIf (d + 1)), Q_X0_layIf), (11, (P_X0_layWhile (d + 1)), Q_X0_layWhile), (12, (P_X0_layDo (d + 1)), Q_X0_layDo), (13, (P_X0_layFor (d + 1)), Q_X0_layFor), (15, P_X0_layExp, Q_X0_layExp), (2, P_X0_put, Q_X0_put), (14, (P_X0_layTry (d + 1)), Q_X0_layTry), (9, P_X0_layTold, Q_X0_layTold)] hX0_layInside (by decide) (by omega) okX0_layInside (cc1C h_X0_layRow (by omega) (cc1C h_X0_layInner (by omega) (cc1C h_X0_layIf (by omega) (cc1C h_X0_layWhile (by omega) (cc1C h_X0_layDo (by omega) (cc1C h_X0_layFor (by omega) (cc1C (m_X0_layExp l) (by omega) (cc1C (m_X0_put l) (by omega) (cc1C h_X0_layTry (by omega) (cc1C (m_X0_layTold l) (by omega) cc0C)))))))))) (lg_X0_layInside d) (b_X0_layInside d)

set_option maxRecDepth 100000 in
set_option maxHeartbeats 4000000 in
theorem b_X0_layStatement (d : Nat) : TbC KX0_layStatement [(180, P_X8_isPart, Q_X8_isPart), (8, (P_X0_layInside (d + 1)), Q_X0_layInside), (2, P_X0_put, Q_X0_put)] (P_X0_layStatement (d + 1)) Q_X0_layStatement := by
  · rintro As σ0 ⟨p0, p1, rfl, H0, h_0_0, h_1_0, q_0⟩ hgr G hB hW
    change G 0 [(0, .inr (.inr (some p0))), (1, .inr (.inr (some p1)))] [] σ0
    refine hB _ _ _ _ (kgoC (is := KX0_layStatement_0) rfl ?_)
    refine k_aload_n rfl ?_
    obtain ⟨x3, e1, c2, h4, h5⟩ := cg272 H0.1 h_1_0
    refine k_get kg272 h_1_0 e1 ?_
    refine k_bipush (m := 20) rfl (fun x6 h7 => ?_)
    refine k_ic_le (fun h8 => ?_) (fun h8 => ?_)
    · refine hB _ _ _ _ (kgoC (is := KX0_layStatement_10) rfl ?_)
      refine k_aload_n rfl ?_
      obtain ⟨a11, e9, c10, t12⟩ := cg36 H0.1 h_0_0
      refine k_get kg36 h_0_0 e9 ?_
      refine k_astore_n (ls' := [(2, .inr (.inr (some a11))), (0, .inr (.inr (some p0))), (1, .inr (.inr (some p1)))]) rfl ?_
      refine k_aload_n rfl ?_
      refine k_aload_n rfl ?_
      refine k_putR kp36 H0 h_0_0 fk36 (rf36 h_1_0) (fun σ13 H14 e15 c16 => ?_)
      refine k_aload_n rfl ?_
      have t17 := h_1_0.x e15
      refine k_inv (P := P_X8_isPart) (Q := Q_X8_isPart) rfl rfl rfl rfl (Nat.le_of_ble_eq_true rfl) (t17.rc (by decide)) ⟨_, rfl, H14, t17⟩ (fun w18 σ19 q20 => ?_)
      obtain ⟨x21, rfl, rfl, h22, h23⟩ := q20
      refine k_st (st' := [.inl x21]) rfl ?_
      refine k_if_ne (fun h24 => ?_) (fun h24 => ?_)
      · refine hB _ _ _ _ (kgoC (is := KX0_layStatement_35) rfl ?_)
        refine k_aload_n rfl ?_
        refine k_aload_n rfl ?_
        have t25 := h_0_0.x e15
        obtain ⟨x28, e26, c27, h29, h30⟩ := cg34 H14.1 t25
        refine k_get kg34 t25 e26 ?_
        refine k_putI kp289 H14 t17 (Or.inl fk289) (tiC x28).1 (tiC x28).2 (fun σ31 H32 e33 c34 => ?_)
        refine k_aload_n rfl ?_
        refine k_aload_n rfl ?_
        have t35 := t25.x e33
        have t36 := t17.x e33
        have r37 := q_0.x h_1_0 e15
        have r38 := r37.x t17 e33
        refine k_inv (P := (P_X0_layInside (d + 1))) (Q := Q_X0_layInside) rfl rfl rfl rfl (Nat.le_of_ble_eq_true rfl) (t35.rc (by decide)) ⟨_, _, rfl, H32, t35, t36, r38⟩ (fun w39 σ40 q41 => ?_)
        obtain ⟨rfl, H42, e43⟩ := q41
        refine k_st (st' := []) rfl ?_
        refine k_aload_n rfl ?_
        refine k_aload_n rfl ?_
        have t44 := t35.x e43
        have c45 := (t25.mi e33 (by decide)).trans c27
        obtain ⟨x48, e46, c47, h49, h50⟩ := cg34 H42.1 t44
        refine k_get kg34 t44 e46 ?_
        have t51 := t36.x e43
        refine k_putI kp290 H42 t51 (Or.inl fk290) (tiC x48).1 (tiC x48).2 (fun σ52 H53 e54 c55 => ?_)
        refine k_aload_n rfl ?_
        refine k_aload_n rfl ?_
        have t56 := t44.x e54
        have t61 := t12.x e15
        have t62 := t61.x e33
        have t63 := t62.x e43
        have t64 := t63.x e54
        refine k_putR kp36 H53 t56 fk36 (rf36 t64) (fun σ57 H58 e59 c60 => ?_)
        refine k_return ?_
        have X65 : ExC [34, 36, 77, 289, 290] σ0 σ13 := ExC.rf.tr (e15.mo (by decide))
        have X66 : ExC [34, 36, 77, 289, 290] σ0 σ31 := X65.tr (e33.mo (by decide))
        have X67 : ExC [34, 36, 77, 289, 290] σ0 σ40 := X66.tr (e43.mo (by decide))
        have X68 : ExC [34, 36, 77, 289, 290] σ0 σ52 := X67.tr (e54.mo (by decide))
        have X69 : ExC [34, 36, 77, 289, 290] σ0 σ57 := X68.tr (e59.mo (by decide))
        exact ⟨rfl, H58, X69⟩
      · refine k_nil ?_
        refine hB _ _ _ _ (kgoC (is := KX0_layStatement_27) rfl ?_)
        refine k_aload_n rfl ?_
        refine k_bipush (m := 15) rfl (fun x70 h71 => ?_)
        refine k_aconst_null ?_
        have t72 := h_0_0.x e15
        refine k_inv (P := P_X0_put) (Q := Q_X0_put) rfl rfl rfl rfl (Nat.le_of_ble_eq_true rfl) (t72.rc (by decide)) ⟨_, _, none, rfl, H14, t72, OtC.n⟩ (fun w73 σ74 q75 => ?_)
        obtain ⟨x76, rfl, H77, e78, h79, h80⟩ := q75
        refine k_st (st' := [.inl x76]) rfl ?_
        refine k_popI ?_
        refine k_nil ?_
        refine hB _ _ _ _ (kgoC (is := KX0_layStatement_35) rfl ?_)
        refine k_aload_n rfl ?_
        refine k_aload_n rfl ?_
        have t81 := t72.x e78
        obtain ⟨x84, e82, c83, h85, h86⟩ := cg34 H77.1 t81
        refine k_get kg34 t81 e82 ?_
        have t87 := t17.x e78
        refine k_putI kp289 H77 t87 (Or.inl fk289) (tiC x84).1 (tiC x84).2 (fun σ88 H89 e90 c91 => ?_)
        refine k_aload_n rfl ?_
        refine k_aload_n rfl ?_
        have t92 := t81.x e90
        have t93 := t87.x e90
        have r94 := q_0.x h_1_0 e15
        have r95 := r94.x t17 e78
        have r96 := r95.x t87 e90
        refine k_inv (P := (P_X0_layInside (d + 1))) (Q := Q_X0_layInside) rfl rfl rfl rfl (Nat.le_of_ble_eq_true rfl) (t92.rc (by decide)) ⟨_, _, rfl, H89, t92, t93, r96⟩ (fun w97 σ98 q99 => ?_)
        obtain ⟨rfl, H100, e101⟩ := q99
        refine k_st (st' := []) rfl ?_
        refine k_aload_n rfl ?_
        refine k_aload_n rfl ?_
        have t102 := t92.x e101
        have c103 := (t81.mi e90 (by decide)).trans c83
        obtain ⟨x106, e104, c105, h107, h108⟩ := cg34 H100.1 t102
        refine k_get kg34 t102 e104 ?_
        have t109 := t93.x e101
        refine k_putI kp290 H100 t109 (Or.inl fk290) (tiC x106).1 (tiC x106).2 (fun σ110 H111 e112 c113 => ?_)
        refine k_aload_n rfl ?_
        refine k_aload_n rfl ?_
        have t114 := t102.x e112
        have t119 := t12.x e15
        have t120 := t119.x e78
        have t121 := t120.x e90
        have t122 := t121.x e101
        have t123 := t122.x e112
        refine k_putR kp36 H111 t114 fk36 (rf36 t123) (fun σ115 H116 e117 c118 => ?_)
        refine k_return ?_
        have X124 : ExC [34, 36, 77, 289, 290] σ0 σ13 := ExC.rf.tr (e15.mo (by decide))
        have X125 : ExC [34, 36, 77, 289, 290] σ0 σ74 := X124.tr (e78.mo (by decide))
        have X126 : ExC [34, 36, 77, 289, 290] σ0 σ88 := X125.tr (e90.mo (by decide))
        have X127 : ExC [34, 36, 77, 289, 290] σ0 σ98 := X126.tr (e101.mo (by decide))
        have X128 : ExC [34, 36, 77, 289, 290] σ0 σ110 := X127.tr (e112.mo (by decide))
        have X129 : ExC [34, 36, 77, 289, 290] σ0 σ115 := X128.tr (e117.mo (by decide))
        exact ⟨rfl, H116, X129⟩
    · refine k_nil ?_
      refine hB _ _ _ _ (kgoC (is := KX0_layStatement_9) rfl ?_)
      refine k_return ?_
      exact ⟨rfl, H0, (ExC.rf : ExC [34, 36, 77, 289, 290] σ0 σ0)⟩
theorem lg_X0_layStatement (d : Nat) : ∀ (As : List AvC) (σ : CsC), (P_X0_layStatement (d + 1)) As σ → lgC As ≤ rX0_layStatement.2.2.1 := by
  rintro As σ ⟨p0, p1, rfl, -⟩
  exact Nat.le_of_ble_eq_true rfl
theorem s_X0_layStatement (l : Launch) (d : Nat) (h_X0_layInside : CMetC l (8 * (d + 1) + 23) 8 (P_X0_layInside (d + 1)) Q_X0_layInside) : CMetC l (8 * (d + 1) + 24) 6 (P_X0_layStatement (d + 1)) Q_X0_layStatement :=
  CMetC.of KX0_layStatement [(180, P_X8_isPart, Q_X8_isPart), (8, (P_X0_layInside (d + 1)), Q_X0_layInside), (2, P_X0_put, Q_X0_put)] hX0_layStatement (by decide) (by omega) okX0_layStatement (cc1C (m_X8_isPart l) (by omega) (cc1C h_X0_layInside (by omega) (cc1C (m_X0_put l) (by omega) cc0C))) (lg_X0_layStatement d) (b_X0_layStatement d)

set_option maxRecDepth 100000 in
set_option maxHeartbeats 4000000 in
theorem b_X0_layInner (d : Nat) : TbC KX0_layInner [(6, (P_X0_layStatement d), Q_X0_layStatement)] (P_X0_layInner d) Q_X0_layInner := by
  · rintro As σ0 ⟨p0, p1, rfl, H0, h_0_0, h_1_0, q_0⟩ hgr G hB hW
    change G 0 [(0, .inr (.inr (some p0))), (1, .inr (.inr p1))] [] σ0
    refine hB _ _ _ _ (kgoC (is := KX0_layInner_0) rfl ?_)
    refine k_aload_n rfl ?_
    refine k_ifnull (fun h2 => ?_) (fun b1 h2 => ?_)
    · subst h2
      refine hB _ _ _ _ (kgoC (is := KX0_layInner_9) rfl ?_)
      refine k_return ?_
      exact ⟨rfl, H0, (ExC.rf : ExC [34, 36, 77, 289, 290] σ0 σ0)⟩
    · subst h2
      have t3 := h_1_0 b1 rfl
      have r4 := q_0 b1 rfl
      refine k_nil ?_
      refine hB _ _ _ _ (kgoC (is := KX0_layInner_4) rfl ?_)
      refine k_aload_n rfl ?_
      refine k_aload_n rfl ?_
      refine k_inv (P := (P_X0_layStatement d)) (Q := Q_X0_layStatement) rfl rfl rfl rfl (Nat.le_of_ble_eq_true rfl) (h_0_0.rc (by decide)) ⟨_, _, rfl, H0, h_0_0, t3, r4⟩ (fun w5 σ6 q7 => ?_)
      obtain ⟨rfl, H8, e9⟩ := q7
      refine k_st (st' := []) rfl ?_
      refine k_nil ?_
      refine hB _ _ _ _ (kgoC (is := KX0_layInner_9) rfl ?_)
      refine k_return ?_
      have X10 : ExC [34, 36, 77, 289, 290] σ0 σ6 := ExC.rf.tr (e9.mo (by decide))
      exact ⟨rfl, H8, X10⟩
theorem lg_X0_layInner (d : Nat) : ∀ (As : List AvC) (σ : CsC), (P_X0_layInner d) As σ → lgC As ≤ rX0_layInner.2.2.1 := by
  rintro As σ ⟨p0, p1, rfl, -⟩
  exact Nat.le_of_ble_eq_true rfl
theorem s_X0_layInner (l : Launch) (d : Nat) (h_X0_layStatement : CMetC l (8 * d + 24) 6 (P_X0_layStatement d) Q_X0_layStatement) : CMetC l (8 * d + 25) 7 (P_X0_layInner d) Q_X0_layInner :=
  CMetC.of KX0_layInner [(6, (P_X0_layStatement d), Q_X0_layStatement)] hX0_layInner (by decide) (by omega) okX0_layInner (cc1C h_X0_layStatement (by omega) cc0C) (lg_X0_layInner d) (b_X0_layInner d)

set_option maxRecDepth 100000 in
set_option maxHeartbeats 4000000 in
theorem b_X0_layRow (d : Nat) : TbC KX0_layRow [(6, (P_X0_layStatement d), Q_X0_layStatement)] (P_X0_layRow d) Q_X0_layRow := by
  · rintro As σ0 ⟨p0, p1, rfl, H0, h_0_0, h_1_0, q_0⟩ hgr G hB hW
    change G 0 [(0, .inr (.inr (some p0))), (1, .inr (.inr p1))] [] σ0
    have L2 : ∀ (n2 : Nat), ∀ (σ1 : CsC) (v2_2 : Option Nat), msNC (cnC σ0) v2_2 = n2 → HIC σ1 → ExC [34, 36, 77, 289, 290] σ0 σ1 → OtC σ1 v2_2 9 → (∀ b, v2_2 = some b → RowC σ1 b d) → G 2 [(0, .inr (.inr (some p0))), (2, .inr (.inr v2_2))] [] σ1 := by
      intro n2
      induction n2 using Nat.strongRecOn with
      | _ n2 ih2 =>
        intro σ1 v2_2 n2_ H2 e3 h4 r5
        refine hB _ _ _ _ (kgoC (is := KX0_layRow_2) rfl ?_)
        refine k_aload_n rfl ?_
        refine k_ifnull (fun h7 => ?_) (fun b6 h7 => ?_)
        · subst h7
          refine hB _ _ _ _ (kgoC (is := KX0_layRow_19) rfl ?_)
          refine k_return ?_
          have X8 : ExC [34, 36, 77, 289, 290] σ0 σ1 := ExC.rf.tr (e3.mo (by decide))
          exact ⟨rfl, H2, X8⟩
        · subst h7
          have t9 := h4 b6 rfl
          have r10 := r5 b6 rfl
          refine k_nil ?_
          refine hB _ _ _ _ (kgoC (is := KX0_layRow_6) rfl ?_)
          refine k_aload_n rfl ?_
          refine k_aload_n rfl ?_
          have t11 := h_0_0.x e3
          refine k_inv (P := (P_X0_layStatement d)) (Q := Q_X0_layStatement) rfl rfl rfl rfl (Nat.le_of_ble_eq_true rfl) (t11.rc (by decide)) ⟨_, _, rfl, H2, t11, t9, r10.rk⟩ (fun w12 σ13 q14 => ?_)
          obtain ⟨rfl, H15, e16⟩ := q14
          refine k_st (st' := []) rfl ?_
          refine k_aload_n rfl ?_
          have t17 := t9.x e16
          obtain ⟨o20, e18, c19, t21, f22⟩ := cg275 H15.1 t17
          refine k_get kg275 t17 e18 ?_
          refine k_astore_n (ls' := [(2, .inr (.inr o20)), (0, .inr (.inr (some p0)))]) rfl ?_
          refine k_goto ?_
          have r23 := r10.x t9 e16
          have X24 : ExC [34, 36, 77, 289, 290] σ0 σ1 := ExC.rf.tr (e3.mo (by decide))
          have X25 : ExC [34, 36, 77, 289, 290] σ0 σ13 := X24.tr (e16.mo (by decide))
          exact hW _ _ _ _ _ (List.forall_mem_cons.2 ⟨List.Mem.tail _ (List.Mem.head _), (List.forall_mem_cons.2 ⟨List.Mem.head _, fun _ h => absurd h List.not_mem_nil⟩)⟩) (ih2 (msNC (cnC σ0) o20) (by have qb := t17.1; have qc := (X25.cn (by decide) : cnC σ13 = cnC σ0); have qm := n2_; cases o20 with
                      | none => dsimp only [msNC] at qm ⊢; omega
                      | some bz => have := (t21 bz rfl).1; have qf := (f22 bz rfl).2; have qg := (show _ < bz from by first | exact qf | exact qf.1); dsimp only [msNC] at qm ⊢; omega) σ13 o20 rfl H15 X25 t21 (fun b hb => r23.nx (f22 b hb).2.2))
    refine hB _ _ _ _ (kgoC (is := KX0_layRow_0) rfl ?_)
    refine k_aload_n rfl ?_
    refine k_astore_n (ls' := [(2, .inr (.inr p1)), (0, .inr (.inr (some p0))), (1, .inr (.inr p1))]) rfl ?_
    refine k_nil ?_
    exact hW _ _ _ _ _ (List.forall_mem_cons.2 ⟨List.Mem.tail _ (List.Mem.head _), (List.forall_mem_cons.2 ⟨List.Mem.head _, fun _ h => absurd h List.not_mem_nil⟩)⟩) (L2 _ σ0 p1 rfl H0 ExC.rf h_1_0 q_0)
theorem lg_X0_layRow (d : Nat) : ∀ (As : List AvC) (σ : CsC), (P_X0_layRow d) As σ → lgC As ≤ rX0_layRow.2.2.1 := by
  rintro As σ ⟨p0, p1, rfl, -⟩
  exact Nat.le_of_ble_eq_true rfl
theorem s_X0_layRow (l : Launch) (d : Nat) (h_X0_layStatement : CMetC l (8 * d + 24) 6 (P_X0_layStatement d) Q_X0_layStatement) : CMetC l (8 * d + 25) 5 (P_X0_layRow d) Q_X0_layRow :=
  CMetC.of KX0_layRow [(6, (P_X0_layStatement d), Q_X0_layStatement)] hX0_layRow (by decide) (by omega) okX0_layRow (cc1C h_X0_layStatement (by omega) cc0C) (lg_X0_layRow d) (b_X0_layRow d)

theorem recA (l : Launch) : ∀ n : Nat, CMetC l (8 * n + 21) 21 (P_X2_reachRow n) Q_X2_reachRow ∧ CMetC l (8 * n + 21) 24 (P_X2_reachBody n) Q_X2_reachBody ∧ CMetC l (8 * n + 21) 25 (P_X2_reachSwitch n) Q_X2_reachSwitch ∧ CMetC l (8 * n + 21) 26 (P_X2_reachTry n) Q_X2_reachTry ∧ CMetC l (8 * n + 22) 23 (P_X2_reachInside n) Q_X2_reachInside ∧ CMetC l (8 * n + 23) 22 (P_X2_reach n) Q_X2_reach := by
  intro n
  induction n with
  | zero =>
    have i_X2_reachRow : CMetC l (8 * 0 + 21) 21 (P_X2_reachRow 0) Q_X2_reachRow := CMetC.no hX2_reachRow (by rintro As σ ⟨p0, p1, rfl, H0, h_0_0, h_1_0, q0, q1⟩; exact RkC.no H0 h_1_0 q0)
    have i_X2_reachBody : CMetC l (8 * 0 + 21) 24 (P_X2_reachBody 0) Q_X2_reachBody := CMetC.no hX2_reachBody (by rintro As σ ⟨p0, p1, p2, rfl, H0, h_0_0, h_1_0, h_2_0, h_2_1, q0⟩; exact RkC.no H0 h_1_0 q0)
    have i_X2_reachSwitch : CMetC l (8 * 0 + 21) 25 (P_X2_reachSwitch 0) Q_X2_reachSwitch := CMetC.no hX2_reachSwitch (by rintro As σ ⟨p0, p1, rfl, H0, h_0_0, h_1_0, q0, q1⟩; exact RkC.no H0 h_1_0 q0)
    have i_X2_reachTry : CMetC l (8 * 0 + 21) 26 (P_X2_reachTry 0) Q_X2_reachTry := CMetC.no hX2_reachTry (by rintro As σ ⟨p0, p1, rfl, H0, h_0_0, h_1_0, q0, q1⟩; exact RkC.no H0 h_1_0 q0)
    have i_X2_reachInside : CMetC l (8 * 0 + 22) 23 (P_X2_reachInside 0) Q_X2_reachInside := CMetC.no hX2_reachInside (by rintro As σ ⟨p0, p1, rfl, H0, h_0_0, h_1_0, q0⟩; exact RkC.no H0 h_1_0 q0)
    have i_X2_reach : CMetC l (8 * 0 + 23) 22 (P_X2_reach 0) Q_X2_reach := CMetC.no hX2_reach (by rintro As σ ⟨p0, p1, p2, rfl, H0, h_0_0, h_1_0, h_2_0, h_2_1, q0⟩; exact RkC.no H0 h_1_0 q0)
    exact ⟨i_X2_reachRow, i_X2_reachBody, i_X2_reachSwitch, i_X2_reachTry, i_X2_reachInside, i_X2_reach⟩
  | succ d ih =>
    obtain ⟨o_X2_reachRow, o_X2_reachBody, o_X2_reachSwitch, o_X2_reachTry, o_X2_reachInside, o_X2_reach⟩ := ih
    have i_X2_reachRow : CMetC l (8 * (d + 1) + 21) 21 (P_X2_reachRow (d + 1)) Q_X2_reachRow := s_X2_reachRow l d o_X2_reach
    have i_X2_reachBody : CMetC l (8 * (d + 1) + 21) 24 (P_X2_reachBody (d + 1)) Q_X2_reachBody := s_X2_reachBody l d o_X2_reach
    have i_X2_reachSwitch : CMetC l (8 * (d + 1) + 21) 25 (P_X2_reachSwitch (d + 1)) Q_X2_reachSwitch := s_X2_reachSwitch l d o_X2_reach
    have i_X2_reachTry : CMetC l (8 * (d + 1) + 21) 26 (P_X2_reachTry (d + 1)) Q_X2_reachTry := s_X2_reachTry l d o_X2_reachRow
    have i_X2_reachInside : CMetC l (8 * (d + 1) + 22) 23 (P_X2_reachInside (d + 1)) Q_X2_reachInside := s_X2_reachInside l d i_X2_reachRow i_X2_reachBody o_X2_reach i_X2_reachSwitch i_X2_reachTry
    have i_X2_reach : CMetC l (8 * (d + 1) + 23) 22 (P_X2_reach (d + 1)) Q_X2_reach := s_X2_reach l d i_X2_reachInside
    exact ⟨i_X2_reachRow, i_X2_reachBody, i_X2_reachSwitch, i_X2_reachTry, i_X2_reachInside, i_X2_reach⟩
theorem m_X2_reachRow (l : Launch) (n : Nat) : CMetC l (8 * n + 21) 21 (P_X2_reachRow n) Q_X2_reachRow := (recA l n).1
theorem m_X2_reachBody (l : Launch) (n : Nat) : CMetC l (8 * n + 21) 24 (P_X2_reachBody n) Q_X2_reachBody := (recA l n).2.1
theorem m_X2_reachSwitch (l : Launch) (n : Nat) : CMetC l (8 * n + 21) 25 (P_X2_reachSwitch n) Q_X2_reachSwitch := (recA l n).2.2.1
theorem m_X2_reachTry (l : Launch) (n : Nat) : CMetC l (8 * n + 21) 26 (P_X2_reachTry n) Q_X2_reachTry := (recA l n).2.2.2.1
theorem m_X2_reachInside (l : Launch) (n : Nat) : CMetC l (8 * n + 22) 23 (P_X2_reachInside n) Q_X2_reachInside := (recA l n).2.2.2.2.1
theorem m_X2_reach (l : Launch) (n : Nat) : CMetC l (8 * n + 23) 22 (P_X2_reach n) Q_X2_reach := (recA l n).2.2.2.2.2

theorem recB (l : Launch) : ∀ n : Nat, CMetC l (8 * n + 21) 31 (P_X2_assignBody n) Q_X2_assignBody ∧ CMetC l (8 * n + 22) 35 (P_X2_behindIf n) Q_X2_behindIf ∧ CMetC l (8 * n + 22) 36 (P_X2_behindLoop n) Q_X2_behindLoop ∧ CMetC l (8 * n + 22) 37 (P_X2_behindSwitch n) Q_X2_behindSwitch ∧ CMetC l (8 * n + 22) 38 (P_X2_behindTry n) Q_X2_behindTry ∧ CMetC l (8 * n + 23) 32 (P_X2_behind n) Q_X2_behind ∧ CMetC l (8 * n + 24) 29 (P_X2_assign n) Q_X2_assign ∧ CMetC l (8 * n + 25) 30 (P_X2_assignRow n) Q_X2_assignRow := by
  intro n
  induction n with
  | zero =>
    have i_X2_assignBody : CMetC l (8 * 0 + 21) 31 (P_X2_assignBody 0) Q_X2_assignBody := CMetC.no hX2_assignBody (by rintro As σ ⟨p0, p1, p2, rfl, H0, h_0_0, h_1_0, q0⟩; exact RkC.no H0 h_1_0 q0)
    have i_X2_behindIf : CMetC l (8 * 0 + 22) 35 (P_X2_behindIf 0) Q_X2_behindIf := CMetC.no hX2_behindIf (by rintro As σ ⟨p0, p1, p2, rfl, H0, h_0_0, h_1_0, q0⟩; exact RkC.no H0 h_1_0 q0)
    have i_X2_behindLoop : CMetC l (8 * 0 + 22) 36 (P_X2_behindLoop 0) Q_X2_behindLoop := CMetC.no hX2_behindLoop (by rintro As σ ⟨p0, p1, p2, rfl, H0, h_0_0, h_1_0, q0⟩; exact RkC.no H0 h_1_0 q0)
    have i_X2_behindSwitch : CMetC l (8 * 0 + 22) 37 (P_X2_behindSwitch 0) Q_X2_behindSwitch := CMetC.no hX2_behindSwitch (by rintro As σ ⟨p0, p1, p2, rfl, H0, h_0_0, h_1_0, q0, q1⟩; exact RkC.no H0 h_1_0 q0)
    have i_X2_behindTry : CMetC l (8 * 0 + 22) 38 (P_X2_behindTry 0) Q_X2_behindTry := CMetC.no hX2_behindTry (by rintro As σ ⟨p0, p1, p2, rfl, H0, h_0_0, h_1_0, q0⟩; exact RkC.no H0 h_1_0 q0)
    have i_X2_behind : CMetC l (8 * 0 + 23) 32 (P_X2_behind 0) Q_X2_behind := CMetC.no hX2_behind (by rintro As σ ⟨p0, p1, p2, rfl, H0, h_0_0, h_1_0, q0⟩; exact RkC.no H0 h_1_0 q0)
    have i_X2_assign : CMetC l (8 * 0 + 24) 29 (P_X2_assign 0) Q_X2_assign := CMetC.no hX2_assign (by rintro As σ ⟨p0, p1, p2, rfl, H0, h_0_0, h_1_0, q0⟩; exact RkC.no H0 h_1_0 q0)
    have i_X2_assignRow : CMetC l (8 * 0 + 25) 30 (P_X2_assignRow 0) Q_X2_assignRow := s_X2_assignRow l 0 i_X2_assign
    exact ⟨i_X2_assignBody, i_X2_behindIf, i_X2_behindLoop, i_X2_behindSwitch, i_X2_behindTry, i_X2_behind, i_X2_assign, i_X2_assignRow⟩
  | succ d ih =>
    obtain ⟨o_X2_assignBody, o_X2_behindIf, o_X2_behindLoop, o_X2_behindSwitch, o_X2_behindTry, o_X2_behind, o_X2_assign, o_X2_assignRow⟩ := ih
    have i_X2_assignBody : CMetC l (8 * (d + 1) + 21) 31 (P_X2_assignBody (d + 1)) Q_X2_assignBody := s_X2_assignBody l d o_X2_assign
    have i_X2_behindIf : CMetC l (8 * (d + 1) + 22) 35 (P_X2_behindIf (d + 1)) Q_X2_behindIf := s_X2_behindIf l d i_X2_assignBody o_X2_assign
    have i_X2_behindLoop : CMetC l (8 * (d + 1) + 22) 36 (P_X2_behindLoop (d + 1)) Q_X2_behindLoop := s_X2_behindLoop l d i_X2_assignBody o_X2_assignRow
    have i_X2_behindSwitch : CMetC l (8 * (d + 1) + 22) 37 (P_X2_behindSwitch (d + 1)) Q_X2_behindSwitch := s_X2_behindSwitch l d o_X2_assign
    have i_X2_behindTry : CMetC l (8 * (d + 1) + 22) 38 (P_X2_behindTry (d + 1)) Q_X2_behindTry := s_X2_behindTry l d o_X2_assign i_X2_assignBody
    have i_X2_behind : CMetC l (8 * (d + 1) + 23) 32 (P_X2_behind (d + 1)) Q_X2_behind := s_X2_behind l d o_X2_assignRow i_X2_assignBody i_X2_behindIf i_X2_behindLoop i_X2_behindSwitch i_X2_behindTry
    have i_X2_assign : CMetC l (8 * (d + 1) + 24) 29 (P_X2_assign (d + 1)) Q_X2_assign := s_X2_assign l d i_X2_behind
    have i_X2_assignRow : CMetC l (8 * (d + 1) + 25) 30 (P_X2_assignRow (d + 1)) Q_X2_assignRow := s_X2_assignRow l (d + 1) i_X2_assign
    exact ⟨i_X2_assignBody, i_X2_behindIf, i_X2_behindLoop, i_X2_behindSwitch, i_X2_behindTry, i_X2_behind, i_X2_assign, i_X2_assignRow⟩
theorem m_X2_assignBody (l : Launch) (n : Nat) : CMetC l (8 * n + 21) 31 (P_X2_assignBody n) Q_X2_assignBody := (recB l n).1
theorem m_X2_behindIf (l : Launch) (n : Nat) : CMetC l (8 * n + 22) 35 (P_X2_behindIf n) Q_X2_behindIf := (recB l n).2.1
theorem m_X2_behindLoop (l : Launch) (n : Nat) : CMetC l (8 * n + 22) 36 (P_X2_behindLoop n) Q_X2_behindLoop := (recB l n).2.2.1
theorem m_X2_behindSwitch (l : Launch) (n : Nat) : CMetC l (8 * n + 22) 37 (P_X2_behindSwitch n) Q_X2_behindSwitch := (recB l n).2.2.2.1
theorem m_X2_behindTry (l : Launch) (n : Nat) : CMetC l (8 * n + 22) 38 (P_X2_behindTry n) Q_X2_behindTry := (recB l n).2.2.2.2.1
theorem m_X2_behind (l : Launch) (n : Nat) : CMetC l (8 * n + 23) 32 (P_X2_behind n) Q_X2_behind := (recB l n).2.2.2.2.2.1
theorem m_X2_assign (l : Launch) (n : Nat) : CMetC l (8 * n + 24) 29 (P_X2_assign n) Q_X2_assign := (recB l n).2.2.2.2.2.2.1
theorem m_X2_assignRow (l : Launch) (n : Nat) : CMetC l (8 * n + 25) 30 (P_X2_assignRow n) Q_X2_assignRow := (recB l n).2.2.2.2.2.2.2

theorem recC (l : Launch) : ∀ n : Nat, CMetC l (8 * n + 21) 4 (P_X0_layBody n) Q_X0_layBody ∧ CMetC l (8 * n + 22) 10 (P_X0_layIf n) Q_X0_layIf ∧ CMetC l (8 * n + 22) 11 (P_X0_layWhile n) Q_X0_layWhile ∧ CMetC l (8 * n + 22) 12 (P_X0_layDo n) Q_X0_layDo ∧ CMetC l (8 * n + 22) 13 (P_X0_layFor n) Q_X0_layFor ∧ CMetC l (8 * n + 22) 14 (P_X0_layTry n) Q_X0_layTry ∧ CMetC l (8 * n + 23) 8 (P_X0_layInside n) Q_X0_layInside ∧ CMetC l (8 * n + 24) 6 (P_X0_layStatement n) Q_X0_layStatement ∧ CMetC l (8 * n + 25) 7 (P_X0_layInner n) Q_X0_layInner ∧ CMetC l (8 * n + 25) 5 (P_X0_layRow n) Q_X0_layRow := by
  intro n
  induction n with
  | zero =>
    have i_X0_layBody : CMetC l (8 * 0 + 21) 4 (P_X0_layBody 0) Q_X0_layBody := CMetC.no hX0_layBody (by rintro As σ ⟨p0, p1, rfl, H0, h_0_0, h_1_0, q0, q1⟩; exact RkC.no H0 h_1_0 q0)
    have i_X0_layIf : CMetC l (8 * 0 + 22) 10 (P_X0_layIf 0) Q_X0_layIf := CMetC.no hX0_layIf (by rintro As σ ⟨p0, p1, rfl, H0, h_0_0, h_1_0, q0⟩; exact RkC.no H0 h_1_0 q0)
    have i_X0_layWhile : CMetC l (8 * 0 + 22) 11 (P_X0_layWhile 0) Q_X0_layWhile := CMetC.no hX0_layWhile (by rintro As σ ⟨p0, p1, rfl, H0, h_0_0, h_1_0, q0⟩; exact RkC.no H0 h_1_0 q0)
    have i_X0_layDo : CMetC l (8 * 0 + 22) 12 (P_X0_layDo 0) Q_X0_layDo := CMetC.no hX0_layDo (by rintro As σ ⟨p0, p1, rfl, H0, h_0_0, h_1_0, q0⟩; exact RkC.no H0 h_1_0 q0)
    have i_X0_layFor : CMetC l (8 * 0 + 22) 13 (P_X0_layFor 0) Q_X0_layFor := CMetC.no hX0_layFor (by rintro As σ ⟨p0, p1, rfl, H0, h_0_0, h_1_0, q0, q1⟩; exact RkC.no H0 h_1_0 q0)
    have i_X0_layTry : CMetC l (8 * 0 + 22) 14 (P_X0_layTry 0) Q_X0_layTry := CMetC.no hX0_layTry (by rintro As σ ⟨p0, p1, rfl, H0, h_0_0, h_1_0, q0, q1⟩; exact RkC.no H0 h_1_0 q0)
    have i_X0_layInside : CMetC l (8 * 0 + 23) 8 (P_X0_layInside 0) Q_X0_layInside := CMetC.no hX0_layInside (by rintro As σ ⟨p0, p1, rfl, H0, h_0_0, h_1_0, q0⟩; exact RkC.no H0 h_1_0 q0)
    have i_X0_layStatement : CMetC l (8 * 0 + 24) 6 (P_X0_layStatement 0) Q_X0_layStatement := CMetC.no hX0_layStatement (by rintro As σ ⟨p0, p1, rfl, H0, h_0_0, h_1_0, q0⟩; exact RkC.no H0 h_1_0 q0)
    have i_X0_layInner : CMetC l (8 * 0 + 25) 7 (P_X0_layInner 0) Q_X0_layInner := s_X0_layInner l 0 i_X0_layStatement
    have i_X0_layRow : CMetC l (8 * 0 + 25) 5 (P_X0_layRow 0) Q_X0_layRow := s_X0_layRow l 0 i_X0_layStatement
    exact ⟨i_X0_layBody, i_X0_layIf, i_X0_layWhile, i_X0_layDo, i_X0_layFor, i_X0_layTry, i_X0_layInside, i_X0_layStatement, i_X0_layInner, i_X0_layRow⟩
  | succ d ih =>
    obtain ⟨o_X0_layBody, o_X0_layIf, o_X0_layWhile, o_X0_layDo, o_X0_layFor, o_X0_layTry, o_X0_layInside, o_X0_layStatement, o_X0_layInner, o_X0_layRow⟩ := ih
    have i_X0_layBody : CMetC l (8 * (d + 1) + 21) 4 (P_X0_layBody (d + 1)) Q_X0_layBody := s_X0_layBody l d o_X0_layRow
    have i_X0_layIf : CMetC l (8 * (d + 1) + 22) 10 (P_X0_layIf (d + 1)) Q_X0_layIf := s_X0_layIf l d o_X0_layInner o_X0_layStatement
    have i_X0_layWhile : CMetC l (8 * (d + 1) + 22) 11 (P_X0_layWhile (d + 1)) Q_X0_layWhile := s_X0_layWhile l d o_X0_layInner
    have i_X0_layDo : CMetC l (8 * (d + 1) + 22) 12 (P_X0_layDo (d + 1)) Q_X0_layDo := s_X0_layDo l d o_X0_layInner
    have i_X0_layFor : CMetC l (8 * (d + 1) + 22) 13 (P_X0_layFor (d + 1)) Q_X0_layFor := s_X0_layFor l d o_X0_layRow o_X0_layInner
    have i_X0_layTry : CMetC l (8 * (d + 1) + 22) 14 (P_X0_layTry (d + 1)) Q_X0_layTry := s_X0_layTry l d o_X0_layBody
    have i_X0_layInside : CMetC l (8 * (d + 1) + 23) 8 (P_X0_layInside (d + 1)) Q_X0_layInside := s_X0_layInside l d o_X0_layRow o_X0_layInner i_X0_layIf i_X0_layWhile i_X0_layDo i_X0_layFor i_X0_layTry
    have i_X0_layStatement : CMetC l (8 * (d + 1) + 24) 6 (P_X0_layStatement (d + 1)) Q_X0_layStatement := s_X0_layStatement l d i_X0_layInside
    have i_X0_layInner : CMetC l (8 * (d + 1) + 25) 7 (P_X0_layInner (d + 1)) Q_X0_layInner := s_X0_layInner l (d + 1) i_X0_layStatement
    have i_X0_layRow : CMetC l (8 * (d + 1) + 25) 5 (P_X0_layRow (d + 1)) Q_X0_layRow := s_X0_layRow l (d + 1) i_X0_layStatement
    exact ⟨i_X0_layBody, i_X0_layIf, i_X0_layWhile, i_X0_layDo, i_X0_layFor, i_X0_layTry, i_X0_layInside, i_X0_layStatement, i_X0_layInner, i_X0_layRow⟩
theorem m_X0_layBody (l : Launch) (n : Nat) : CMetC l (8 * n + 21) 4 (P_X0_layBody n) Q_X0_layBody := (recC l n).1
theorem m_X0_layIf (l : Launch) (n : Nat) : CMetC l (8 * n + 22) 10 (P_X0_layIf n) Q_X0_layIf := (recC l n).2.1
theorem m_X0_layWhile (l : Launch) (n : Nat) : CMetC l (8 * n + 22) 11 (P_X0_layWhile n) Q_X0_layWhile := (recC l n).2.2.1
theorem m_X0_layDo (l : Launch) (n : Nat) : CMetC l (8 * n + 22) 12 (P_X0_layDo n) Q_X0_layDo := (recC l n).2.2.2.1
theorem m_X0_layFor (l : Launch) (n : Nat) : CMetC l (8 * n + 22) 13 (P_X0_layFor n) Q_X0_layFor := (recC l n).2.2.2.2.1
theorem m_X0_layTry (l : Launch) (n : Nat) : CMetC l (8 * n + 22) 14 (P_X0_layTry n) Q_X0_layTry := (recC l n).2.2.2.2.2.1
theorem m_X0_layInside (l : Launch) (n : Nat) : CMetC l (8 * n + 23) 8 (P_X0_layInside n) Q_X0_layInside := (recC l n).2.2.2.2.2.2.1
theorem m_X0_layStatement (l : Launch) (n : Nat) : CMetC l (8 * n + 24) 6 (P_X0_layStatement n) Q_X0_layStatement := (recC l n).2.2.2.2.2.2.2.1
theorem m_X0_layInner (l : Launch) (n : Nat) : CMetC l (8 * n + 25) 7 (P_X0_layInner n) Q_X0_layInner := (recC l n).2.2.2.2.2.2.2.2.1
theorem m_X0_layRow (l : Launch) (n : Nat) : CMetC l (8 * n + 25) 5 (P_X0_layRow n) Q_X0_layRow := (recC l n).2.2.2.2.2.2.2.2.2
