/-! what a run does, as a relation over the reference's states: for two readings of one text -/
def evT : List (Nat × RB) := [(3, Bat), (4, BisLetter), (5, BisDigit), (6, Blexer), (7, Bword), (8, BwordOf), (9, Bnumber), (10, Bcharacter), (11, Bsign), (12, Bwrong), (13, Bcant), (14, BisSign), (15, BisWord), (16, BisSignAt), (17, Btake), (18, Bwant), (19, Benter), (20, Bemit), (21, BemitExp), (22, Bstrength), (23, BisType), (24, BisSetAt), (25, Bpush), (26, Bwhole), (27, Bexpression), (28, Bwait), (29, Boperand), (30, Bnamed), (31, BcloseCall), (32, Breduce), (33, Bcomplete), (34, Bbehind), (35, Bthing), (36, Bopen), (37, Bparse), (38, Bmethod), (39, Bparam), (40, Bvariable), (41, Bscope), (42, Bleave), (43, BisRow), (44, Bpiece), (45, Bgrouped), (46, BisTold), (47, Btold), (48, Bdeclaration), (49, Bstatement), (50, Bplain), (51, Bpop), (52, Bcondition), (53, BifOf), (54, BwhileOf), (55, BdoOf), (56, Bexps), (57, BforOf), (58, BswitchOf), (59, Blabel), (60, BcloseSwitch), (61, Bclosed), (62, Bjump), (63, BsameName), (64, Bnamed_), (65, Bgives), (66, BtryOf), (67, BcloseRow), (68, BcloseTry), (69, Bfinished), (70, Berr), (71, Bfind), (72, BisNumber), (73, Bwidens), (74, BholdsValue), (75, Bfits), (76, Bcast), (77, Blie), (78, Bnone), (79, BisBad), (80, Bneed), (81, Bwide), (82, BjudgeAll), (83, BtypeOfParam), (84, BparamsOf), (85, BresultOf), (86, BisNamed), (87, BmethodsTold), (88, BjudgeExp), (89, Bliteral), (90, Bstep), (91, Bunary), (92, Bcasts), (93, BisShift), (94, BisBits), (95, Bbinary), (96, Bpair), (97, Breckon), (98, Bchoice), (99, BisHeld), (100, Bassign), (101, Btakes), (102, BisCloser), (103, BisMethod), (104, Bcall), (105, BjudgeStep), (106, Bkeep), (107, Bdeclared), (108, Bcased), (109, Breturns), (110, BlateErr), (111, Bnow), (112, Bbe), (113, Bflow), (114, Bstart), (115, Bvalue), (116, Bsided), (117, BflowExp), (118, BfindAt), (119, Bcome), (120, Bdead), (121, BflowStep), (122, Bended), (125, BisGood), (126, Bjudge), (127, Btokens), (129, BisToken), (133, Bmeans), (134, BexpAt), (135, Btype), (136, Bconstant), (137, Bends), (138, Bassigned)]
def evf (l : List (Nat × RB)) (μ : Nat) : Option RB := match l with
  | [] => none
  | q :: r => match Nat.beq q.1 μ with
    | true => some q.2
    | false => evf r μ
def evl (μ : Nat) : Option RB := evf evT μ
def rsx (x : Int) (l : List (Int × Nat)) (d : Nat) (t : Nat) : Prop := match l with
  | [] => t = d
  | q :: r => (x = q.1 ∧ t = q.2) ∨ (¬ x = q.1 ∧ rsx x r d t)
def rxe (x : RI) (pc : Nat) (ls : RL) (st : List Value) (σ : RS) (N : RK) (J : Nat → List Value → Prop) (R : Option Value → Prop) (C : Nat → List Value → List Value → Prop) : Prop :=
  match x.1 with
  | .iconst n => N (pc + 1) ls (.int (Int32.ofInt n) :: st) σ
  | .bipush n => N (pc + 2) ls (.int (Int32.ofInt n) :: st) σ
  | .sipush n => N (pc + 3) ls (.int (Int32.ofInt n) :: st) σ
  | .lconst n => N (pc + 1) ls (.long (Int64.ofNat (n : Nat)) :: st) σ
  | .ldc2_w _ => N (pc + 3) ls (.long (Int64.ofInt x.2.2.1) :: st) σ
  | .iload_n _ => ∃ v, (x.2.2.2.1, Value.int v) ∈ ls ∧ N (pc + 1) ls (.int v :: st) σ
  | .iload n => ∃ v, (n, Value.int v) ∈ ls ∧ N (pc + 2) ls (.int v :: st) σ
  | .lload_n _ => ∃ v, (x.2.2.2.1, Value.long v) ∈ ls ∧ N (pc + 1) ls (.long v :: st) σ
  | .aload_n _ => ∃ v, (x.2.2.2.1, Value.ref v) ∈ ls ∧ N (pc + 1) ls (.ref v :: st) σ
  | .istore_n _ => match st with
    | .int v :: r => N (pc + 1) (rs1 ls x.2.2.2.1 (.int v)) r σ
    | _ => False
  | .istore n => match st with
    | .int v :: r => N (pc + 2) (rs1 ls n (.int v)) r σ
    | _ => False
  | .lstore_n _ => match st with
    | .long v :: r => N (pc + 1) (rs2 ls x.2.2.2.1 (.long v)) r σ
    | _ => False
  | .iinc n d => ∃ v, (n, Value.int v) ∈ ls ∧ N (pc + 3) (rs1 ls n (.int (v + Int32.ofInt d))) st σ
  | .iadd => match st with
    | .int y :: .int x :: r => N (pc + 1) ls (.int (x + y) :: r) σ
    | _ => False
  | .isub => match st with
    | .int y :: .int x :: r => N (pc + 1) ls (.int (x - y) :: r) σ
    | _ => False
  | .imul => match st with
    | .int y :: .int x :: r => N (pc + 1) ls (.int (x * y) :: r) σ
    | _ => False
  | .ior => match st with
    | .int y :: .int x :: r => N (pc + 1) ls (.int (x ||| y) :: r) σ
    | _ => False
  | .ishl => match st with
    | .int y :: .int x :: r => N (pc + 1) ls (.int (x <<< (y &&& 31)) :: r) σ
    | _ => False
  | .ladd => match st with
    | .long y :: .long x :: r => N (pc + 1) ls (.long (x + y) :: r) σ
    | _ => False
  | .lmul => match st with
    | .long y :: .long x :: r => N (pc + 1) ls (.long (x * y) :: r) σ
    | _ => False
  | .lor => match st with
    | .long y :: .long x :: r => N (pc + 1) ls (.long (x ||| y) :: r) σ
    | _ => False
  | .lshl => match st with
    | .int y :: .long x :: r => N (pc + 1) ls (.long (x <<< (y.toInt64 &&& 63)) :: r) σ
    | _ => False
  | .iand => match st with
    | .int y :: .int x :: r => N (pc + 1) ls (.int (x &&& y) :: r) σ
    | _ => False
  | .ishr => match st with
    | .int y :: .int x :: r => N (pc + 1) ls (.int (x >>> (y &&& 31)) :: r) σ
    | _ => False
  | .iushr => match st with
    | .int y :: .int x :: r => N (pc + 1) ls (.int ((x.toUInt32 >>> (y.toUInt32 &&& Int32.toUInt32 31)).toInt32) :: r) σ
    | _ => False
  | .lsub => match st with
    | .long y :: .long x :: r => N (pc + 1) ls (.long (x - y) :: r) σ
    | _ => False
  | .land => match st with
    | .long y :: .long x :: r => N (pc + 1) ls (.long (x &&& y) :: r) σ
    | _ => False
  | .lxor => match st with
    | .long y :: .long x :: r => N (pc + 1) ls (.long (x ^^^ y) :: r) σ
    | _ => False
  | .lneg => match st with
    | .long x :: r => N (pc + 1) ls (.long (-x) :: r) σ
    | _ => False
  | .lshr => match st with
    | .int y :: .long x :: r => N (pc + 1) ls (.long (x >>> (y.toInt64 &&& 63)) :: r) σ
    | _ => False
  | .lushr => match st with
    | .int y :: .long x :: r => N (pc + 1) ls (.long ((x.toUInt64 >>> (y.toInt64.toUInt64 &&& Int64.toUInt64 63)).toInt64) :: r) σ
    | _ => False
  | .l2i => match st with
    | .long x :: r => N (pc + 1) ls (.int x.toInt32 :: r) σ
    | _ => False
  | .i2b => match st with
    | .int x :: r => N (pc + 1) ls (.int x.toInt8.toInt32 :: r) σ
    | _ => False
  | .i2c => match st with
    | .int x :: r => N (pc + 1) ls (.int (x.toUInt32 % 65536).toInt32 :: r) σ
    | _ => False
  | .ldiv => match st with
    | .long y :: .long x :: r => ¬ y = 0 ∧ N (pc + 1) ls (.long (x / y) :: r) σ
    | _ => False
  | .lrem => match st with
    | .long y :: .long x :: r => ¬ y = 0 ∧ N (pc + 1) ls (.long (x - x / y * y) :: r) σ
    | _ => False
  | .lload n => ∃ v, (n, Value.long v) ∈ ls ∧ N (pc + 2) ls (.long v :: st) σ
  | .lstore n => match st with
    | .long v :: r => N (pc + 2) (rs2 ls n (.long v)) r σ
    | _ => False
  | .lreturn => match st with
    | [.long v] => R (some (.long v))
    | _ => False
  | .i2l => match st with
    | .int x :: r => N (pc + 1) ls (.long x.toInt64 :: r) σ
    | _ => False
  | .lcmp => match st with
    | .long y :: .long x :: r => N (pc + 1) ls (.int (lg_cmp x y) :: r) σ
    | _ => False
  | .dup => match st with
    | .int x :: r => N (pc + 1) ls (.int x :: .int x :: r) σ
    | .ref x :: r => N (pc + 1) ls (.ref x :: .ref x :: r) σ
    | _ => False
  | .dup2 => match st with
    | .int y :: .ref x :: r => N (pc + 1) ls (.int y :: .ref x :: .int y :: .ref x :: r) σ
    | _ => False
  | .pop => match st with
    | .int _ :: r => N (pc + 1) ls r σ
    | _ => False
  | .ifCond c _ => match st with
    | .int v :: r => (rcd c v 0 ∧ J x.2.2.2.1 r) ∨ (rno c v 0 ∧ N (pc + 3) ls r σ)
    | _ => False
  | .if_icmp c _ => match st with
    | .int y :: .int v :: r => (rcd c v y ∧ J x.2.2.2.1 r) ∨ (rno c v y ∧ N (pc + 3) ls r σ)
    | _ => False
  | .goto _ => J x.2.2.2.1 st
  | .tableswitch _ _ _ _ => match st with
    | .int v :: r => ∃ t, rsx v.toInt x.2.2.2.2 x.2.2.2.1 t ∧ J t r
    | _ => False
  | .lookupswitch _ _ => match st with
    | .int v :: r => ∃ t, rsx v.toInt x.2.2.2.2 x.2.2.2.1 t ∧ J t r
    | _ => False
  | .ireturn => match st with
    | [.int v] => R (some (.int v))
    | _ => False
  | .return_ => match st with
    | [] => R none
    | _ => False
  | .getfield _ => match st with
    | .ref _ :: r => (match Nat.beq x.2.2.1.toNat 0 with
      | true => N (pc + 3) ls (.int (gI σ x.2.2.2.1) :: r) σ
      | false => match Nat.beq x.2.2.1.toNat 1 with
        | true => N (pc + 3) ls (.int (gI σ x.2.2.2.1) :: r) σ
        | false => match Nat.beq x.2.2.1.toNat 2 with
          | true => N (pc + 3) ls (.long (gL σ x.2.2.2.1) :: r) σ
          | false => N (pc + 3) ls (.ref x.2.2.2.1 :: r) σ)
    | _ => False
  | .putfield _ => match st with
    | .int v :: .ref _ :: r => N (pc + 3) ls r (sI σ x.2.2.2.1 v)
    | .long v :: .ref _ :: r => N (pc + 3) ls r (sL σ x.2.2.2.1 v)
    | _ => False
  | .iaload => match st with
    | .int j :: .ref n :: r => vp_in j (ln n) ∧ N (pc + 1) ls (.int (aI σ n j.toNatClampNeg) :: r) σ
    | _ => False
  | .baload => match st with
    | .int j :: .ref n :: r => vp_in j (ln n) ∧ N (pc + 1) ls (.int (aI σ n j.toNatClampNeg) :: r) σ
    | _ => False
  | .laload => match st with
    | .int j :: .ref n :: r => vp_in j (ln n) ∧ N (pc + 1) ls (.long (aL σ n j.toNatClampNeg) :: r) σ
    | _ => False
  | .iastore => match st with
    | .int v :: .int j :: .ref n :: r => vp_in j (ln n) ∧ N (pc + 1) ls r (sA σ n (upd (aI σ n) j.toNatClampNeg v))
    | _ => False
  | .bastore => match st with
    | .int v :: .int j :: .ref n :: r => vp_in j (ln n) ∧ N (pc + 1) ls r (sA σ n (upd (aI σ n) j.toNatClampNeg v))
    | _ => False
  | .lastore => match st with
    | .long v :: .int j :: .ref n :: r => vp_in j (ln n) ∧ N (pc + 1) ls r (sM σ n (vp_updL (aL σ n) j.toNatClampNeg v))
    | _ => False
  | .invokevirtual _ => match st.drop x.2.2.1.toNat with
    | .ref _ :: r => C x.2.2.2.1 (st.take x.2.2.1.toNat).reverse r
    | _ => False
  | _ => False
/-- the instructions that are told so -/
def evo (x : RI) : Bool := match x.1 with
  | .iconst _ => true | .bipush _ => true | .sipush _ => true | .lconst _ => true | .ldc2_w _ => true
  | .iload_n _ => true | .iload _ => true | .lload_n _ => true | .aload_n _ => true | .istore_n _ => true | .istore _ => true | .lstore_n _ => true
  | .iinc _ _ => true | .iadd => true | .isub => true | .imul => true | .ior => true | .ishl => true | .ladd => true | .lmul => true | .lor => true | .lshl => true
  | .iand => true | .ishr => true | .iushr => true | .lsub => true | .land => true | .lxor => true | .lneg => true | .lshr => true | .lushr => true | .l2i => true | .i2b => true | .i2c => true | .ldiv => true | .lrem => true | .lload _ => true | .lstore _ => true | .lreturn => true
  | .i2l => true | .lcmp => true | .dup => true | .dup2 => true | .pop => true | .ifCond _ _ => true | .if_icmp _ _ => true | .goto _ => true
  | .tableswitch _ _ _ _ => true | .lookupswitch _ _ => true | .ireturn => true | .return_ => true | .getfield _ => true | .putfield _ => true
  | .iaload => true | .baload => true | .laload => true | .iastore => true | .bastore => true | .lastore => true | .invokevirtual _ => true
  | _ => false
def evs (bs : RB) : Bool := bs.all (fun b => b.2.all evo)
def Ev : Nat → Nat → List RI → Nat → RL → List Value → RS → Option Value → RS → Prop
  | 0, _, _, _, _, _, _, _, _ => False
  | n + 1, μ, [], pc, ls, st, σ, w, τ => ∃ bs is, evl μ = some bs ∧ rfd bs pc = some is ∧ Ev n μ is pc ls st σ w τ
  | n + 1, μ, x :: is, pc, ls, st, σ, w, τ => rxe x pc ls st σ (fun pc' ls' st' σ' => Ev n μ is pc' ls' st' σ' w τ) (fun t st' => Ev n μ [] t ls st' σ w τ) (fun w' => w' = w ∧ σ = τ) (fun μ' As st' => ∃ w' σ', Ev n μ' [] 0 (lv_args 0 (.ref 1000 :: As)) [] σ w' σ' ∧ Ev n μ is (pc + 3) ls (w'.toList ++ st') σ' w τ)
def EvM (μ : Nat) (As : List Value) (σ : RS) (w : Option Value) (τ : RS) : Prop := ∃ n, Ev n μ [] 0 (lv_args 0 (.ref 1000 :: As)) [] σ w τ
theorem rsw_x {x : Int} {l : List (Int × Nat)} {d : Nat} {K K' : Nat → Prop} (h : rsw x l d K) (hk : ∀ t, rsx x l d t → K t → K' t) : rsw x l d K' := by
  induction l with
  | nil => exact hk d rfl h
  | cons q r ih =>
    refine ⟨fun e => hk _ (Or.inl ⟨e, rfl⟩) (h.1 e), fun e => ih (h.2 e) (fun t ht => hk t (Or.inr ⟨e, ht⟩))⟩
/-- what holds at an instruction's outcomes alone counts -/
theorem rst_x {ct ct' : RC} {K K' : RK} {Z Z' : Option Value → RS → Prop} {x : RI} {pc : Nat} {ls : RL} {st : List Value} {σ : RS} {k k' : RK} {E : Option Value → RS → Prop} {N : Option Value → RS → RK} {J : Option Value → RS → Nat → List Value → Prop} (he : evo x = true)
    (hct : ∀ μ P Q, rct ct μ = some (P, Q) → rct ct' μ = some (P, fun As σ w τ => Q As σ w τ ∧ EvM μ As σ w τ))
    (hE : ∀ w τ, rxe x pc ls st σ (N w τ) (J w τ) (fun w' => w' = w ∧ σ = τ) (fun μ' As st' => ∃ w' σ', EvM μ' As σ w' σ' ∧ N w τ (pc + 3) ls (w'.toList ++ st') σ') → E w τ)
    (hn : ∀ pc' ls' st' σ', k pc' ls' st' σ' → (∀ w τ, N w τ pc' ls' st' σ' → E w τ) → k' pc' ls' st' σ')
    (hj : ∀ t st', K t ls st' σ → (∀ w τ, J w τ t st' → E w τ) → K' t ls st' σ)
    (hr : ∀ w, Z w σ → E w σ → Z' w σ)
    (h : rst ct K Z x pc ls st σ k) : rst ct' K' Z' x pc ls st σ k' := by
  obtain ⟨x1, len, a, b, cs⟩ := x
  cases x1 with
  | iconst n => exact hn _ _ _ _ h (fun w τ q => hE w τ q)
  | bipush n => exact hn _ _ _ _ h (fun w τ q => hE w τ q)
  | sipush n => exact hn _ _ _ _ h (fun w τ q => hE w τ q)
  | lconst n => exact hn _ _ _ _ h (fun w τ q => hE w τ q)
  | ldc2_w n => exact hn _ _ _ _ h (fun w τ q => hE w τ q)
  | iload_n n =>
    dsimp only [rst] at h ⊢
    split at h
    next v hv => exact hn _ _ _ _ h (fun w τ q => hE w τ ⟨v, rlk_mem hv, q⟩)
    next => exact h.elim
  | iload n =>
    dsimp only [rst] at h ⊢
    split at h
    next v hv => exact hn _ _ _ _ h (fun w τ q => hE w τ ⟨v, rlk_mem hv, q⟩)
    next => exact h.elim
  | lload_n n =>
    dsimp only [rst] at h ⊢
    split at h
    next v hv => exact hn _ _ _ _ h (fun w τ q => hE w τ ⟨v, rlk_mem hv, q⟩)
    next => exact h.elim
  | aload_n n =>
    dsimp only [rst] at h ⊢
    split at h
    next v hv => exact hn _ _ _ _ h (fun w τ q => hE w τ ⟨v, rlk_mem hv, q⟩)
    next => exact h.elim
  | iinc n d =>
    dsimp only [rst] at h ⊢
    split at h
    next v hv => exact hn _ _ _ _ h (fun w τ q => hE w τ ⟨v, rlk_mem hv, q⟩)
    next => exact h.elim
  | goto n => exact hj _ _ h (fun w τ q => hE w τ q)
  | ishl =>
    dsimp only [rst] at h ⊢
    split at h
    next => intro v hv; subst hv; exact hn _ _ _ _ (h _ rfl) (fun w τ q => hE w τ q)
    next => exact h.elim
  | lshl =>
    dsimp only [rst] at h ⊢
    split at h
    next => intro v hv; subst hv; exact hn _ _ _ _ (h _ rfl) (fun w τ q => hE w τ q)
    next => exact h.elim
  | ifCond c n =>
    dsimp only [rst] at h ⊢
    split at h
    next => exact ⟨fun e => hj _ _ (h.1 e) (fun w τ q => hE w τ (Or.inl ⟨e, q⟩)), fun e => hn _ _ _ _ (h.2 e) (fun w τ q => hE w τ (Or.inr ⟨e, q⟩))⟩
    next => exact h.elim
  | if_icmp c n =>
    dsimp only [rst] at h ⊢
    split at h
    next => exact ⟨fun e => hj _ _ (h.1 e) (fun w τ q => hE w τ (Or.inl ⟨e, q⟩)), fun e => hn _ _ _ _ (h.2 e) (fun w τ q => hE w τ (Or.inr ⟨e, q⟩))⟩
    next => exact h.elim
  | tableswitch n1 n2 n3 n4 =>
    dsimp only [rst] at h ⊢
    split at h
    next => exact rsw_x h (fun t ht q => hj _ _ q (fun w τ q => hE w τ ⟨t, ht, q⟩))
    next => exact h.elim
  | lookupswitch n1 n2 =>
    dsimp only [rst] at h ⊢
    split at h
    next => exact rsw_x h (fun t ht q => hj _ _ q (fun w τ q => hE w τ ⟨t, ht, q⟩))
    next => exact h.elim
  | ireturn =>
    dsimp only [rst] at h ⊢
    split at h
    next => exact ⟨h.1, hr _ h.2 (hE _ _ ⟨rfl, rfl⟩)⟩
    next => exact h.elim
  | return_ =>
    dsimp only [rst] at h ⊢
    split at h
    next => exact hr _ h (hE _ _ ⟨rfl, rfl⟩)
    next => exact h.elim
  | getfield n =>
    dsimp only [rst] at h ⊢
    split at h
    next v r =>
      refine ⟨h.1, ?_⟩
      have h2 := h.2
      dsimp only [rxe] at hE
      cases q0 : Nat.beq a.toNat 0 with
      | true => rw [q0] at h2 hE; exact hn _ _ _ _ h2 hE
      | false =>
        rw [q0] at h2 hE
        cases q1 : Nat.beq a.toNat 1 with
        | true => rw [q1] at h2 hE; exact hn _ _ _ _ h2 hE
        | false =>
          rw [q1] at h2 hE
          cases q2 : Nat.beq a.toNat 2 with
          | true => rw [q2] at h2 hE; exact hn _ _ _ _ h2 hE
          | false => rw [q2] at h2 hE; exact hn _ _ _ _ h2 hE
    next => exact h.elim
  | putfield n =>
    dsimp only [rst] at h ⊢
    split at h
    next v m r =>
      refine ⟨h.1, ?_⟩
      have h2 := h.2
      cases q0 : Nat.beq a.toNat 0 with
      | true => rw [q0] at h2; exact hn _ _ _ _ h2 (fun w τ q => hE w τ q)
      | false =>
        rw [q0] at h2
        cases q1 : Nat.beq a.toNat 1 with
        | true => rw [q1] at h2; exact ⟨h2.1, hn _ _ _ _ h2.2 (fun w τ q => hE w τ q)⟩
        | false => rw [q1] at h2; exact h2.elim
    next v m r =>
      refine ⟨h.1, ?_⟩
      have h2 := h.2
      cases q0 : Nat.beq a.toNat 2 with
      | true => rw [q0] at h2; exact hn _ _ _ _ h2 (fun w τ q => hE w τ q)
      | false => rw [q0] at h2; exact h2.elim
    next => exact h.elim
  | bastore =>
    dsimp only [rst] at h ⊢
    split at h
    next => exact ⟨h.1, h.2.1, h.2.2.1, hn _ _ _ _ h.2.2.2 (fun w τ q => hE w τ ⟨h.2.1, q⟩)⟩
    next => exact h.elim
  | iaload =>
    dsimp only [rst] at h ⊢
    split at h
    next => exact ⟨h.1, h.2.1, hn _ _ _ _ h.2.2 (fun w τ q => hE w τ ⟨h.2.1, q⟩)⟩
    next => exact h.elim
  | baload =>
    dsimp only [rst] at h ⊢
    split at h
    next => exact ⟨h.1, h.2.1, hn _ _ _ _ h.2.2 (fun w τ q => hE w τ ⟨h.2.1, q⟩)⟩
    next => exact h.elim
  | laload =>
    dsimp only [rst] at h ⊢
    split at h
    next => exact ⟨h.1, h.2.1, hn _ _ _ _ h.2.2 (fun w τ q => hE w τ ⟨h.2.1, q⟩)⟩
    next => exact h.elim
  | iastore =>
    dsimp only [rst] at h ⊢
    split at h
    next => exact ⟨h.1, h.2.1, hn _ _ _ _ h.2.2 (fun w τ q => hE w τ ⟨h.2.1, q⟩)⟩
    next => exact h.elim
  | lastore =>
    dsimp only [rst] at h ⊢
    split at h
    next => exact ⟨h.1, h.2.1, hn _ _ _ _ h.2.2 (fun w τ q => hE w τ ⟨h.2.1, q⟩)⟩
    next => exact h.elim
  | invokevirtual n =>
    dsimp only [rst] at h ⊢
    dsimp only [rxe] at hE
    split at h
    next P Q e =>
      rw [hct _ _ _ e]
      dsimp only
      split at h
      next m r ed =>
        rw [ed] at hE
        exact ⟨h.1, h.2.1, h.2.2.1, fun w τ q => hn _ _ _ _ (h.2.2.2 w τ q.1) (fun w2 τ2 q2 => hE w2 τ2 ⟨w, τ, q.2, q2⟩)⟩
      next => exact h.elim
    next => exact h.elim
  | istore_n n =>
    dsimp only [rst] at h ⊢
    split at h
    next => exact hn _ _ _ _ h (fun w τ q => hE w τ q)
    next => exact h.elim
  | istore n =>
    dsimp only [rst] at h ⊢
    split at h
    next => exact hn _ _ _ _ h (fun w τ q => hE w τ q)
    next => exact h.elim
  | lstore_n n =>
    dsimp only [rst] at h ⊢
    split at h
    next => exact hn _ _ _ _ h (fun w τ q => hE w τ q)
    next => exact h.elim
  | dup2 =>
    dsimp only [rst] at h ⊢
    split at h
    next => exact hn _ _ _ _ h (fun w τ q => hE w τ q)
    next => exact h.elim
  | pop =>
    dsimp only [rst] at h ⊢
    split at h
    next => exact hn _ _ _ _ h (fun w τ q => hE w τ q)
    next => exact h.elim
  | iadd =>
    dsimp only [rst] at h ⊢
    split at h
    next => exact hn _ _ _ _ h (fun w τ q => hE w τ q)
    next => exact h.elim
  | isub =>
    dsimp only [rst] at h ⊢
    split at h
    next => exact hn _ _ _ _ h (fun w τ q => hE w τ q)
    next => exact h.elim
  | imul =>
    dsimp only [rst] at h ⊢
    split at h
    next => exact hn _ _ _ _ h (fun w τ q => hE w τ q)
    next => exact h.elim
  | ior =>
    dsimp only [rst] at h ⊢
    split at h
    next => exact hn _ _ _ _ h (fun w τ q => hE w τ q)
    next => exact h.elim
  | ladd =>
    dsimp only [rst] at h ⊢
    split at h
    next => exact hn _ _ _ _ h (fun w τ q => hE w τ q)
    next => exact h.elim
  | lmul =>
    dsimp only [rst] at h ⊢
    split at h
    next => exact hn _ _ _ _ h (fun w τ q => hE w τ q)
    next => exact h.elim
  | lor =>
    dsimp only [rst] at h ⊢
    split at h
    next => exact hn _ _ _ _ h (fun w τ q => hE w τ q)
    next => exact h.elim
  | iand =>
    dsimp only [rst] at h ⊢
    split at h
    next => exact hn _ _ _ _ h (fun w τ q => hE w τ q)
    next => exact h.elim
  | ishr =>
    dsimp only [rst] at h ⊢
    split at h
    next => exact hn _ _ _ _ h (fun w τ q => hE w τ q)
    next => exact h.elim
  | iushr =>
    dsimp only [rst] at h ⊢
    split at h
    next => intro v hv; subst hv; exact hn _ _ _ _ (h _ rfl) (fun w τ q => hE w τ q)
    next => exact h.elim
  | lsub =>
    dsimp only [rst] at h ⊢
    split at h
    next => exact hn _ _ _ _ h (fun w τ q => hE w τ q)
    next => exact h.elim
  | land =>
    dsimp only [rst] at h ⊢
    split at h
    next => exact hn _ _ _ _ h (fun w τ q => hE w τ q)
    next => exact h.elim
  | lxor =>
    dsimp only [rst] at h ⊢
    split at h
    next => exact hn _ _ _ _ h (fun w τ q => hE w τ q)
    next => exact h.elim
  | lneg =>
    dsimp only [rst] at h ⊢
    split at h
    next => exact hn _ _ _ _ h (fun w τ q => hE w τ q)
    next => exact h.elim
  | lshr =>
    dsimp only [rst] at h ⊢
    split at h
    next => intro v hv; subst hv; exact hn _ _ _ _ (h _ rfl) (fun w τ q => hE w τ q)
    next => exact h.elim
  | lushr =>
    dsimp only [rst] at h ⊢
    split at h
    next => intro v hv; subst hv; exact hn _ _ _ _ (h _ rfl) (fun w τ q => hE w τ q)
    next => exact h.elim
  | l2i =>
    dsimp only [rst] at h ⊢
    split at h
    next => exact hn _ _ _ _ h (fun w τ q => hE w τ q)
    next => exact h.elim
  | i2b =>
    dsimp only [rst] at h ⊢
    split at h
    next => exact hn _ _ _ _ h (fun w τ q => hE w τ q)
    next => exact h.elim
  | i2c =>
    dsimp only [rst] at h ⊢
    split at h
    next => exact hn _ _ _ _ h (fun w τ q => hE w τ q)
    next => exact h.elim
  | ldiv =>
    dsimp only [rst] at h ⊢
    split at h
    next => exact ⟨h.1, hn _ _ _ _ h.2 (fun w τ q => hE w τ ⟨h.1, q⟩)⟩
    next => exact h.elim
  | lrem =>
    dsimp only [rst] at h ⊢
    split at h
    next => exact ⟨h.1, fun v hv => by subst hv; exact hn _ _ _ _ (h.2 _ rfl) (fun w τ q => hE w τ ⟨h.1, q⟩)⟩
    next => exact h.elim
  | lload n =>
    dsimp only [rst] at h ⊢
    split at h
    next v hv => exact hn _ _ _ _ h (fun w τ q => hE w τ ⟨v, rlk_mem hv, q⟩)
    next => exact h.elim
  | lstore n =>
    dsimp only [rst] at h ⊢
    split at h
    next => exact hn _ _ _ _ h (fun w τ q => hE w τ q)
    next => exact h.elim
  | lreturn =>
    dsimp only [rst] at h ⊢
    split at h
    next => exact hr _ h (hE _ _ ⟨rfl, rfl⟩)
    next => exact h.elim
  | i2l =>
    dsimp only [rst] at h ⊢
    split at h
    next => exact hn _ _ _ _ h (fun w τ q => hE w τ q)
    next => exact h.elim
  | lcmp =>
    dsimp only [rst] at h ⊢
    split at h
    next => exact hn _ _ _ _ h (fun w τ q => hE w τ q)
    next => exact h.elim
  | dup =>
    dsimp only [rst] at h ⊢
    split at h
    next => exact hn _ _ _ _ h (fun w τ q => hE w τ q)
    next => exact hn _ _ _ _ h (fun w τ q => hE w τ q)
    next => exact h.elim
  | _ => exact (Bool.false_ne_true he).elim
theorem rxe_mono {x : RI} {pc : Nat} {ls : RL} {st : List Value} {σ : RS} {N N' : RK} {J J' : Nat → List Value → Prop} {R : Option Value → Prop} {C C' : Nat → List Value → List Value → Prop} (hN : ∀ pc ls st σ, N pc ls st σ → N' pc ls st σ) (hJ : ∀ t st, J t st → J' t st) (hC : ∀ μ As st, C μ As st → C' μ As st) (h : rxe x pc ls st σ N J R C) : rxe x pc ls st σ N' J' R C' := by
  obtain ⟨x1, len, a, b, cs⟩ := x
  cases x1 with
  | iconst n => exact hN _ _ _ _ h
  | bipush n => exact hN _ _ _ _ h
  | sipush n => exact hN _ _ _ _ h
  | lconst n => exact hN _ _ _ _ h
  | ldc2_w n => exact hN _ _ _ _ h
  | iload_n n => obtain ⟨v, h1, h2⟩ := h; exact ⟨v, h1, hN _ _ _ _ h2⟩
  | iload n => obtain ⟨v, h1, h2⟩ := h; exact ⟨v, h1, hN _ _ _ _ h2⟩
  | lload_n n => obtain ⟨v, h1, h2⟩ := h; exact ⟨v, h1, hN _ _ _ _ h2⟩
  | aload_n n => obtain ⟨v, h1, h2⟩ := h; exact ⟨v, h1, hN _ _ _ _ h2⟩
  | iinc n d => obtain ⟨v, h1, h2⟩ := h; exact ⟨v, h1, hN _ _ _ _ h2⟩
  | goto n => exact hJ _ _ h
  | ifCond c n =>
    dsimp only [rxe] at h ⊢
    split at h
    next => exact h.imp (fun q => ⟨q.1, hJ _ _ q.2⟩) (fun q => ⟨q.1, hN _ _ _ _ q.2⟩)
    next => exact h.elim
  | if_icmp c n =>
    dsimp only [rxe] at h ⊢
    split at h
    next => exact h.imp (fun q => ⟨q.1, hJ _ _ q.2⟩) (fun q => ⟨q.1, hN _ _ _ _ q.2⟩)
    next => exact h.elim
  | tableswitch n1 n2 n3 n4 =>
    dsimp only [rxe] at h ⊢
    split at h
    next => obtain ⟨t, h1, h2⟩ := h; exact ⟨t, h1, hJ _ _ h2⟩
    next => exact h.elim
  | lookupswitch n1 n2 =>
    dsimp only [rxe] at h ⊢
    split at h
    next => obtain ⟨t, h1, h2⟩ := h; exact ⟨t, h1, hJ _ _ h2⟩
    next => exact h.elim
  | ireturn =>
    dsimp only [rxe] at h ⊢
    split at h
    next => exact h
    next => exact h.elim
  | return_ =>
    dsimp only [rxe] at h ⊢
    split at h
    next => exact h
    next => exact h.elim
  | getfield n =>
    dsimp only [rxe] at h ⊢
    split at h
    next v r =>
      cases q0 : Nat.beq a.toNat 0 with
      | true => rw [q0] at h; exact hN _ _ _ _ h
      | false =>
        rw [q0] at h
        cases q1 : Nat.beq a.toNat 1 with
        | true => rw [q1] at h; exact hN _ _ _ _ h
        | false =>
          rw [q1] at h
          cases q2 : Nat.beq a.toNat 2 with
          | true => rw [q2] at h; exact hN _ _ _ _ h
          | false => rw [q2] at h; exact hN _ _ _ _ h
    next => exact h.elim
  | invokevirtual n =>
    dsimp only [rxe] at h ⊢
    split at h
    next m r ed => exact hC _ _ _ h
    next => exact h.elim
  | putfield n =>
    dsimp only [rxe] at h ⊢
    split at h
    next => exact hN _ _ _ _ h
    next => exact hN _ _ _ _ h
    next => exact h.elim
  | dup =>
    dsimp only [rxe] at h ⊢
    split at h
    next => exact hN _ _ _ _ h
    next => exact hN _ _ _ _ h
    next => exact h.elim
  | iaload =>
    dsimp only [rxe] at h ⊢
    split at h
    next => exact ⟨h.1, hN _ _ _ _ h.2⟩
    next => exact h.elim
  | baload =>
    dsimp only [rxe] at h ⊢
    split at h
    next => exact ⟨h.1, hN _ _ _ _ h.2⟩
    next => exact h.elim
  | laload =>
    dsimp only [rxe] at h ⊢
    split at h
    next => exact ⟨h.1, hN _ _ _ _ h.2⟩
    next => exact h.elim
  | iastore =>
    dsimp only [rxe] at h ⊢
    split at h
    next => exact ⟨h.1, hN _ _ _ _ h.2⟩
    next => exact h.elim
  | bastore =>
    dsimp only [rxe] at h ⊢
    split at h
    next => exact ⟨h.1, hN _ _ _ _ h.2⟩
    next => exact h.elim
  | lastore =>
    dsimp only [rxe] at h ⊢
    split at h
    next => exact ⟨h.1, hN _ _ _ _ h.2⟩
    next => exact h.elim
  | istore_n n =>
    dsimp only [rxe] at h ⊢
    split at h
    next => exact hN _ _ _ _ h
    next => exact h.elim
  | istore n =>
    dsimp only [rxe] at h ⊢
    split at h
    next => exact hN _ _ _ _ h
    next => exact h.elim
  | lstore_n n =>
    dsimp only [rxe] at h ⊢
    split at h
    next => exact hN _ _ _ _ h
    next => exact h.elim
  | dup2 =>
    dsimp only [rxe] at h ⊢
    split at h
    next => exact hN _ _ _ _ h
    next => exact h.elim
  | pop =>
    dsimp only [rxe] at h ⊢
    split at h
    next => exact hN _ _ _ _ h
    next => exact h.elim
  | iadd =>
    dsimp only [rxe] at h ⊢
    split at h
    next => exact hN _ _ _ _ h
    next => exact h.elim
  | isub =>
    dsimp only [rxe] at h ⊢
    split at h
    next => exact hN _ _ _ _ h
    next => exact h.elim
  | imul =>
    dsimp only [rxe] at h ⊢
    split at h
    next => exact hN _ _ _ _ h
    next => exact h.elim
  | ior =>
    dsimp only [rxe] at h ⊢
    split at h
    next => exact hN _ _ _ _ h
    next => exact h.elim
  | ishl =>
    dsimp only [rxe] at h ⊢
    split at h
    next => exact hN _ _ _ _ h
    next => exact h.elim
  | ladd =>
    dsimp only [rxe] at h ⊢
    split at h
    next => exact hN _ _ _ _ h
    next => exact h.elim
  | lmul =>
    dsimp only [rxe] at h ⊢
    split at h
    next => exact hN _ _ _ _ h
    next => exact h.elim
  | lor =>
    dsimp only [rxe] at h ⊢
    split at h
    next => exact hN _ _ _ _ h
    next => exact h.elim
  | lshl =>
    dsimp only [rxe] at h ⊢
    split at h
    next => exact hN _ _ _ _ h
    next => exact h.elim
  | i2l =>
    dsimp only [rxe] at h ⊢
    split at h
    next => exact hN _ _ _ _ h
    next => exact h.elim
  | lcmp =>
    dsimp only [rxe] at h ⊢
    split at h
    next => exact hN _ _ _ _ h
    next => exact h.elim
  | iand =>
    dsimp only [rxe] at h ⊢
    split at h
    next => exact hN _ _ _ _ h
    next => exact h.elim
  | ishr =>
    dsimp only [rxe] at h ⊢
    split at h
    next => exact hN _ _ _ _ h
    next => exact h.elim
  | iushr =>
    dsimp only [rxe] at h ⊢
    split at h
    next => exact hN _ _ _ _ h
    next => exact h.elim
  | lsub =>
    dsimp only [rxe] at h ⊢
    split at h
    next => exact hN _ _ _ _ h
    next => exact h.elim
  | land =>
    dsimp only [rxe] at h ⊢
    split at h
    next => exact hN _ _ _ _ h
    next => exact h.elim
  | lxor =>
    dsimp only [rxe] at h ⊢
    split at h
    next => exact hN _ _ _ _ h
    next => exact h.elim
  | lneg =>
    dsimp only [rxe] at h ⊢
    split at h
    next => exact hN _ _ _ _ h
    next => exact h.elim
  | lshr =>
    dsimp only [rxe] at h ⊢
    split at h
    next => exact hN _ _ _ _ h
    next => exact h.elim
  | lushr =>
    dsimp only [rxe] at h ⊢
    split at h
    next => exact hN _ _ _ _ h
    next => exact h.elim
  | l2i =>
    dsimp only [rxe] at h ⊢
    split at h
    next => exact hN _ _ _ _ h
    next => exact h.elim
  | i2b =>
    dsimp only [rxe] at h ⊢
    split at h
    next => exact hN _ _ _ _ h
    next => exact h.elim
  | i2c =>
    dsimp only [rxe] at h ⊢
    split at h
    next => exact hN _ _ _ _ h
    next => exact h.elim
  | ldiv =>
    dsimp only [rxe] at h ⊢
    split at h
    next => exact ⟨h.1, hN _ _ _ _ h.2⟩
    next => exact h.elim
  | lrem =>
    dsimp only [rxe] at h ⊢
    split at h
    next => exact ⟨h.1, hN _ _ _ _ h.2⟩
    next => exact h.elim
  | lload n => obtain ⟨v, h1, h2⟩ := h; exact ⟨v, h1, hN _ _ _ _ h2⟩
  | lstore n =>
    dsimp only [rxe] at h ⊢
    split at h
    next => exact hN _ _ _ _ h
    next => exact h.elim
  | lreturn =>
    dsimp only [rxe] at h ⊢
    split at h
    next => exact h
    next => exact h.elim
  | _ => exact h
theorem Ev.up1 : ∀ (n μ : Nat) (is : List RI) (pc : Nat) (ls : RL) (st : List Value) (σ : RS) (w : Option Value) (τ : RS), Ev n μ is pc ls st σ w τ → Ev (n + 1) μ is pc ls st σ w τ := by
  intro n
  induction n with
  | zero => intro μ is pc ls st σ w τ h; exact h.elim
  | succ n ih =>
    intro μ is pc ls st σ w τ h
    cases is with
    | nil =>
      obtain ⟨bs, is, h1, h2, h3⟩ := h
      exact ⟨bs, is, h1, h2, ih _ _ _ _ _ _ _ _ h3⟩
    | cons x is =>
      refine rxe_mono (fun pc ls st σ q => ih _ _ _ _ _ _ _ _ q) (fun t st q => ih _ _ _ _ _ _ _ _ q) (fun μ' As st q => ?_) h
      obtain ⟨w', σ', q1, q2⟩ := q
      exact ⟨w', σ', ih _ _ _ _ _ _ _ _ q1, ih _ _ _ _ _ _ _ _ q2⟩
theorem Ev.up {n m μ : Nat} {is : List RI} {pc : Nat} {ls : RL} {st : List Value} {σ : RS} {w : Option Value} {τ : RS} (hm : n ≤ m) (h : Ev n μ is pc ls st σ w τ) : Ev m μ is pc ls st σ w τ := by
  induction hm with
  | refl => exact h
  | step _ ih => exact Ev.up1 _ _ _ _ _ _ _ _ _ ih
/-- the steps' number comes out -/
theorem rxe_ex {x : RI} {pc : Nat} {ls : RL} {st : List Value} {σ : RS} {N : Nat → RK} {J : Nat → Nat → List Value → Prop} {R : Option Value → Prop} {C : Nat → Nat → List Value → List Value → Prop} (h : rxe x pc ls st σ (fun pc ls st σ => ∃ n, N n pc ls st σ) (fun t st => ∃ n, J n t st) R (fun μ As st => ∃ n, C n μ As st)) : ∃ n, rxe x pc ls st σ (N n) (J n) R (C n) := by
  obtain ⟨x1, len, a, b, cs⟩ := x
  cases x1 with
  | iconst n => exact h
  | bipush n => exact h
  | sipush n => exact h
  | lconst n => exact h
  | ldc2_w n => exact h
  | goto n => exact h
  | iload_n n => obtain ⟨v, h1, m, h2⟩ := h; exact ⟨m, v, h1, h2⟩
  | iload n => obtain ⟨v, h1, m, h2⟩ := h; exact ⟨m, v, h1, h2⟩
  | lload_n n => obtain ⟨v, h1, m, h2⟩ := h; exact ⟨m, v, h1, h2⟩
  | aload_n n => obtain ⟨v, h1, m, h2⟩ := h; exact ⟨m, v, h1, h2⟩
  | iinc n d => obtain ⟨v, h1, m, h2⟩ := h; exact ⟨m, v, h1, h2⟩
  | ifCond c n =>
    dsimp only [rxe] at h ⊢
    split at h
    next =>
      rcases h with ⟨q, m, h⟩ | ⟨q, m, h⟩
      · exact ⟨m, Or.inl ⟨q, h⟩⟩
      · exact ⟨m, Or.inr ⟨q, h⟩⟩
    next => exact h.elim
  | if_icmp c n =>
    dsimp only [rxe] at h ⊢
    split at h
    next =>
      rcases h with ⟨q, m, h⟩ | ⟨q, m, h⟩
      · exact ⟨m, Or.inl ⟨q, h⟩⟩
      · exact ⟨m, Or.inr ⟨q, h⟩⟩
    next => exact h.elim
  | tableswitch n1 n2 n3 n4 =>
    dsimp only [rxe] at h ⊢
    split at h
    next => obtain ⟨t, h1, m, h2⟩ := h; exact ⟨m, t, h1, h2⟩
    next => exact h.elim
  | lookupswitch n1 n2 =>
    dsimp only [rxe] at h ⊢
    split at h
    next => obtain ⟨t, h1, m, h2⟩ := h; exact ⟨m, t, h1, h2⟩
    next => exact h.elim
  | ireturn =>
    dsimp only [rxe] at h ⊢
    split at h
    next => exact ⟨0, h⟩
    next => exact h.elim
  | return_ =>
    dsimp only [rxe] at h ⊢
    split at h
    next => exact ⟨0, h⟩
    next => exact h.elim
  | getfield n =>
    dsimp only [rxe] at h ⊢
    split at h
    next v r =>
      cases q0 : Nat.beq a.toNat 0 with
      | true => rw [q0] at h; exact h
      | false =>
        rw [q0] at h
        cases q1 : Nat.beq a.toNat 1 with
        | true => rw [q1] at h; exact h
        | false =>
          rw [q1] at h
          cases q2 : Nat.beq a.toNat 2 with
          | true => rw [q2] at h; exact h
          | false => rw [q2] at h; exact h
    next => exact h.elim
  | invokevirtual n =>
    dsimp only [rxe] at h ⊢
    split at h
    next m r ed => exact h
    next => exact h.elim
  | putfield n =>
    dsimp only [rxe] at h ⊢
    split at h
    next => exact h
    next => exact h
    next => exact h.elim
  | dup =>
    dsimp only [rxe] at h ⊢
    split at h
    next => exact h
    next => exact h
    next => exact h.elim
  | iaload =>
    dsimp only [rxe] at h ⊢
    split at h
    next => obtain ⟨h1, m, h2⟩ := h; exact ⟨m, h1, h2⟩
    next => exact h.elim
  | baload =>
    dsimp only [rxe] at h ⊢
    split at h
    next => obtain ⟨h1, m, h2⟩ := h; exact ⟨m, h1, h2⟩
    next => exact h.elim
  | laload =>
    dsimp only [rxe] at h ⊢
    split at h
    next => obtain ⟨h1, m, h2⟩ := h; exact ⟨m, h1, h2⟩
    next => exact h.elim
  | iastore =>
    dsimp only [rxe] at h ⊢
    split at h
    next => obtain ⟨h1, m, h2⟩ := h; exact ⟨m, h1, h2⟩
    next => exact h.elim
  | bastore =>
    dsimp only [rxe] at h ⊢
    split at h
    next => obtain ⟨h1, m, h2⟩ := h; exact ⟨m, h1, h2⟩
    next => exact h.elim
  | lastore =>
    dsimp only [rxe] at h ⊢
    split at h
    next => obtain ⟨h1, m, h2⟩ := h; exact ⟨m, h1, h2⟩
    next => exact h.elim
  | istore_n n =>
    dsimp only [rxe] at h ⊢
    split at h
    next => exact h
    next => exact h.elim
  | istore n =>
    dsimp only [rxe] at h ⊢
    split at h
    next => exact h
    next => exact h.elim
  | lstore_n n =>
    dsimp only [rxe] at h ⊢
    split at h
    next => exact h
    next => exact h.elim
  | dup2 =>
    dsimp only [rxe] at h ⊢
    split at h
    next => exact h
    next => exact h.elim
  | pop =>
    dsimp only [rxe] at h ⊢
    split at h
    next => exact h
    next => exact h.elim
  | iadd =>
    dsimp only [rxe] at h ⊢
    split at h
    next => exact h
    next => exact h.elim
  | isub =>
    dsimp only [rxe] at h ⊢
    split at h
    next => exact h
    next => exact h.elim
  | imul =>
    dsimp only [rxe] at h ⊢
    split at h
    next => exact h
    next => exact h.elim
  | ior =>
    dsimp only [rxe] at h ⊢
    split at h
    next => exact h
    next => exact h.elim
  | ishl =>
    dsimp only [rxe] at h ⊢
    split at h
    next => exact h
    next => exact h.elim
  | ladd =>
    dsimp only [rxe] at h ⊢
    split at h
    next => exact h
    next => exact h.elim
  | lmul =>
    dsimp only [rxe] at h ⊢
    split at h
    next => exact h
    next => exact h.elim
  | lor =>
    dsimp only [rxe] at h ⊢
    split at h
    next => exact h
    next => exact h.elim
  | lshl =>
    dsimp only [rxe] at h ⊢
    split at h
    next => exact h
    next => exact h.elim
  | i2l =>
    dsimp only [rxe] at h ⊢
    split at h
    next => exact h
    next => exact h.elim
  | lcmp =>
    dsimp only [rxe] at h ⊢
    split at h
    next => exact h
    next => exact h.elim
  | iand =>
    dsimp only [rxe] at h ⊢
    split at h
    next => exact h
    next => exact h.elim
  | ishr =>
    dsimp only [rxe] at h ⊢
    split at h
    next => exact h
    next => exact h.elim
  | iushr =>
    dsimp only [rxe] at h ⊢
    split at h
    next => exact h
    next => exact h.elim
  | lsub =>
    dsimp only [rxe] at h ⊢
    split at h
    next => exact h
    next => exact h.elim
  | land =>
    dsimp only [rxe] at h ⊢
    split at h
    next => exact h
    next => exact h.elim
  | lxor =>
    dsimp only [rxe] at h ⊢
    split at h
    next => exact h
    next => exact h.elim
  | lneg =>
    dsimp only [rxe] at h ⊢
    split at h
    next => exact h
    next => exact h.elim
  | lshr =>
    dsimp only [rxe] at h ⊢
    split at h
    next => exact h
    next => exact h.elim
  | lushr =>
    dsimp only [rxe] at h ⊢
    split at h
    next => exact h
    next => exact h.elim
  | l2i =>
    dsimp only [rxe] at h ⊢
    split at h
    next => exact h
    next => exact h.elim
  | i2b =>
    dsimp only [rxe] at h ⊢
    split at h
    next => exact h
    next => exact h.elim
  | i2c =>
    dsimp only [rxe] at h ⊢
    split at h
    next => exact h
    next => exact h.elim
  | ldiv =>
    dsimp only [rxe] at h ⊢
    split at h
    next => obtain ⟨h1, m, h2⟩ := h; exact ⟨m, h1, h2⟩
    next => exact h.elim
  | lrem =>
    dsimp only [rxe] at h ⊢
    split at h
    next => obtain ⟨h1, m, h2⟩ := h; exact ⟨m, h1, h2⟩
    next => exact h.elim
  | lload n => obtain ⟨v, h1, m, h2⟩ := h; exact ⟨m, v, h1, h2⟩
  | lstore n =>
    dsimp only [rxe] at h ⊢
    split at h
    next => exact h
    next => exact h.elim
  | lreturn =>
    dsimp only [rxe] at h ⊢
    split at h
    next => exact ⟨0, h⟩
    next => exact h.elim
  | _ => exact ⟨0, h⟩
/-- any number of steps -/
def EvA (μ : Nat) (is : List RI) (pc : Nat) (ls : RL) (st : List Value) (σ : RS) (w : Option Value) (τ : RS) : Prop := ∃ n, Ev n μ is pc ls st σ w τ
theorem EvA.c {μ : Nat} {x : RI} {is : List RI} {pc : Nat} {ls : RL} {st : List Value} {σ : RS} {w : Option Value} {τ : RS} (h : rxe x pc ls st σ (fun pc' ls' st' σ' => EvA μ is pc' ls' st' σ' w τ) (fun t st' => EvA μ [] t ls st' σ w τ) (fun w' => w' = w ∧ σ = τ) (fun μ' As st' => ∃ w' σ', EvM μ' As σ w' σ' ∧ EvA μ is (pc + 3) ls (w'.toList ++ st') σ' w τ)) : EvA μ (x :: is) pc ls st σ w τ := by
  have h2 := rxe_ex (N := fun n pc' ls' st' σ' => Ev n μ is pc' ls' st' σ' w τ) (J := fun n t st' => Ev n μ [] t ls st' σ w τ) (C := fun n μ' As st' => ∃ w' σ', Ev n μ' [] 0 (lv_args 0 (.ref 1000 :: As)) [] σ w' σ' ∧ Ev n μ is (pc + 3) ls (w'.toList ++ st') σ' w τ) (rxe_mono (fun _ _ _ _ q => q) (fun _ _ q => q) (fun μ' As st' q => by
    obtain ⟨w', σ', ⟨n1, q1⟩, n2, q2⟩ := q
    exact ⟨max n1 n2, w', σ', q1.up (Nat.le_max_left _ _), q2.up (Nat.le_max_right _ _)⟩) h)
  obtain ⟨n, h3⟩ := h2
  exact ⟨n + 1, h3⟩
theorem rdl_sub {i j : Nat} {ls ls' : RL} (h : ∀ q ∈ ls, q ∈ ls') : ∀ q ∈ rdl i j ls, q ∈ rdl i j ls' := by
  have key : ∀ (l : RL) (q : Nat × Value), q ∈ rdl i j l ↔ q ∈ l ∧ rky i j q = true := by
    intro l
    induction l with
    | nil => intro q; exact ⟨fun h => absurd h List.not_mem_nil, fun h => absurd h.1 List.not_mem_nil⟩
    | cons y r ih =>
      intro q
      unfold rdl
      cases hy : rky i j y with
      | true =>
        dsimp only
        rw [List.mem_cons, List.mem_cons, ih q]
        refine ⟨fun h => h.elim (fun e => ⟨Or.inl e, by rw [e]; exact hy⟩) (fun h => ⟨Or.inr h.1, h.2⟩), fun h => h.1.elim (fun e => Or.inl e) (fun m => Or.inr ⟨m, h.2⟩)⟩
      | false =>
        dsimp only
        rw [List.mem_cons, ih q]
        refine ⟨fun h => ⟨Or.inr h.1, h.2⟩, fun h => h.1.elim (fun e => ?_) (fun m => ⟨m, h.2⟩)⟩
        rw [e, hy] at h
        exact absurd h.2 (by decide)
  intro q hq
  rw [key] at hq ⊢
  exact ⟨h q hq.1, hq.2⟩
theorem rs1_sub {i : Nat} {v : Value} {ls ls' : RL} (h : ∀ q ∈ ls, q ∈ ls') : ∀ q ∈ rs1 ls i v, q ∈ rs1 ls' i v := by
  intro q hq
  unfold rs1 at hq ⊢
  rcases List.mem_cons.mp hq with e | m
  · exact List.mem_cons.mpr (Or.inl e)
  · exact List.mem_cons.mpr (Or.inr (rdl_sub h q m))
theorem rs2_sub {i : Nat} {v : Value} {ls ls' : RL} (h : ∀ q ∈ ls, q ∈ ls') : ∀ q ∈ rs2 ls i v, q ∈ rs2 ls' i v := by
  intro q hq
  unfold rs2 at hq ⊢
  rcases List.mem_cons.mp hq with e | m
  · exact List.mem_cons.mpr (Or.inl e)
  · exact List.mem_cons.mpr (Or.inr (rdl_sub h q m))
theorem rxe_sub {x : RI} {pc : Nat} {ls ls' : RL} {st : List Value} {σ : RS} {N N' : RK} {J J' : Nat → List Value → Prop} {R : Option Value → Prop} {C C' : Nat → List Value → List Value → Prop} (hs : ∀ q ∈ ls, q ∈ ls') (hN : ∀ pc ls st σ ls', (∀ q ∈ ls, q ∈ ls') → N pc ls st σ → N' pc ls' st σ) (hJ : ∀ t st, J t st → J' t st) (hC : ∀ μ As st, C μ As st → C' μ As st) (h : rxe x pc ls st σ N J R C) : rxe x pc ls' st σ N' J' R C' := by
  obtain ⟨x1, len, a, b, cs⟩ := x
  cases x1 with
  | iconst n => exact hN _ _ _ _ _ hs h
  | bipush n => exact hN _ _ _ _ _ hs h
  | sipush n => exact hN _ _ _ _ _ hs h
  | lconst n => exact hN _ _ _ _ _ hs h
  | ldc2_w n => exact hN _ _ _ _ _ hs h
  | iload_n n => obtain ⟨v, h1, h2⟩ := h; exact ⟨v, hs _ h1, hN _ _ _ _ _ hs h2⟩
  | iload n => obtain ⟨v, h1, h2⟩ := h; exact ⟨v, hs _ h1, hN _ _ _ _ _ hs h2⟩
  | lload_n n => obtain ⟨v, h1, h2⟩ := h; exact ⟨v, hs _ h1, hN _ _ _ _ _ hs h2⟩
  | aload_n n => obtain ⟨v, h1, h2⟩ := h; exact ⟨v, hs _ h1, hN _ _ _ _ _ hs h2⟩
  | iinc n d => obtain ⟨v, h1, h2⟩ := h; exact ⟨v, hs _ h1, hN _ _ _ _ _ (rs1_sub hs) h2⟩
  | goto n => exact hJ _ _ h
  | ifCond c n =>
    dsimp only [rxe] at h ⊢
    split at h
    next => exact h.imp (fun q => ⟨q.1, hJ _ _ q.2⟩) (fun q => ⟨q.1, hN _ _ _ _ _ hs q.2⟩)
    next => exact h.elim
  | if_icmp c n =>
    dsimp only [rxe] at h ⊢
    split at h
    next => exact h.imp (fun q => ⟨q.1, hJ _ _ q.2⟩) (fun q => ⟨q.1, hN _ _ _ _ _ hs q.2⟩)
    next => exact h.elim
  | tableswitch n1 n2 n3 n4 =>
    dsimp only [rxe] at h ⊢
    split at h
    next => obtain ⟨t, h1, h2⟩ := h; exact ⟨t, h1, hJ _ _ h2⟩
    next => exact h.elim
  | lookupswitch n1 n2 =>
    dsimp only [rxe] at h ⊢
    split at h
    next => obtain ⟨t, h1, h2⟩ := h; exact ⟨t, h1, hJ _ _ h2⟩
    next => exact h.elim
  | ireturn =>
    dsimp only [rxe] at h ⊢
    split at h
    next => exact h
    next => exact h.elim
  | return_ =>
    dsimp only [rxe] at h ⊢
    split at h
    next => exact h
    next => exact h.elim
  | getfield n =>
    dsimp only [rxe] at h ⊢
    split at h
    next v r =>
      cases q0 : Nat.beq a.toNat 0 with
      | true => rw [q0] at h; exact hN _ _ _ _ _ hs h
      | false =>
        rw [q0] at h
        cases q1 : Nat.beq a.toNat 1 with
        | true => rw [q1] at h; exact hN _ _ _ _ _ hs h
        | false =>
          rw [q1] at h
          cases q2 : Nat.beq a.toNat 2 with
          | true => rw [q2] at h; exact hN _ _ _ _ _ hs h
          | false => rw [q2] at h; exact hN _ _ _ _ _ hs h
    next => exact h.elim
  | invokevirtual n =>
    dsimp only [rxe] at h ⊢
    split at h
    next m r ed => exact hC _ _ _ h
    next => exact h.elim
  | putfield n =>
    dsimp only [rxe] at h ⊢
    split at h
    next => exact hN _ _ _ _ _ hs h
    next => exact hN _ _ _ _ _ hs h
    next => exact h.elim
  | dup =>
    dsimp only [rxe] at h ⊢
    split at h
    next => exact hN _ _ _ _ _ hs h
    next => exact hN _ _ _ _ _ hs h
    next => exact h.elim
  | iaload =>
    dsimp only [rxe] at h ⊢
    split at h
    next => exact ⟨h.1, hN _ _ _ _ _ hs h.2⟩
    next => exact h.elim
  | baload =>
    dsimp only [rxe] at h ⊢
    split at h
    next => exact ⟨h.1, hN _ _ _ _ _ hs h.2⟩
    next => exact h.elim
  | laload =>
    dsimp only [rxe] at h ⊢
    split at h
    next => exact ⟨h.1, hN _ _ _ _ _ hs h.2⟩
    next => exact h.elim
  | iastore =>
    dsimp only [rxe] at h ⊢
    split at h
    next => exact ⟨h.1, hN _ _ _ _ _ hs h.2⟩
    next => exact h.elim
  | bastore =>
    dsimp only [rxe] at h ⊢
    split at h
    next => exact ⟨h.1, hN _ _ _ _ _ hs h.2⟩
    next => exact h.elim
  | lastore =>
    dsimp only [rxe] at h ⊢
    split at h
    next => exact ⟨h.1, hN _ _ _ _ _ hs h.2⟩
    next => exact h.elim
  | istore_n n =>
    dsimp only [rxe] at h ⊢
    split at h
    next => exact hN _ _ _ _ _ (rs1_sub hs) h
    next => exact h.elim
  | istore n =>
    dsimp only [rxe] at h ⊢
    split at h
    next => exact hN _ _ _ _ _ (rs1_sub hs) h
    next => exact h.elim
  | lstore_n n =>
    dsimp only [rxe] at h ⊢
    split at h
    next => exact hN _ _ _ _ _ (rs2_sub hs) h
    next => exact h.elim
  | dup2 =>
    dsimp only [rxe] at h ⊢
    split at h
    next => exact hN _ _ _ _ _ hs h
    next => exact h.elim
  | pop =>
    dsimp only [rxe] at h ⊢
    split at h
    next => exact hN _ _ _ _ _ hs h
    next => exact h.elim
  | iadd =>
    dsimp only [rxe] at h ⊢
    split at h
    next => exact hN _ _ _ _ _ hs h
    next => exact h.elim
  | isub =>
    dsimp only [rxe] at h ⊢
    split at h
    next => exact hN _ _ _ _ _ hs h
    next => exact h.elim
  | imul =>
    dsimp only [rxe] at h ⊢
    split at h
    next => exact hN _ _ _ _ _ hs h
    next => exact h.elim
  | ior =>
    dsimp only [rxe] at h ⊢
    split at h
    next => exact hN _ _ _ _ _ hs h
    next => exact h.elim
  | ishl =>
    dsimp only [rxe] at h ⊢
    split at h
    next => exact hN _ _ _ _ _ hs h
    next => exact h.elim
  | ladd =>
    dsimp only [rxe] at h ⊢
    split at h
    next => exact hN _ _ _ _ _ hs h
    next => exact h.elim
  | lmul =>
    dsimp only [rxe] at h ⊢
    split at h
    next => exact hN _ _ _ _ _ hs h
    next => exact h.elim
  | lor =>
    dsimp only [rxe] at h ⊢
    split at h
    next => exact hN _ _ _ _ _ hs h
    next => exact h.elim
  | lshl =>
    dsimp only [rxe] at h ⊢
    split at h
    next => exact hN _ _ _ _ _ hs h
    next => exact h.elim
  | i2l =>
    dsimp only [rxe] at h ⊢
    split at h
    next => exact hN _ _ _ _ _ hs h
    next => exact h.elim
  | lcmp =>
    dsimp only [rxe] at h ⊢
    split at h
    next => exact hN _ _ _ _ _ hs h
    next => exact h.elim
  | iand =>
    dsimp only [rxe] at h ⊢
    split at h
    next => exact hN _ _ _ _ _ hs h
    next => exact h.elim
  | ishr =>
    dsimp only [rxe] at h ⊢
    split at h
    next => exact hN _ _ _ _ _ hs h
    next => exact h.elim
  | iushr =>
    dsimp only [rxe] at h ⊢
    split at h
    next => exact hN _ _ _ _ _ hs h
    next => exact h.elim
  | lsub =>
    dsimp only [rxe] at h ⊢
    split at h
    next => exact hN _ _ _ _ _ hs h
    next => exact h.elim
  | land =>
    dsimp only [rxe] at h ⊢
    split at h
    next => exact hN _ _ _ _ _ hs h
    next => exact h.elim
  | lxor =>
    dsimp only [rxe] at h ⊢
    split at h
    next => exact hN _ _ _ _ _ hs h
    next => exact h.elim
  | lneg =>
    dsimp only [rxe] at h ⊢
    split at h
    next => exact hN _ _ _ _ _ hs h
    next => exact h.elim
  | lshr =>
    dsimp only [rxe] at h ⊢
    split at h
    next => exact hN _ _ _ _ _ hs h
    next => exact h.elim
  | lushr =>
    dsimp only [rxe] at h ⊢
    split at h
    next => exact hN _ _ _ _ _ hs h
    next => exact h.elim
  | l2i =>
    dsimp only [rxe] at h ⊢
    split at h
    next => exact hN _ _ _ _ _ hs h
    next => exact h.elim
  | i2b =>
    dsimp only [rxe] at h ⊢
    split at h
    next => exact hN _ _ _ _ _ hs h
    next => exact h.elim
  | i2c =>
    dsimp only [rxe] at h ⊢
    split at h
    next => exact hN _ _ _ _ _ hs h
    next => exact h.elim
  | ldiv =>
    dsimp only [rxe] at h ⊢
    split at h
    next => exact ⟨h.1, hN _ _ _ _ _ hs h.2⟩
    next => exact h.elim
  | lrem =>
    dsimp only [rxe] at h ⊢
    split at h
    next => exact ⟨h.1, hN _ _ _ _ _ hs h.2⟩
    next => exact h.elim
  | lload n => obtain ⟨v, h1, h2⟩ := h; exact ⟨v, hs _ h1, hN _ _ _ _ _ hs h2⟩
  | lstore n =>
    dsimp only [rxe] at h ⊢
    split at h
    next => exact hN _ _ _ _ _ (rs2_sub hs) h
    next => exact h.elim
  | lreturn =>
    dsimp only [rxe] at h ⊢
    split at h
    next => exact h
    next => exact h.elim
  | _ => exact h
theorem Ev.sub : ∀ (n μ : Nat) (is : List RI) (pc : Nat) (ls ls' : RL) (st : List Value) (σ : RS) (w : Option Value) (τ : RS), (∀ q ∈ ls, q ∈ ls') → Ev n μ is pc ls st σ w τ → Ev n μ is pc ls' st σ w τ := by
  intro n
  induction n with
  | zero => intro μ is pc ls ls' st σ w τ _ h; exact h.elim
  | succ n ih =>
    intro μ is pc ls ls' st σ w τ hs h
    cases is with
    | nil =>
      obtain ⟨bs, is, h1, h2, h3⟩ := h
      exact ⟨bs, is, h1, h2, ih _ _ _ _ _ _ _ _ _ hs h3⟩
    | cons x is =>
      refine rxe_sub hs (fun pc l st σ l' hl q => ih _ _ _ _ _ _ _ _ _ hl q) (fun t st q => ih _ _ _ _ _ _ _ _ _ hs q) (fun μ' As st q => ?_) h
      obtain ⟨w', σ', q1, q2⟩ := q
      exact ⟨w', σ', q1, ih _ _ _ _ _ _ _ _ _ hs q2⟩
/-- a block's predicate, with what its run does beside -/
theorem rwp_E {ct ct' : RC} {G G' : RK} {Z Z' : Option Value → RS → Prop} {E : Option Value → RS → Prop} {μ : Nat}
    (hct : ∀ μ P Q, rct ct μ = some (P, Q) → rct ct' μ = some (P, fun As σ w τ => Q As σ w τ ∧ EvM μ As σ w τ))
    (hG : ∀ pc ls st σ, G pc ls st σ → (∀ w τ, EvA μ [] pc ls st σ w τ → E w τ) → G' pc ls st σ)
    (hZ : ∀ w τ, Z w τ → E w τ → Z' w τ) (is : List RI) : ∀ (pc : Nat) (ls : RL) (st : List Value) (σ : RS), is.all evo = true → rwp ct G Z is pc ls st σ → (∀ w τ, EvA μ is pc ls st σ w τ → E w τ) → rwp ct' G' Z' is pc ls st σ := by
  induction is with
  | nil => intro pc ls st σ _ h hE; exact hG _ _ _ _ h hE
  | cons x is ih =>
    intro pc ls st σ ho h hE
    rw [List.all_cons, Bool.and_eq_true] at ho
    exact rst_x (N := fun w τ pc' ls' st' σ' => EvA μ is pc' ls' st' σ' w τ) (J := fun w τ t st' => EvA μ [] t ls st' σ w τ) ho.1 hct (fun w τ q => hE w τ (EvA.c q)) (fun pc' ls' st' σ' q1 q2 => ih _ _ _ _ ho.2 q1 q2) (fun t st' q1 q2 => hG _ _ _ _ q1 q2) (fun w q1 q2 => hZ _ _ q1 q2) h
def RMetE (l : Launch) (lev μ : Nat) (P : RP) (Q : RQ) : Prop := RMet l lev μ P (fun As σ w τ => Q As σ w τ ∧ EvM μ As σ w τ)
def ctE (ct : RC) : RC := ct.map (fun q => (q.1, q.2.1, fun As σ w τ => q.2.2 As σ w τ ∧ EvM q.1 As σ w τ))
theorem rct_E (ct : RC) : ∀ μ P Q, rct ct μ = some (P, Q) → rct (ctE ct) μ = some (P, fun As σ w τ => Q As σ w τ ∧ EvM μ As σ w τ) := by
  intro μ P Q
  induction ct with
  | nil => intro h; cases h
  | cons q r ih =>
    intro h
    unfold rct at h
    show (match Nat.beq q.1 μ with | true => some _ | false => rct (ctE r) μ) = _
    cases e : Nat.beq q.1 μ with
    | true =>
      rw [e] at h
      have e1 : q.1 = μ := Nat.eq_of_beq_eq_true e
      have e2 : q.2 = (P, Q) := Option.some.inj h
      dsimp only
      rw [e1, e2]
    | false => rw [e] at h; exact ih h
theorem RMetE.by {l : Launch} {lev μ : Nat} {P : RP} {Q : RQ} {r : RM} (bs : RB) (ct : RC) (hv : evl μ = some bs) (ho : evs bs = true) (hr : mtab[μ]? = some r) (hok : rokM r.2.1 r.2.2.1 r.2.2.2.1 bs = true) (hct : ∀ q ∈ ctE ct, ∃ lv, lv < lev ∧ RMet l lv q.1 q.2.1 q.2.2)
    (hlen : ∀ (As : List Value) (σ : RS), P As σ → (lg_sl (.ref 1000 :: As)).length ≤ r.2.2.1)
    (body : ∀ (As : List Value) (σ : RS), P As σ → ∀ G : RK, (∀ (pc : Nat) (ls : RL) (st : List Value) (τ : RS), rgo bs ct G (Q As σ) pc ls st τ → G pc ls st τ) → (∀ (pc : Nat) (ls ls' : RL) (st : List Value) (τ : RS), (∀ q ∈ ls, q ∈ ls') → G pc ls st τ → G pc ls' st τ) → G 0 (lv_args 0 (.ref 1000 :: As)) [] σ) : RMetE l lev μ P Q := by
  refine RMet.by bs (ctE ct) hr hok hct hlen (fun As σ hP G' hB' hW' => ?_)
  refine body As σ hP (fun pc ls st τ => ∃ ls0 : RL, (∀ q ∈ ls0, q ∈ ls) ∧ ((∀ w υ, EvA μ [] pc ls0 st τ w υ → EvM μ As σ w υ) → G' pc ls0 st τ)) (fun pc ls st τ h => ?_) (fun pc ls ls' st τ hs hg => ?_) |>.elim (fun ls0 q => hW' _ _ _ _ _ q.1 (q.2 (fun w υ e => ?_)))
  · refine ⟨ls, fun q hq => hq, fun hE => hB' pc ls st τ ?_⟩
    unfold rgo at h ⊢
    split at h
    next is hf =>
      have hin := rfd_mem hf
      have hoi : is.all evo = true := by
        unfold evs at ho
        exact List.all_eq_true.mp ho (pc, is) hin
      refine rwp_E (μ := μ) (rct_E ct) (fun pc2 ls2 st2 σ2 q q2 => ?_) (fun w υ q q2 => ⟨q, q2⟩) is pc ls st τ hoi h (fun w υ q => hE w υ ?_)
      · obtain ⟨ls0, a1, a2⟩ := q
        refine hW' _ _ _ _ _ a1 (a2 (fun w υ e => q2 w υ ?_))
        obtain ⟨n, e⟩ := e
        exact ⟨n, Ev.sub _ _ _ _ _ _ _ _ _ _ a1 e⟩
      · obtain ⟨n, q⟩ := q
        exact ⟨n + 1, bs, is, hv, hf, q⟩
    next => exact h.elim
  · obtain ⟨ls0, a1, a2⟩ := hg
    exact ⟨ls0, fun q hq => hs q (a1 q hq), a2⟩
  · obtain ⟨n, e⟩ := e
    exact ⟨n, Ev.sub _ _ _ _ _ _ _ _ _ _ q.1 e⟩
def Bod (bs : RB) (ct : RC) (P : RP) (Q : RQ) : Prop := ∀ (As : List Value) (σ : RS), P As σ → ∀ G : RK, (∀ (pc : Nat) (ls : RL) (st : List Value) (τ : RS), rgo bs ct G (Q As σ) pc ls st τ → G pc ls st τ) → (∀ (pc : Nat) (ls ls' : RL) (st : List Value) (τ : RS), (∀ q ∈ ls, q ∈ ls') → G pc ls st τ → G pc ls' st τ) → G 0 (lv_args 0 (.ref 1000 :: As)) [] σ
theorem ctE0 {l : Launch} {lev : Nat} : ∀ q ∈ ctE ([] : RC), ∃ lv, lv < lev ∧ RMet l lv q.1 q.2.1 q.2.2 := fun _ h => absurd h List.not_mem_nil
theorem ctEc {l : Launch} {lev lv μ : Nat} {P : RP} {Q : RQ} {r : RC} (h : RMetE l lv μ P Q) (hl : lv < lev) (hr : ∀ q ∈ ctE r, ∃ lv, lv < lev ∧ RMet l lv q.1 q.2.1 q.2.2) : ∀ q ∈ ctE ((μ, P, Q) :: r), ∃ lv, lv < lev ∧ RMet l lv q.1 q.2.1 q.2.2 := fun q hq => (List.mem_cons.mp hq).elim (fun e => by subst e; exact ⟨lv, hl, h⟩) (hr q)
