/-! a program's constructor -/
abbrev Uz_iLq : CqC := fun As σ w τ => Q_Jx4a65c_init_da8c8 As σ w τ
theorem wz_iLq : ∀ (L : Nat) (As : List AvC) (σ : CsC) (w : Option AvC) (τ : CsC), EvF L 233 As σ w τ → Uz_iLq As σ w τ := fun L As σ w τ h => h.m.1
abbrev Uz_i9q : CqC := fun As σ w τ => Q_X9_init As σ w τ
theorem wz_i9q : ∀ (L : Nat) (As : List AvC) (σ : CsC) (w : Option AvC) (τ : CsC), EvF L 184 As σ w τ → Uz_i9q As σ w τ := fun L As σ w τ h => h.m.1
abbrev Uz_apq : CqC := fun As σ w τ => Q_X5_addParam As σ w τ
theorem wz_apq : ∀ (L : Nat) (As : List AvC) (σ : CsC) (w : Option AvC) (τ : CsC), EvF L 112 As σ w τ → Uz_apq As σ w τ := fun L As σ w τ h => h.m.2
abbrev Pz_pgini : ((Int → Int) × (Nat → Nat) × (Nat → Nat) × (Nat → Nat) × (Nat → Nat) × ZS) → CpC := fun y As σ => match y with
  | (N, E, A, B, V, z) => ∃ (p0 : Nat), As = [.inr (.inr (some p0))] ∧ (p0 < cnC σ)
abbrev Qz_pgini : ((Int → Int) × (Nat → Nat) × (Nat → Nat) × (Nat → Nat) × (Nat → Nat) × ZS) → CqC := fun y As σ w τ => match y, As with
  | (N, E, A, B, V, z), [.inr (.inr (some p0))] => w = none ∧ Ip6 p0 σ τ
  | _, _ => True
abbrev Uz_pgini : CqC := fun As σ w τ => ∀ y, Pz_pgini y As σ → Qz_pgini y As σ w τ
set_option maxHeartbeats 4000000 in
theorem pz_pgini (y : (Int → Int) × (Nat → Nat) × (Nat → Nat) × (Nat → Nat) × (Nat → Nat) × ZS) : PbC KX6_init [(184, TrP, EqC 184), (233, TrP, EqC 233), (186, TrP, EqC 186), (111, TrP, EqC 111), (112, TrP, EqC 112)] [(184, Uz_i9q), (233, Uz_iLq), (111, Uz_Method), (112, Uz_apq)] (fun As σ => Pz_pgini y As σ ∧ cnC σ ≤ 1000000 ∧ ∃ w τ, uqC quL 116 As σ w τ) (Qz_pgini y) := by
  obtain ⟨N, E, A, B, V, z⟩ := y
  rintro As σ ⟨⟨p0, rfl, hp⟩, hcn, _, _, hQ⟩ K hB hW n_
  have hb0 : B6 (cnC σ) p0 σ σ [] [] [] := B6.rf hp
  change K n_ 0 [(0, .inr (.inr (some p0)))] [] σ
  refine hB _ _ _ _ _ (fun m51 hm51 => ?_)
  dsimp only [ucgo, ucwp, ucsC, uqC, uoC, ctC, rfd, KX6_init, KX6_init_0, lkC, s1C, s2C, dlC, kyC, Nat.beq, Nat.ble, rcd, rno, rsw, Nat.reduceAdd, Nat.reduceBEq, Nat.reduceDiv, List.drop, List.take, List.reverse, List.reverseAux, Int.toNat, Option.toList, List.append, List.cons_append, List.nil_append, zg215]
  generalize hs52 : nOC σ 60 (nfC 10) 0 = s52
  intro w53 τ53 o53 q53
  obtain ⟨rfl, HI53, ex53, ty53, -, cn53, -⟩ := q53
  have nx53 : NoxC (cnC σ) (cnC s52) s52 τ53 := NoxC.xt (M := [996, 999]) (M' := [300, 301, 302, 303, 304, 306, 307, 901]) o53.2 ex53 rfl rfl
  have al53 : AlC (cnC σ) σ τ53 := by
    rw [← hs52] at nx53
    exact AlC.ne nx53
  have hb_53 : B6 (cnC σ) p0 σ τ53 [] [] [] := hb0.al al53
  try dsimp only [Option.toList, List.cons_append, List.nil_append, s1C, s2C, dlC, kyC, Nat.beq, lkC, rcd, rno, rsw]
  intro a54 e54 ob54 fk54
  cases e54
  clear fk54 ob54
  generalize hs54 : pRC τ53 p0 210 (some (cnC σ)) = s54
  have hb_54 : B6 (cnC σ) p0 σ s54 ((210, cnC σ) :: []) [] [] := by rw [← hs54]; exact hb_53.pr (by decide) rfl
  generalize hs55 : nOC s54 50 (nfC 0) 6 = s55
  intro w56 τ56 o56 q56
  obtain ⟨rfl, HI56, ex56, ty56, -, cn56, -⟩ := q56
  have nx56 : NoxC (cnC s54) (cnC s55) s55 τ56 := NoxC.xt (M := []) (M' := [0, 1]) o56.2 ex56 rfl rfl
  have al56 : AlC (cnC s54) s54 τ56 := by
    rw [← hs55] at nx56
    exact AlC.ne nx56
  have hb_56 : B6 (cnC σ) p0 σ τ56 ((210, cnC σ) :: []) [] [] := hb_54.al al56
  have z56 : fIC τ56 (cnC s54) 2 = 0 := by
    rw [((o56.2 : FrE [0, 1] s55 τ56).2 rfl (cnC s54) (by rw [← hs55]; exact Nat.lt_succ_self _)).1 2 rfl |>.1, ← hs55]
    show u1C s54.2.2.1.1 (cnC s54) (fun _ => 0) (cnC s54) 2 = 0
    rw [u1C_eq]
  try dsimp only [Option.toList, List.cons_append, List.nil_append, s1C, s2C, dlC, kyC, Nat.beq, lkC, rcd, rno, rsw]
  intro a57 e57 ob57 fk57
  cases e57
  clear fk57 ob57
  generalize hs57 : pRC τ56 p0 211 (some (cnC s54)) = s57
  have hb_2057 : B6 (cnC σ) p0 σ τ56 ((210, cnC σ) :: []) (cnC s54 :: []) [] := hb_56.lz ⟨Nat.le_trans hb_54.1.1 (Nat.le_refl _), by rw [cn56]; rw [← hs55]; exact Nat.lt_succ_self _, z56⟩
  have hb_57 : B6 (cnC σ) p0 σ s57 ((211, cnC s54) :: ((210, cnC σ) :: [])) (cnC s54 :: []) [] := by rw [← hs57]; exact hb_2057.pr (by decide) rfl
  generalize hs58 : nOC s57 50 (nfC 0) 11 = s58
  intro w59 τ59 o59 q59
  obtain ⟨rfl, HI59, ex59, ty59, -, cn59, -⟩ := q59
  have nx59 : NoxC (cnC s57) (cnC s58) s58 τ59 := NoxC.xt (M := []) (M' := [0, 1]) o59.2 ex59 rfl rfl
  have al59 : AlC (cnC s57) s57 τ59 := by
    rw [← hs58] at nx59
    exact AlC.ne nx59
  have hb_59 : B6 (cnC σ) p0 σ τ59 ((211, cnC s54) :: ((210, cnC σ) :: [])) (cnC s54 :: []) [] := hb_57.al al59
  have z59 : fIC τ59 (cnC s57) 2 = 0 := by
    rw [((o59.2 : FrE [0, 1] s58 τ59).2 rfl (cnC s57) (by rw [← hs58]; exact Nat.lt_succ_self _)).1 2 rfl |>.1, ← hs58]
    show u1C s57.2.2.1.1 (cnC s57) (fun _ => 0) (cnC s57) 2 = 0
    rw [u1C_eq]
  try dsimp only [Option.toList, List.cons_append, List.nil_append, s1C, s2C, dlC, kyC, Nat.beq, lkC, rcd, rno, rsw]
  intro a60 e60 ob60 fk60
  cases e60
  clear fk60 ob60
  generalize hs60 : pRC τ59 p0 212 (some (cnC s57)) = s60
  have hb_2060 : B6 (cnC σ) p0 σ τ59 ((211, cnC s54) :: ((210, cnC σ) :: [])) (cnC s57 :: (cnC s54 :: [])) [] := hb_59.lz ⟨Nat.le_trans hb_57.1.1 (Nat.le_refl _), by rw [cn59]; rw [← hs58]; exact Nat.lt_succ_self _, z59⟩
  have hb_60 : B6 (cnC σ) p0 σ s60 ((212, cnC s57) :: ((211, cnC s54) :: ((210, cnC σ) :: []))) (cnC s57 :: (cnC s54 :: [])) [] := by rw [← hs60]; exact hb_2060.pr (by decide) rfl
  generalize hs61 : nOC s60 50 (nfC 0) 2 = s61
  intro w62 τ62 o62 q62
  obtain ⟨rfl, HI62, ex62, ty62, -, cn62, -⟩ := q62
  have nx62 : NoxC (cnC s60) (cnC s61) s61 τ62 := NoxC.xt (M := []) (M' := [0, 1]) o62.2 ex62 rfl rfl
  have al62 : AlC (cnC s60) s60 τ62 := by
    rw [← hs61] at nx62
    exact AlC.ne nx62
  have hb_62 : B6 (cnC σ) p0 σ τ62 ((212, cnC s57) :: ((211, cnC s54) :: ((210, cnC σ) :: []))) (cnC s57 :: (cnC s54 :: [])) [] := hb_60.al al62
  have z62 : fIC τ62 (cnC s60) 2 = 0 := by
    rw [((o62.2 : FrE [0, 1] s61 τ62).2 rfl (cnC s60) (by rw [← hs61]; exact Nat.lt_succ_self _)).1 2 rfl |>.1, ← hs61]
    show u1C s60.2.2.1.1 (cnC s60) (fun _ => 0) (cnC s60) 2 = 0
    rw [u1C_eq]
  try dsimp only [Option.toList, List.cons_append, List.nil_append, s1C, s2C, dlC, kyC, Nat.beq, lkC, rcd, rno, rsw]
  intro a63 e63 ob63 fk63
  cases e63
  clear fk63 ob63
  generalize hs63 : pRC τ62 p0 213 (some (cnC s60)) = s63
  have hb_2063 : B6 (cnC σ) p0 σ τ62 ((212, cnC s57) :: ((211, cnC s54) :: ((210, cnC σ) :: []))) (cnC s60 :: (cnC s57 :: (cnC s54 :: []))) [] := hb_62.lz ⟨Nat.le_trans hb_60.1.1 (Nat.le_refl _), by rw [cn62]; rw [← hs61]; exact Nat.lt_succ_self _, z62⟩
  have hb_63 : B6 (cnC σ) p0 σ s63 ((213, cnC s60) :: ((212, cnC s57) :: ((211, cnC s54) :: ((210, cnC σ) :: [])))) (cnC s60 :: (cnC s57 :: (cnC s54 :: []))) [] := by rw [← hs63]; exact hb_2063.pr (by decide) rfl
  generalize hs64 : nOC s63 50 (nfC 0) 9 = s64
  intro w65 τ65 o65 q65
  obtain ⟨rfl, HI65, ex65, ty65, -, cn65, -⟩ := q65
  have nx65 : NoxC (cnC s63) (cnC s64) s64 τ65 := NoxC.xt (M := []) (M' := [0, 1]) o65.2 ex65 rfl rfl
  have al65 : AlC (cnC s63) s63 τ65 := by
    rw [← hs64] at nx65
    exact AlC.ne nx65
  have hb_65 : B6 (cnC σ) p0 σ τ65 ((213, cnC s60) :: ((212, cnC s57) :: ((211, cnC s54) :: ((210, cnC σ) :: [])))) (cnC s60 :: (cnC s57 :: (cnC s54 :: []))) [] := hb_63.al al65
  have z65 : fIC τ65 (cnC s63) 2 = 0 := by
    rw [((o65.2 : FrE [0, 1] s64 τ65).2 rfl (cnC s63) (by rw [← hs64]; exact Nat.lt_succ_self _)).1 2 rfl |>.1, ← hs64]
    show u1C s63.2.2.1.1 (cnC s63) (fun _ => 0) (cnC s63) 2 = 0
    rw [u1C_eq]
  try dsimp only [Option.toList, List.cons_append, List.nil_append, s1C, s2C, dlC, kyC, Nat.beq, lkC, rcd, rno, rsw]
  intro a66 e66 ob66 fk66
  cases e66
  clear fk66 ob66
  generalize hs66 : pRC τ65 p0 214 (some (cnC s63)) = s66
  have hb_2066 : B6 (cnC σ) p0 σ τ65 ((213, cnC s60) :: ((212, cnC s57) :: ((211, cnC s54) :: ((210, cnC σ) :: [])))) (cnC s63 :: (cnC s60 :: (cnC s57 :: (cnC s54 :: [])))) [] := hb_65.lz ⟨Nat.le_trans hb_63.1.1 (Nat.le_refl _), by rw [cn65]; rw [← hs64]; exact Nat.lt_succ_self _, z65⟩
  have hb_66 : B6 (cnC σ) p0 σ s66 ((214, cnC s63) :: ((213, cnC s60) :: ((212, cnC s57) :: ((211, cnC s54) :: ((210, cnC σ) :: []))))) (cnC s63 :: (cnC s60 :: (cnC s57 :: (cnC s54 :: [])))) [] := by rw [← hs66]; exact hb_2066.pr (by decide) rfl
  generalize hs67 : nOC s66 56 (nfC 6) 0 = s67
  have c68 : (Int32.ofInt (-1)).toInt = -1 := by decide
  intro w69 τ69 o69 q69
  obtain ⟨⟨v69, rfl, rfl⟩, u69⟩ := (show Q_X9_keyOf [.inr (.inr (some 1000004))] s67 w69 τ69 ∧ U_keyOf [.inr (.inr (some 1000004))] s67 w69 τ69 from o69.1.1)
  have y69 : v69.toInt = koY := (u69 1 ⟨rfl, by decide⟩ v69 rfl).trans (by decide +kernel)
  try dsimp only [Option.toList, List.cons_append, List.nil_append, s1C, s2C, dlC, kyC, Nat.beq, lkC, rcd, rno, rsw]
  have c70 : (Int32.ofInt 5).toInt = 5 := by decide
  have c71 : (Int32.ofInt 0).toInt = 0 := by decide
  intro w72 τ72 o72 q72
  obtain ⟨rfl, pm72, ⟨-, m1_72, m2_72, -, m3_72⟩, r72, ⟨r1_72, r2_72⟩, r3_72⟩ := q72 (fun _ => 0, fun _ => 0, fun _ => 0, fun _ => 0, fun _ => 0, z) ⟨_, _, _, _, _, rfl, by rw [← hs67]; exact Nat.lt_succ_self _⟩
  have al72 : AlC (cnC s66) s66 τ72 := AlC.ne (t := 56) (N := nfC 6) (g := 0) (by
    rw [hs67]
    exact ⟨pm72.1, fun a ha hn => ⟨fun j _ _ => ⟨(pm72.2.1 a ha hn j).1, (pm72.2.1 a ha hn j).2.2⟩, ⟨(pm72.2.1 a ha hn 185).1, (pm72.2.1 a ha hn 181).2.1⟩, (pm72.2.2 a ha).1⟩⟩)
  have z72 : fIC s67 (cnC s66) 185 = 0 := by
    rw [← hs67]
    show u1C s66.2.2.1.1 (cnC s66) (fun _ => 0) (cnC s66) 185 = 0
    rw [u1C_eq]
  have c72 : cnC s66 < cnC s67 := by rw [← hs67]; exact Nat.lt_succ_self _
  have hb_1072 : B6 (cnC σ) p0 σ τ72 ((214, cnC s63) :: ((213, cnC s60) :: ((212, cnC s57) :: ((211, cnC s54) :: ((210, cnC σ) :: []))))) (cnC s63 :: (cnC s60 :: (cnC s57 :: (cnC s54 :: [])))) [] := hb_66.al al72
  have hb_72 : B6 (cnC σ) p0 σ τ72 ((214, cnC s63) :: ((213, cnC s60) :: ((212, cnC s57) :: ((211, cnC s54) :: ((210, cnC σ) :: []))))) (cnC s63 :: (cnC s60 :: (cnC s57 :: (cnC s54 :: [])))) ((cnC s66, v69, 5) :: []) := hb_1072.me ⟨hb_66.1.1, Nat.lt_of_lt_of_le c72 pm72.1, m1_72, m2_72, m3_72.trans z72, r72, r3_72, Nat.le_trans hb_66.1.1 (Nat.le_of_lt (Nat.lt_of_lt_of_le c72 r1_72)), r2_72⟩
  try dsimp only [Option.toList, List.cons_append, List.nil_append, s1C, s2C, dlC, kyC, Nat.beq, lkC, rcd, rno, rsw]
  intro a73 e73 ob73 fk73
  cases e73
  clear fk73 ob73
  generalize hs73 : pRC τ72 p0 215 (some (cnC s66)) = s73
  have hb_73 : B6 (cnC σ) p0 σ s73 ((215, cnC s66) :: ((214, cnC s63) :: ((213, cnC s60) :: ((212, cnC s57) :: ((211, cnC s54) :: ((210, cnC σ) :: [])))))) (cnC s63 :: (cnC s60 :: (cnC s57 :: (cnC s54 :: [])))) ((cnC s66, v69, 5) :: []) := by rw [← hs73]; exact hb_72.pr (by decide) rfl
  generalize hs74 : nOC s73 56 (nfC 6) 0 = s74
  have c75 : (Int32.ofInt (-1)).toInt = -1 := by decide
  intro w76 τ76 o76 q76
  obtain ⟨⟨v76, rfl, rfl⟩, u76⟩ := (show Q_X9_keyOf [.inr (.inr (some 1000005))] s74 w76 τ76 ∧ U_keyOf [.inr (.inr (some 1000005))] s74 w76 τ76 from o76.1.1)
  have y76 : v76.toInt = kiY := (u76 2 ⟨rfl, by decide⟩ v76 rfl).trans (by decide +kernel)
  try dsimp only [Option.toList, List.cons_append, List.nil_append, s1C, s2C, dlC, kyC, Nat.beq, lkC, rcd, rno, rsw]
  have c77 : (Int32.ofInt 3).toInt = 3 := by decide
  have c78 : (Int32.ofInt 0).toInt = 0 := by decide
  intro w79 τ79 o79 q79
  obtain ⟨rfl, pm79, ⟨-, m1_79, m2_79, -, m3_79⟩, r79, ⟨r1_79, r2_79⟩, r3_79⟩ := q79 (fun _ => 0, fun _ => 0, fun _ => 0, fun _ => 0, fun _ => 0, z) ⟨_, _, _, _, _, rfl, by rw [← hs74]; exact Nat.lt_succ_self _⟩
  have al79 : AlC (cnC s73) s73 τ79 := AlC.ne (t := 56) (N := nfC 6) (g := 0) (by
    rw [hs74]
    exact ⟨pm79.1, fun a ha hn => ⟨fun j _ _ => ⟨(pm79.2.1 a ha hn j).1, (pm79.2.1 a ha hn j).2.2⟩, ⟨(pm79.2.1 a ha hn 185).1, (pm79.2.1 a ha hn 181).2.1⟩, (pm79.2.2 a ha).1⟩⟩)
  have z79 : fIC s74 (cnC s73) 185 = 0 := by
    rw [← hs74]
    show u1C s73.2.2.1.1 (cnC s73) (fun _ => 0) (cnC s73) 185 = 0
    rw [u1C_eq]
  have c79 : cnC s73 < cnC s74 := by rw [← hs74]; exact Nat.lt_succ_self _
  have hb_1079 : B6 (cnC σ) p0 σ τ79 ((215, cnC s66) :: ((214, cnC s63) :: ((213, cnC s60) :: ((212, cnC s57) :: ((211, cnC s54) :: ((210, cnC σ) :: [])))))) (cnC s63 :: (cnC s60 :: (cnC s57 :: (cnC s54 :: [])))) ((cnC s66, v69, 5) :: []) := hb_73.al al79
  have hb_79 : B6 (cnC σ) p0 σ τ79 ((215, cnC s66) :: ((214, cnC s63) :: ((213, cnC s60) :: ((212, cnC s57) :: ((211, cnC s54) :: ((210, cnC σ) :: [])))))) (cnC s63 :: (cnC s60 :: (cnC s57 :: (cnC s54 :: [])))) ((cnC s73, v76, 3) :: ((cnC s66, v69, 5) :: [])) := hb_1079.me ⟨hb_73.1.1, Nat.lt_of_lt_of_le c79 pm79.1, m1_79, m2_79, m3_79.trans z79, r79, r3_79, Nat.le_trans hb_73.1.1 (Nat.le_of_lt (Nat.lt_of_lt_of_le c79 r1_79)), r2_79⟩
  have hlt_oi : cnC s66 < cnC s73 := (hb_73.2.2.2.2.2 (cnC s66, v69, 5) List.mem_cons_self).2.1
  try dsimp only [Option.toList, List.cons_append, List.nil_append, s1C, s2C, dlC, kyC, Nat.beq, lkC, rcd, rno, rsw]
  intro a80 e80 ob80 fk80
  cases e80
  clear fk80 ob80
  generalize hs80 : pRC τ79 p0 216 (some (cnC s73)) = s80
  have hb_80 : B6 (cnC σ) p0 σ s80 ((216, cnC s73) :: ((215, cnC s66) :: ((214, cnC s63) :: ((213, cnC s60) :: ((212, cnC s57) :: ((211, cnC s54) :: ((210, cnC σ) :: []))))))) (cnC s63 :: (cnC s60 :: (cnC s57 :: (cnC s54 :: [])))) ((cnC s73, v76, 3) :: ((cnC s66, v69, 5) :: [])) := by rw [← hs80]; exact hb_79.pr (by decide) rfl
  intro a81 e81 ob81
  cases e81
  have c82 : (Int32.ofInt 4).toInt = 4 := by decide
  rw [(hb_80.2.2.2.1 (215, cnC s66) (List.mem_cons_of_mem _ List.mem_cons_self)).2.2]
  try dsimp only
  intro w83 τ83 o83 q83
  have hap := q83
  obtain rfl : w83 = none := hap.1
  have fap : FrE [185, 900] s80 τ83 := o83.2
  try dsimp only [Option.toList, List.cons_append, List.nil_append, s1C, s2C, dlC, kyC, Nat.beq, lkC, rcd, rno, rsw]
  try dsimp only [Qz_pgini]
  intro τ hwe
  have hcn : cnC τ83 = cnC s80 := congrArg (fun z => z.1.1) (hap.2.2.1.2.1.2.1 rfl)
  have hO := OiQ.mk hb_80 (hb_80.2.2.2.1 (215, cnC s66) (List.mem_cons_of_mem _ List.mem_cons_self)).2.2 (hb_80.2.2.2.1 (216, cnC s73) List.mem_cons_self).2.2 y69 y76 (Nat.ne_of_lt hlt_oi) hap fap hcn
  have hI := Ip6.mk hb_80 (fun k k1 k2 => by
    have q : k = 211 ∨ k = 212 ∨ k = 213 ∨ k = 214 := by omega
    rcases q with rfl | rfl | rfl | rfl <;> exact ⟨_, by repeat' first | exact List.mem_cons_self | apply List.mem_cons_of_mem, by repeat' first | exact List.mem_cons_self | apply List.mem_cons_of_mem⟩) hO hap fap
  exact ⟨rfl, hI.we hwe⟩
theorem wz_pgini : ∀ (L : Nat) (As : List AvC) (σ : CsC) (w : Option AvC) (τ : CsC), EvF L 116 As σ w τ → Uz_pgini As σ w τ := by
  intro L
  cases L with
  | zero => exact fun _ _ _ _ h => h.elim
  | succ L => exact fun As σ w τ h y hy => EvF.us (cs := [184, 233, 186, 111, 112]) (pz_pgini y) rfl (List.forall_mem_cons.2 ⟨wz_i9q L, List.forall_mem_cons.2 ⟨wz_iLq L, List.forall_mem_cons.2 ⟨fun _ _ _ _ _ => trivial, List.forall_mem_cons.2 ⟨wz_Method L, List.forall_mem_cons.2 ⟨wz_apq L, fun _ h => absurd h List.not_mem_nil⟩⟩⟩⟩⟩) h hy
