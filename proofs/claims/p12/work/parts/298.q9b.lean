theorem str_p {c : Int} : 0 < strZ c ↔ (20 ≤ c ∧ c ≤ 38) := by
  unfold strZ
  by_cases h : 20 ≤ c ∧ c ≤ 38
  · refine ⟨fun _ => h, fun _ => ?_⟩
    repeat' split
    all_goals omega
  · refine ⟨fun q => ?_, fun q => absurd q h⟩
    rw [if_neg (by omega), if_neg (by omega), if_neg (by omega), if_neg (by omega), if_neg (by omega), if_neg (by omega), if_neg (by omega), if_neg (by omega), if_neg (by omega), if_neg (by omega)] at q
    omega
theorem WxX.nl {W : WtZ} {X : LoT} (h : WxX W none X) : W = [] ∧ X = [] := by
  cases W with
  | nil => exact ⟨rfl, h.2⟩
  | cons w W =>
    obtain ⟨sg, f, st, a, mq⟩ := w
    obtain ⟨o, nx, Y, e, -⟩ := h
    cases e
theorem WxX.so {W : WtZ} {X : LoT} {b : Nat} (h : WxX W (some b) X) : ∃ sg f st a mq W2 nx X2, W = (sg, f, st, a, mq) :: W2 ∧ X = (b, recZ 7 sg f 0 f (-1) 0 st a (-1) (-1) mq [], nx) :: X2 ∧ WxX W2 nx X2 := by
  cases W with
  | nil => exact absurd h.1 (fun e => by cases e)
  | cons w W =>
    obtain ⟨sg, f, st, a, mq⟩ := w
    obtain ⟨o, nx, Y, e, e2, e3⟩ := h
    cases e
    exact ⟨sg, f, st, a, mq, W, nx, Y, rfl, e2, e3⟩
/-- what stands in a chain's loops -/
def ChR (N : Int → Int) (E A B V : Nat → Nat) (z : ZS) (σ : CsC) (υ : CsC) (Y : Nat → Nat) (v : ZS) (W : WtZ) (r : Int × Int) (X : LoT) (wp : Option Nat) (ro : Nat) : Prop :=
  (ZC N E Y B V υ v ∧ FzC (cnC σ) (xnM z) E A Y B B V V z v σ υ ∧ LsX N Y (cnC σ) υ v X) ∧ (WxX W wp X ∧ (∀ w ∈ W, (xnM z : Int) ≤ w.2.2.1)) ∧ (ro = Y (xnM v - 1) ∧ xnM z < xnM v) ∧ ((fIC υ ro 62).toInt = r.1 ∧ (fIC υ ro 63).toInt = r.2 ∧ fRC υ ro 75 = none) ∧ (csrZ 0 W r = rbM z ∧ (xnM z : Int) ≤ r.2) ∧ cnC σ ≤ cnC υ
/-- one that waits is closed -/
theorem ChR.cl {N : Int → Int} {E A B V : Nat → Nat} {z : ZS} {σ υ τ : CsC} {Y : Nat → Nat} {v : ZS} {sg f st a mq : Int} {W : WtZ} {r : Int × Int} {b ro : Nat} {nx : Option Nat} {X : LoT} (h : ChR N E A B V z σ υ Y v ((sg, f, st, a, mq) :: W) r ((b, recZ 7 sg f 0 f (-1) 0 st a (-1) (-1) mq [], nx) :: X) (some b) ro) (hw : WxX W nx X) (hZ : ZC N E (upA Y (xnM v) b) B V τ (puM (chnZ sg f st a mq (xnM v) v.1) v)) (hp : PoX b υ τ) (hn : fRC τ b 75 = none) : ChR N E A B V z σ τ (upA Y (xnM v) b) (puM (chnZ sg f st a mq (xnM v) v.1) v) W (f, st) X nx b := by
  obtain ⟨⟨h1, h2, h3⟩, ⟨-, h5⟩, ⟨-, h7⟩, -, ⟨h9, -⟩, h10⟩ := h
  obtain ⟨⟨⟨a1, a2, a3, a4⟩, -⟩, b1, b2⟩ := h3.hd
  have q := (hZ.2.2.2.2.1.1 (xnM v) (Nat.lt_succ_self _)).1
  rw [upA_e, xth_n] at q
  refine ⟨⟨hZ, h2.tr (FzC.pu hp a1 h10 (h5 _ List.mem_cons_self) h1.1.2.2.2.2.2.1.2.1), LsX.pu b1 hp b2⟩, ⟨hw, fun w hm => h5 w (List.mem_cons_of_mem _ hm)⟩, ⟨up_l.symm, Nat.lt_succ_of_lt h7⟩, ⟨q.1.1.2.2.1, q.1.1.2.2.2, hn⟩, ⟨?_, h5 _ List.mem_cons_self⟩, Nat.le_trans h10 hp.1⟩
  rw [csrZ, if_pos (str_00 sg)] at h9
  exact h9
set_option maxHeartbeats 4000000 in
theorem pz_readChain (y : (Int → Int) × (Nat → Nat) × (Nat → Nat) × (Nat → Nat) × (Nat → Nat) × ZS × Nat) : PbC KX7_readChain [(170, TrP, EqC 170), (125, TrP, EqC 125), (225, TrP, EqC 225), (168, TrP, EqC 168), (128, TrP, EqC 128), (169, TrP, EqC 169)] [(170, Uz_readOperand), (125, Uz_code), (225, Uz_strength), (168, Uz_waitingFor), (128, Uz_accept), (169, Uz_closed)] (fun As σ => Pz_readChain y As σ ∧ cnC σ ≤ 1000000 ∧ ∃ w τ, uqC quL 167 As σ w τ) (Qz_readChain y) := by
  obtain ⟨N, E, A, B, V, z, n⟩ := y
  rintro As σ ⟨⟨p1, rfl, hZ, hd, hn, hft⟩, hcn, _, _, hQ⟩ K hB hW n_
  have hH : HI0 σ ∧ TyC σ (E 0) 8 := hQ
  have hat := hZ.at0 hH
  have hfo : zFt (opM N n 0 z).1 = 0 := by
    have h9 := hft
    rw [lf_chl lf_op] at h9
    exact (gd_chl gd_op _ _).z h9
  have L98 : ∀ (k : Nat) (υ : CsC) (Y : Nat → Nat) (v : ZS) (W : WtZ) (r : Int × Int) (X : LoT) (wp : Option Nat) (ro : Nat), ChR N E A B V z σ υ Y v W r X wp ro → clM 0 W v = (chlM (opM N n 0) 501 [] (rbM z) (opM N n 0 z)) → K k 98 [(0, .inr (.inr (some (E 0)))), (2, .inr (.inr (some ro))), (3, .inr (.inr wp))] [] υ := by
    intro k
    induction k using Nat.strongRecOn with
    | _ k ih =>
      intro υ Y v W r X wp ro hR hP
      refine hB _ _ _ _ _ (fun m51 hm51 => ?_)
      dsimp only [ucgo, ucwp, ucsC, uqC, uoC, ctC, rfd, KX7_readChain, KX7_readChain_0, KX7_readChain_11, KX7_readChain_19, KX7_readChain_29, KX7_readChain_35, KX7_readChain_39, KX7_readChain_54, KX7_readChain_73, KX7_readChain_98, KX7_readChain_102, KX7_readChain_121, lkC, s1C, s2C, dlC, kyC, Nat.beq, Nat.ble, rcd, rno, rsw, Nat.reduceAdd, Nat.reduceBEq, Nat.reduceDiv, List.drop, List.take, List.reverse, List.reverseAux, Int.toNat, Option.toList, List.append, List.cons_append, List.nil_append, zg61, zg75]
      refine ⟨fun h52 => ?_, fun b52 h52 => ?_⟩
      · subst h52
        obtain ⟨rfl, rfl⟩ := hR.2.1.1.nl
        refine hB _ _ _ _ _ (fun m53 hm53 => ?_)
        dsimp only [ucgo, ucwp, ucsC, uqC, uoC, ctC, rfd, KX7_readChain, KX7_readChain_0, KX7_readChain_11, KX7_readChain_19, KX7_readChain_29, KX7_readChain_35, KX7_readChain_39, KX7_readChain_54, KX7_readChain_73, KX7_readChain_98, KX7_readChain_102, KX7_readChain_121, lkC, s1C, s2C, dlC, kyC, Nat.beq, Nat.ble, rcd, rno, rsw, Nat.reduceAdd, Nat.reduceBEq, Nat.reduceDiv, List.drop, List.take, List.reverse, List.reverseAux, Int.toNat, Option.toList, List.append, List.cons_append, List.nil_append, zg61, zg75]
        try dsimp only [Qz_readChain]
        have ev : v = (chlM (opM N n 0) 501 [] (rbM z) (opM N n 0 z)) := hP
        have hr9 : r = rbM z := hR.2.2.2.2.1.1
        subst hr9
        rw [← ev]
        obtain ⟨e1, e2⟩ := hR.2.2.1
        subst e1
        exact ⟨Y, rfl, hR.1.1, hR.1.2.1, hR.2.2.2.1, e2⟩
      · subst h52
        obtain ⟨sg, f, st, a, mq, W2, nx, X2, rfl, rfl, hW2⟩ := hR.2.1.1.so
        have hh := LsX.hd hR.1.2.2
        refine hB _ _ _ _ _ (fun m54 hm54 => ?_)
        dsimp only [ucgo, ucwp, ucsC, uqC, uoC, ctC, rfd, KX7_readChain, KX7_readChain_0, KX7_readChain_11, KX7_readChain_19, KX7_readChain_29, KX7_readChain_35, KX7_readChain_39, KX7_readChain_54, KX7_readChain_73, KX7_readChain_98, KX7_readChain_102, KX7_readChain_121, lkC, s1C, s2C, dlC, kyC, Nat.beq, Nat.ble, rcd, rno, rsw, Nat.reduceAdd, Nat.reduceBEq, Nat.reduceDiv, List.drop, List.take, List.reverse, List.reverseAux, Int.toNat, Option.toList, List.append, List.cons_append, List.nil_append, zg61, zg75]
        intro a55 e55 ob55
        cases e55
        have f56 : (fRC υ b52 75) = nx := hh.1.2.2.2
        rw [f56]
        intro w57 τ57 o57 q57
        obtain ⟨rfl, hZ57, hpo57, hnx57⟩ := q57 (N, E, Y, B, V, v, sg, f, st, a, mq) ⟨_, _, rfl, hR.1.1, ⟨⟨hh.1.1.2.1, hh.1.1.2.2⟩, hh.1.2.1, hh.1.2.2.1⟩, ⟨by have := hR.2.2.1.2; omega, hR.2.2.1.1⟩⟩
        have hR57 := hR.cl hW2 hZ57 hpo57 hnx57
        try dsimp only [Option.toList, List.cons_append, List.nil_append, s1C, s2C, dlC, kyC, Nat.beq, lkC, rcd, rno, rsw]
        exact hW _ 98 [(0, .inr (.inr (some (E 0)))), (2, .inr (.inr (some b52))), (3, .inr (.inr nx))] _ _ _ (List.forall_mem_cons.2 ⟨List.Mem.tail _ (List.Mem.tail _ (List.Mem.tail _ (List.Mem.head _))), List.forall_mem_cons.2 ⟨List.Mem.tail _ (List.Mem.head _), List.forall_mem_cons.2 ⟨List.Mem.head _, fun _ h => absurd h List.not_mem_nil⟩⟩⟩) (ih _ (by omega) _ _ _ _ _ _ _ _ hR57 (by rw [clM, if_pos (str_00 sg)] at hP; exact hP))
  have L11 : ∀ (k : Nat) (υ : CsC) (Y : Nat → Nat) (v : ZS) (W : WtZ) (r : Int × Int) (X : LoT) (wp : Option Nat) (ro : Nat) (i : Int32), ChR N E A B V z σ υ Y v W r X wp ro → 0 ≤ i.toInt → i.toInt ≤ 501 → chlM (opM N n 0) (501 - i.toInt).toNat W r v = (chlM (opM N n 0) 501 [] (rbM z) (opM N n 0 z)) → K k 11 [(0, .inr (.inr (some (E 0)))), (1, .inl p1), (2, .inr (.inr (some ro))), (3, .inr (.inr wp)), (4, .inl i)] [] υ := by
    intro k
    induction k using Nat.strongRecOn with
    | _ k ih =>
      intro υ Y v W r X wp ro i hR hi0 hi1 hP
      have L35 : ∀ (k2 : Nat), k2 < k → i.toInt ≤ 500 → ∀ (vc : ZS) (Wc : WtZ) (rc : Int × Int) (f9 : Nat) (cc : Int32) (υ : CsC) (Y : Nat → Nat) (v : ZS) (W : WtZ) (r : Int × Int) (X : LoT) (wp : Option Nat) (ro : Nat), ChR N E A B V z σ υ Y v W r X wp ro → cc.toInt = codY v.1 → (20 ≤ codY v.1 ∧ codY v.1 ≤ 38) → clM (strZ cc.toInt) W v = vc → cswZ (strZ cc.toInt) W = Wc → csrZ (strZ cc.toInt) W r = rc → (500 - i.toInt).toNat = f9 → chlM (opM N n 0) f9 (wnZ rc vc :: Wc) (zAt vc.1 + 1, (xnM (fkM vc) : Int)) (opM N n 0 (accM (fkM vc))) = (chlM (opM N n 0) 501 [] (rbM z) (opM N n 0 z)) → K k2 35 [(0, .inr (.inr (some (E 0)))), (1, .inl p1), (2, .inr (.inr (some ro))), (3, .inr (.inr wp)), (4, .inl i), (5, .inl cc)] [] υ := by
        intro k2
        induction k2 using Nat.strongRecOn with
        | _ k2 ih2 =>
          intro hk2 hi5 vc Wc rc f9 cc υ Y v W r X wp ro hR hcv hop hP1 hP2 hP3 hf9 hnx
          refine hB _ _ _ _ _ (fun m51 hm51 => ?_)
          dsimp only [ucgo, ucwp, ucsC, uqC, uoC, ctC, rfd, KX7_readChain, KX7_readChain_0, KX7_readChain_11, KX7_readChain_19, KX7_readChain_29, KX7_readChain_35, KX7_readChain_39, KX7_readChain_54, KX7_readChain_73, KX7_readChain_98, KX7_readChain_102, KX7_readChain_121, lkC, s1C, s2C, dlC, kyC, Nat.beq, Nat.ble, rcd, rno, rsw, Nat.reduceAdd, Nat.reduceBEq, Nat.reduceDiv, List.drop, List.take, List.reverse, List.reverseAux, Int.toNat, Option.toList, List.append, List.cons_append, List.nil_append, zg61, zg75]
          refine ⟨fun h52 => ?_, fun b52 h52 => ?_⟩
          · subst h52
            obtain ⟨rfl, rfl⟩ := hR.2.1.1.nl
            have q1 : v = vc := hP1
            have q2 : [] = Wc := hP2
            have q3 : r = rc := hP3
            subst q1 q2 q3
            have hno : zFt (opM N n 0 (accM (fkM v))).1 = 0 := by
              have h9 := hft
              rw [← hnx, lf_chl lf_op] at h9
              exact (gd_chl gd_op _ _).z h9
            have hna : zFt (accM (fkM v)).1 = 0 := by
              have h9 := hno
              rw [lf_op] at h9
              exact (gd_op _).z h9
            refine hB _ _ _ _ _ (fun m53 hm53 => ?_)
            dsimp only [ucgo, ucwp, ucsC, uqC, uoC, ctC, rfd, KX7_readChain, KX7_readChain_0, KX7_readChain_11, KX7_readChain_19, KX7_readChain_29, KX7_readChain_35, KX7_readChain_39, KX7_readChain_54, KX7_readChain_73, KX7_readChain_98, KX7_readChain_102, KX7_readChain_121, lkC, s1C, s2C, dlC, kyC, Nat.beq, Nat.ble, rcd, rno, rsw, Nat.reduceAdd, Nat.reduceBEq, Nat.reduceDiv, List.drop, List.take, List.reverse, List.reverseAux, Int.toNat, Option.toList, List.append, List.cons_append, List.nil_append, zg61, zg75]
            intro w54 τ54 o54 q54
            have hlt := hR.2.2.1.2
            obtain ⟨rfl, A54, hZ54, hf54, hLs54⟩ := q54 (N, E, Y, B, V, v, xnM v - 1, r.1, r.2) ⟨_, _, _, rfl, hR.1.1, by omega, ⟨by omega, hR.2.2.1.1⟩, ⟨hR.2.2.2.1.1, hR.2.2.2.1.2.1⟩, by omega⟩
            have hF54 := FzC.tr hR.1.2.1 (FzC.mo hf54 hR.2.2.2.2.2 hR.1.2.1.2.2.1.1.1)
            have hL54 : LsX N A54 (cnC σ) τ54 (fkM v) ((cnC υ, recZ 7 (codY v.1) r.1 0 r.1 (-1) 0 r.2 ((xnM v : Int) - 1) (-1) (-1) (mkZ (xnM v) v.1) [], none) :: []) := by
              have h1 := hLs54.hd.1
              rw [show (((xnM v - 1 : Nat) : Int)) = (xnM v : Int) - 1 by omega] at h1
              exact (LsX.fz hR.1.2.2 hf54).cn ⟨⟨hR.2.2.2.2.2, h1.1.2⟩, h1.2⟩ (fun q hq => Nat.ne_of_lt (hR.1.2.2.1 q hq).1.2.1)
            have hle54 : cnC σ ≤ cnC τ54 := Nat.le_trans hR.2.2.2.2.2 hf54.1
            try dsimp only [Option.toList, List.cons_append, List.nil_append, s1C, s2C, dlC, kyC, Nat.beq, lkC, rcd, rno, rsw]
            intro w55 τ55 o55 q55
            obtain ⟨rfl, hZ55, hf55⟩ := q55 (N, E, A54, B, V, (fkM v)) ⟨rfl, hZ54, hna⟩
            have hF55 := FzC.tr hF54 (FzC.mo hf55 hle54 (hF54).2.2.1.1.1)
            have hL55 := LsX.fz hL54 hf55
            have hle55 : cnC σ ≤ cnC τ55 := Nat.le_trans hle54 (hf55).1
            try dsimp only [Option.toList, List.cons_append, List.nil_append, s1C, s2C, dlC, kyC, Nat.beq, lkC, rcd, rno, rsw]
            intro w56 τ56 o56 q56
            obtain ⟨A56, rfl, hZ56, hf56, ht56, hx56⟩ : ExQ N E A54 B V (accM (fkM v)) (opM N n 0 (accM (fkM v))) τ55 w56 τ56 := q56 (N, E, A54, B, V, (accM (fkM v)), n) ⟨_, rfl, hZ55, by omega, by omega, hno⟩
            have hF56 := FzC.tr hF55 (FzC.mo hf56 hle55 (hF55).2.2.1.1.1)
            have hL56 := LsX.fz hL55 hf56
            have hle56 : cnC σ ≤ cnC τ56 := Nat.le_trans hle55 (hf56).1
            try dsimp only [Option.toList, List.cons_append, List.nil_append, s1C, s2C, dlC, kyC, Nat.beq, lkC, rcd, rno, rsw]
            have c57 : (Int32.ofInt 1).toInt = 1 := by decide
            have u58 := tiC i
            have a58 : (i + (Int32.ofInt 1)).toInt = i.toInt + 1 := addC (by omega) (by omega) (by omega)
            have ez : xnM (accM (fkM v)) = xnM (fkM v) := rfl
            have hxf : xnM v ≤ xnM (fkM v) := hf54.2.2.1.1.1
            have hzv : zAt (accM (fkM v)).1 = zAt v.1 + 1 := by
              have h9 := (acc_n hna).2.2
              show zAt (accY (fkM v).1) = _
              rw [h9, lf_fk]
              rfl
            exact hW _ 11 [(0, .inr (.inr (some (E 0)))), (1, .inl p1), (2, .inr (.inr (some (A56 (xnM (opM N n 0 (accM (fkM v))) - 1))))), (3, .inr (.inr (some (cnC υ)))), (4, .inl (i + (Int32.ofInt 1)))] _ _ _ (List.forall_mem_cons.2 ⟨List.Mem.tail _ (List.Mem.tail _ (List.Mem.tail _ (List.Mem.head _))), List.forall_mem_cons.2 ⟨List.Mem.tail _ (List.Mem.tail _ (List.Mem.tail _ (List.Mem.tail _ (List.Mem.head _)))), List.forall_mem_cons.2 ⟨List.Mem.tail _ (List.Mem.head _), List.forall_mem_cons.2 ⟨List.Mem.tail _ (List.Mem.tail _ (List.Mem.head _)), List.forall_mem_cons.2 ⟨List.Mem.head _, fun _ h => absurd h List.not_mem_nil⟩⟩⟩⟩⟩) (ih _ (by omega) _ _ _ (wnZ r v :: []) (zAt v.1 + 1, (xnM (fkM v) : Int)) _ _ _ (i + (Int32.ofInt 1)) ⟨⟨hZ56, hF56, hL56⟩, ⟨⟨_, _, _, rfl, rfl, hR.2.1.1⟩, fun q hq => (List.mem_cons.mp hq).elim (fun e => by rw [e]; exact hR.2.2.2.2.1.2) (fun m => hR.2.1.2 q m)⟩, ⟨rfl, by omega⟩, ⟨by rw [ht56.1]; exact hzv, ht56.2.1, ht56.2.2⟩, ⟨by rw [wnZ, csrZ, if_pos (str_00 _)]; exact hR.2.2.2.2.1.1, by show (xnM z : Int) ≤ (xnM (fkM v) : Int); omega⟩, hle56⟩ (by omega) (by omega) (by rw [show (501 - (i + (Int32.ofInt 1)).toInt).toNat = f9 by omega]; exact hnx))
          · subst h52
            obtain ⟨sg, f, st, a, mq, W2, nx, X2, rfl, rfl, hW2⟩ := hR.2.1.1.so
            have hh := LsX.hd hR.1.2.2
            refine hB _ _ _ _ _ (fun m59 hm59 => ?_)
            dsimp only [ucgo, ucwp, ucsC, uqC, uoC, ctC, rfd, KX7_readChain, KX7_readChain_0, KX7_readChain_11, KX7_readChain_19, KX7_readChain_29, KX7_readChain_35, KX7_readChain_39, KX7_readChain_54, KX7_readChain_73, KX7_readChain_98, KX7_readChain_102, KX7_readChain_121, lkC, s1C, s2C, dlC, kyC, Nat.beq, Nat.ble, rcd, rno, rsw, Nat.reduceAdd, Nat.reduceBEq, Nat.reduceDiv, List.drop, List.take, List.reverse, List.reverseAux, Int.toNat, Option.toList, List.append, List.cons_append, List.nil_append, zg61, zg75]
            intro a60 e60 ob60
            cases e60
            have f61 : (fIC υ b52 61).toInt = sg := hh.1.2.1.1.2.1
            intro w62 τ62 o62 q62
            obtain ⟨r62, rfl, hr62, rfl⟩ := q62 (N, E, A, B, V, z) ⟨_, rfl⟩
            have hr62 : r62.toInt = strZ sg := hr62.trans (congrArg strZ (by omega))
            try dsimp only [Option.toList, List.cons_append, List.nil_append, s1C, s2C, dlC, kyC, Nat.beq, lkC, rcd, rno, rsw]
            intro w63 τ63 o63 q63
            obtain ⟨r63, rfl, hr63, rfl⟩ := q63 (N, E, A, B, V, z) ⟨_, rfl⟩
            have hr63 : r63.toInt = strZ cc.toInt := hr63.trans (congrArg strZ (by omega))
            try dsimp only [Option.toList, List.cons_append, List.nil_append, s1C, s2C, dlC, kyC, Nat.beq, lkC, rcd, rno, rsw]
            refine ⟨fun h64 => ?_, fun h64 => ?_⟩
            · have g64 := ltI (x := r62) (y := r63) h64
              have q1 : v = vc := by rw [clM, if_neg (by omega)] at hP1; exact hP1
              have q2 : (sg, f, st, a, mq) :: W2 = Wc := by rw [cswZ, if_neg (by omega)] at hP2; exact hP2
              have q3 : r = rc := by rw [csrZ, if_neg (by omega)] at hP3; exact hP3
              subst q1 q2 q3
              have hno : zFt (opM N n 0 (accM (fkM v))).1 = 0 := by
                have h9 := hft
                rw [← hnx, lf_chl lf_op] at h9
                exact (gd_chl gd_op _ _).z h9
              have hna : zFt (accM (fkM v)).1 = 0 := by
                have h9 := hno
                rw [lf_op] at h9
                exact (gd_op _).z h9
              refine hB _ _ _ _ _ (fun m65 hm65 => ?_)
              dsimp only [ucgo, ucwp, ucsC, uqC, uoC, ctC, rfd, KX7_readChain, KX7_readChain_0, KX7_readChain_11, KX7_readChain_19, KX7_readChain_29, KX7_readChain_35, KX7_readChain_39, KX7_readChain_54, KX7_readChain_73, KX7_readChain_98, KX7_readChain_102, KX7_readChain_121, lkC, s1C, s2C, dlC, kyC, Nat.beq, Nat.ble, rcd, rno, rsw, Nat.reduceAdd, Nat.reduceBEq, Nat.reduceDiv, List.drop, List.take, List.reverse, List.reverseAux, Int.toNat, Option.toList, List.append, List.cons_append, List.nil_append, zg61, zg75]
              intro w66 τ66 o66 q66
              have hlt := hR.2.2.1.2
              obtain ⟨rfl, A66, hZ66, hf66, hLs66⟩ := q66 (N, E, Y, B, V, v, xnM v - 1, r.1, r.2) ⟨_, _, _, rfl, hR.1.1, by omega, ⟨by omega, hR.2.2.1.1⟩, ⟨hR.2.2.2.1.1, hR.2.2.2.1.2.1⟩, by omega⟩
              have hF66 := FzC.tr hR.1.2.1 (FzC.mo hf66 hR.2.2.2.2.2 hR.1.2.1.2.2.1.1.1)
              have hL66 : LsX N A66 (cnC σ) τ66 (fkM v) ((cnC υ, recZ 7 (codY v.1) r.1 0 r.1 (-1) 0 r.2 ((xnM v : Int) - 1) (-1) (-1) (mkZ (xnM v) v.1) [], (some b52)) :: ((b52, recZ 7 sg f 0 f (-1) 0 st a (-1) (-1) mq [], nx) :: X2)) := by
                have h1 := hLs66.hd.1
                rw [show (((xnM v - 1 : Nat) : Int)) = (xnM v : Int) - 1 by omega] at h1
                exact (LsX.fz hR.1.2.2 hf66).cn ⟨⟨hR.2.2.2.2.2, h1.1.2⟩, h1.2⟩ (fun q hq => Nat.ne_of_lt (hR.1.2.2.1 q hq).1.2.1)
              have hle66 : cnC σ ≤ cnC τ66 := Nat.le_trans hR.2.2.2.2.2 hf66.1
              try dsimp only [Option.toList, List.cons_append, List.nil_append, s1C, s2C, dlC, kyC, Nat.beq, lkC, rcd, rno, rsw]
              intro w67 τ67 o67 q67
              obtain ⟨rfl, hZ67, hf67⟩ := q67 (N, E, A66, B, V, (fkM v)) ⟨rfl, hZ66, hna⟩
              have hF67 := FzC.tr hF66 (FzC.mo hf67 hle66 (hF66).2.2.1.1.1)
              have hL67 := LsX.fz hL66 hf67
              have hle67 : cnC σ ≤ cnC τ67 := Nat.le_trans hle66 (hf67).1
              try dsimp only [Option.toList, List.cons_append, List.nil_append, s1C, s2C, dlC, kyC, Nat.beq, lkC, rcd, rno, rsw]
              intro w68 τ68 o68 q68
              obtain ⟨A68, rfl, hZ68, hf68, ht68, hx68⟩ : ExQ N E A66 B V (accM (fkM v)) (opM N n 0 (accM (fkM v))) τ67 w68 τ68 := q68 (N, E, A66, B, V, (accM (fkM v)), n) ⟨_, rfl, hZ67, by omega, by omega, hno⟩
              have hF68 := FzC.tr hF67 (FzC.mo hf68 hle67 (hF67).2.2.1.1.1)
              have hL68 := LsX.fz hL67 hf68
              have hle68 : cnC σ ≤ cnC τ68 := Nat.le_trans hle67 (hf68).1
              try dsimp only [Option.toList, List.cons_append, List.nil_append, s1C, s2C, dlC, kyC, Nat.beq, lkC, rcd, rno, rsw]
              have c69 : (Int32.ofInt 1).toInt = 1 := by decide
              have u70 := tiC i
              have a70 : (i + (Int32.ofInt 1)).toInt = i.toInt + 1 := addC (by omega) (by omega) (by omega)
              have ez : xnM (accM (fkM v)) = xnM (fkM v) := rfl
              have hxf : xnM v ≤ xnM (fkM v) := hf66.2.2.1.1.1
              have hzv : zAt (accM (fkM v)).1 = zAt v.1 + 1 := by
                have h9 := (acc_n hna).2.2
                show zAt (accY (fkM v).1) = _
                rw [h9, lf_fk]
                rfl
              exact hW _ 11 [(0, .inr (.inr (some (E 0)))), (1, .inl p1), (2, .inr (.inr (some (A68 (xnM (opM N n 0 (accM (fkM v))) - 1))))), (3, .inr (.inr (some (cnC υ)))), (4, .inl (i + (Int32.ofInt 1)))] _ _ _ (List.forall_mem_cons.2 ⟨List.Mem.tail _ (List.Mem.tail _ (List.Mem.tail _ (List.Mem.head _))), List.forall_mem_cons.2 ⟨List.Mem.tail _ (List.Mem.tail _ (List.Mem.tail _ (List.Mem.tail _ (List.Mem.head _)))), List.forall_mem_cons.2 ⟨List.Mem.tail _ (List.Mem.head _), List.forall_mem_cons.2 ⟨List.Mem.tail _ (List.Mem.tail _ (List.Mem.head _)), List.forall_mem_cons.2 ⟨List.Mem.head _, fun _ h => absurd h List.not_mem_nil⟩⟩⟩⟩⟩) (ih _ (by omega) _ _ _ (wnZ r v :: ((sg, f, st, a, mq) :: W2)) (zAt v.1 + 1, (xnM (fkM v) : Int)) _ _ _ (i + (Int32.ofInt 1)) ⟨⟨hZ68, hF68, hL68⟩, ⟨⟨_, _, _, rfl, rfl, hR.2.1.1⟩, fun q hq => (List.mem_cons.mp hq).elim (fun e => by rw [e]; exact hR.2.2.2.2.1.2) (fun m => hR.2.1.2 q m)⟩, ⟨rfl, by omega⟩, ⟨by rw [ht68.1]; exact hzv, ht68.2.1, ht68.2.2⟩, ⟨by rw [wnZ, csrZ, if_pos (str_00 _)]; exact hR.2.2.2.2.1.1, by show (xnM z : Int) ≤ (xnM (fkM v) : Int); omega⟩, hle68⟩ (by omega) (by omega) (by rw [show (501 - (i + (Int32.ofInt 1)).toInt).toNat = f9 by omega]; exact hnx))
            · have g64 := nltI (x := r62) (y := r63) h64
              refine hB _ _ _ _ _ (fun m71 hm71 => ?_)
              dsimp only [ucgo, ucwp, ucsC, uqC, uoC, ctC, rfd, KX7_readChain, KX7_readChain_0, KX7_readChain_11, KX7_readChain_19, KX7_readChain_29, KX7_readChain_35, KX7_readChain_39, KX7_readChain_54, KX7_readChain_73, KX7_readChain_98, KX7_readChain_102, KX7_readChain_121, lkC, s1C, s2C, dlC, kyC, Nat.beq, Nat.ble, rcd, rno, rsw, Nat.reduceAdd, Nat.reduceBEq, Nat.reduceDiv, List.drop, List.take, List.reverse, List.reverseAux, Int.toNat, Option.toList, List.append, List.cons_append, List.nil_append, zg61, zg75]
              intro a72 e72 ob72
              cases e72
              have f73 : (fRC υ b52 75) = nx := hh.1.2.2.2
              rw [f73]
              intro w74 τ74 o74 q74
              obtain ⟨rfl, hZ74, hpo74, hnx74⟩ := q74 (N, E, Y, B, V, v, sg, f, st, a, mq) ⟨_, _, rfl, hR.1.1, ⟨⟨hh.1.1.2.1, hh.1.1.2.2⟩, hh.1.2.1, hh.1.2.2.1⟩, ⟨by have := hR.2.2.1.2; omega, hR.2.2.1.1⟩⟩
              have hR74 := hR.cl hW2 hZ74 hpo74 hnx74
              try dsimp only [Option.toList, List.cons_append, List.nil_append, s1C, s2C, dlC, kyC, Nat.beq, lkC, rcd, rno, rsw]
              exact hW _ 35 [(0, .inr (.inr (some (E 0)))), (1, .inl p1), (2, .inr (.inr (some b52))), (3, .inr (.inr nx)), (4, .inl i), (5, .inl cc)] _ _ _ (List.forall_mem_cons.2 ⟨List.Mem.tail _ (List.Mem.tail _ (List.Mem.tail _ (List.Mem.head _))), List.forall_mem_cons.2 ⟨List.Mem.tail _ (List.Mem.tail _ (List.Mem.tail _ (List.Mem.tail _ (List.Mem.head _)))), List.forall_mem_cons.2 ⟨List.Mem.tail _ (List.Mem.head _), List.forall_mem_cons.2 ⟨List.Mem.head _, List.forall_mem_cons.2 ⟨List.Mem.tail _ (List.Mem.tail _ (List.Mem.tail _ (List.Mem.tail _ (List.Mem.tail _ (List.Mem.head _))))), List.forall_mem_cons.2 ⟨List.Mem.tail _ (List.Mem.tail _ (List.Mem.tail _ (List.Mem.tail _ (List.Mem.tail _ (List.Mem.tail _ (List.Mem.head _)))))), fun _ h => absurd h List.not_mem_nil⟩⟩⟩⟩⟩⟩) (ih2 _ (by omega) (by omega) hi5 _ _ _ _ _ _ _ _ _ _ _ _ _ hR74 hcv hop (by rw [clM, if_pos (by omega)] at hP1; exact hP1) (by rw [cswZ, if_pos (by omega)] at hP2; exact hP2) (by rw [csrZ, if_pos (by omega)] at hP3; exact hP3) hf9 hnx)
      refine hB _ _ _ _ _ (fun m51 hm51 => ?_)
      dsimp only [ucgo, ucwp, ucsC, uqC, uoC, ctC, rfd, KX7_readChain, KX7_readChain_0, KX7_readChain_11, KX7_readChain_19, KX7_readChain_29, KX7_readChain_35, KX7_readChain_39, KX7_readChain_54, KX7_readChain_73, KX7_readChain_98, KX7_readChain_102, KX7_readChain_121, lkC, s1C, s2C, dlC, kyC, Nat.beq, Nat.ble, rcd, rno, rsw, Nat.reduceAdd, Nat.reduceBEq, Nat.reduceDiv, List.drop, List.take, List.reverse, List.reverseAux, Int.toNat, Option.toList, List.append, List.cons_append, List.nil_append, zg61, zg75]
      have c52 : (Int32.ofInt 500).toInt = 500 := by decide
      refine ⟨fun h53 => ?_, fun h53 => ?_⟩
      · have g53 := ltI (x := (Int32.ofInt 500)) (y := i) h53
        exact hW _ 98 [(0, .inr (.inr (some (E 0)))), (2, .inr (.inr (some ro))), (3, .inr (.inr wp))] _ _ _ (List.forall_mem_cons.2 ⟨List.Mem.head _, List.forall_mem_cons.2 ⟨List.Mem.tail _ (List.Mem.tail _ (List.Mem.head _)), List.forall_mem_cons.2 ⟨List.Mem.tail _ (List.Mem.tail _ (List.Mem.tail _ (List.Mem.head _))), fun _ h => absurd h List.not_mem_nil⟩⟩⟩) (L98 _ _ _ _ _ _ _ _ _ hR (by first | (rw [show (501 - i.toInt).toNat = 0 by omega] at hP; exact hP) | (rw [show (501 - i.toInt).toNat = (500 - i.toInt).toNat + 1 by omega, chlM, if_neg (fun q => absurd (str_p.mpr q) (by omega))] at hP; exact hP)))
      · have g53 := nltI (x := (Int32.ofInt 500)) (y := i) h53
        refine hB _ _ _ _ _ (fun m54 hm54 => ?_)
        dsimp only [ucgo, ucwp, ucsC, uqC, uoC, ctC, rfd, KX7_readChain, KX7_readChain_0, KX7_readChain_11, KX7_readChain_19, KX7_readChain_29, KX7_readChain_35, KX7_readChain_39, KX7_readChain_54, KX7_readChain_73, KX7_readChain_98, KX7_readChain_102, KX7_readChain_121, lkC, s1C, s2C, dlC, kyC, Nat.beq, Nat.ble, rcd, rno, rsw, Nat.reduceAdd, Nat.reduceBEq, Nat.reduceDiv, List.drop, List.take, List.reverse, List.reverseAux, Int.toNat, Option.toList, List.append, List.cons_append, List.nil_append, zg61, zg75]
        intro w55 τ55 o55 q55
        obtain ⟨c55, rfl, hc55, rfl⟩ := q55 (N, E, Y, B, V, v) ⟨rfl, hR.1.1⟩
        try dsimp only [Option.toList, List.cons_append, List.nil_append, s1C, s2C, dlC, kyC, Nat.beq, lkC, rcd, rno, rsw]
        intro w56 τ56 o56 q56
        obtain ⟨r56, rfl, hr56, rfl⟩ := q56 (N, E, A, B, V, z) ⟨_, rfl⟩
        have hr56 : r56.toInt = strZ (codY v.1) := hr56.trans (congrArg strZ (by omega))
        try dsimp only [Option.toList, List.cons_append, List.nil_append, s1C, s2C, dlC, kyC, Nat.beq, lkC, rcd, rno, rsw]
        refine ⟨fun h57 => ?_, fun h57 => ?_⟩
        · have g57 := leI (x := r56) (y := 0) h57
          have z0_ : (0 : Int32).toInt = 0 := rfl
          exact hW _ 98 [(0, .inr (.inr (some (E 0)))), (2, .inr (.inr (some ro))), (3, .inr (.inr wp))] _ _ _ (List.forall_mem_cons.2 ⟨List.Mem.head _, List.forall_mem_cons.2 ⟨List.Mem.tail _ (List.Mem.tail _ (List.Mem.head _)), List.forall_mem_cons.2 ⟨List.Mem.tail _ (List.Mem.tail _ (List.Mem.tail _ (List.Mem.head _))), fun _ h => absurd h List.not_mem_nil⟩⟩⟩) (L98 _ _ _ _ _ _ _ _ _ hR (by first | (rw [show (501 - i.toInt).toNat = 0 by omega] at hP; exact hP) | (rw [show (501 - i.toInt).toNat = (500 - i.toInt).toNat + 1 by omega, chlM, if_neg (fun q => absurd (str_p.mpr q) (by omega))] at hP; exact hP)))
        · have g57 := nleI (x := r56) (y := 0) h57
          have z0_ : (0 : Int32).toInt = 0 := rfl
          refine hB _ _ _ _ _ (fun m58 hm58 => ?_)
          dsimp only [ucgo, ucwp, ucsC, uqC, uoC, ctC, rfd, KX7_readChain, KX7_readChain_0, KX7_readChain_11, KX7_readChain_19, KX7_readChain_29, KX7_readChain_35, KX7_readChain_39, KX7_readChain_54, KX7_readChain_73, KX7_readChain_98, KX7_readChain_102, KX7_readChain_121, lkC, s1C, s2C, dlC, kyC, Nat.beq, Nat.ble, rcd, rno, rsw, Nat.reduceAdd, Nat.reduceBEq, Nat.reduceDiv, List.drop, List.take, List.reverse, List.reverseAux, Int.toNat, Option.toList, List.append, List.cons_append, List.nil_append, zg61, zg75]
          intro w59 τ59 o59 q59
          obtain ⟨c59, rfl, hc59, rfl⟩ := q59 (N, E, Y, B, V, v) ⟨rfl, hR.1.1⟩
          try dsimp only [Option.toList, List.cons_append, List.nil_append, s1C, s2C, dlC, kyC, Nat.beq, lkC, rcd, rno, rsw]
          have hop : 20 ≤ codY v.1 ∧ codY v.1 ≤ 38 := str_p.mp (by omega)
          rw [show (501 - i.toInt).toNat = (500 - i.toInt).toNat + 1 by omega, chlM, if_pos hop] at hP
          have ecc : c59.toInt = codY v.1 := by omega
          exact hW _ 35 [(0, .inr (.inr (some (E 0)))), (1, .inl p1), (2, .inr (.inr (some ro))), (3, .inr (.inr wp)), (4, .inl i), (5, .inl c59)] _ _ _ (List.forall_mem_cons.2 ⟨List.Mem.tail _ (List.Mem.head _), List.forall_mem_cons.2 ⟨List.Mem.tail _ (List.Mem.tail _ (List.Mem.head _)), List.forall_mem_cons.2 ⟨List.Mem.tail _ (List.Mem.tail _ (List.Mem.tail _ (List.Mem.head _))), List.forall_mem_cons.2 ⟨List.Mem.tail _ (List.Mem.tail _ (List.Mem.tail _ (List.Mem.tail _ (List.Mem.head _)))), List.forall_mem_cons.2 ⟨List.Mem.tail _ (List.Mem.tail _ (List.Mem.tail _ (List.Mem.tail _ (List.Mem.tail _ (List.Mem.head _))))), List.forall_mem_cons.2 ⟨List.Mem.head _, fun _ h => absurd h List.not_mem_nil⟩⟩⟩⟩⟩⟩) (L35 _ (by omega) (by omega) (clM (strZ (codY v.1)) W v) (cswZ (strZ (codY v.1)) W) (csrZ (strZ (codY v.1)) W r) _ c59 _ _ _ _ _ _ _ _ hR ecc hop (by rw [ecc]) (by rw [ecc]) (by rw [ecc]) rfl (by rw [lf_cl]; exact hP))
  change K n_ 0 [(0, .inr (.inr (some (E 0)))), (1, .inl p1)] [] σ
  refine hB _ _ _ _ _ (fun m51 hm51 => ?_)
  dsimp only [ucgo, ucwp, ucsC, uqC, uoC, ctC, rfd, KX7_readChain, KX7_readChain_0, KX7_readChain_11, KX7_readChain_19, KX7_readChain_29, KX7_readChain_35, KX7_readChain_39, KX7_readChain_54, KX7_readChain_73, KX7_readChain_98, KX7_readChain_102, KX7_readChain_121, lkC, s1C, s2C, dlC, kyC, Nat.beq, Nat.ble, rcd, rno, rsw, Nat.reduceAdd, Nat.reduceBEq, Nat.reduceDiv, List.drop, List.take, List.reverse, List.reverseAux, Int.toNat, Option.toList, List.append, List.cons_append, List.nil_append, zg61, zg75]
  intro w52 τ52 o52 q52
  obtain ⟨A52, rfl, hZ52, hf52, ht52, hx52⟩ : ExQ N E A B V z (opM N n 0 z) σ w52 τ52 := q52 (N, E, A, B, V, z, n) ⟨_, rfl, hZ, by omega, by omega, hfo⟩
  have hF52 := FzC.tr (FzC.rf (n := cnC σ) (m := xnM z) (E := E) (A := A) (B := B) (V := V) (z := z) (σ := σ)) (FzC.mo hf52 (Nat.le_refl (cnC σ)) ((FzC.rf (n := cnC σ) (m := xnM z) (E := E) (A := A) (B := B) (V := V) (z := z) (σ := σ))).2.2.1.1.1)
  have hL52 := LsX.fz (LsX.nil (N := N) (A := A) (n0 := cnC σ) (σ := σ) (z := z)) hf52
  have hle52 : cnC σ ≤ cnC τ52 := Nat.le_trans (Nat.le_refl (cnC σ)) (hf52).1
  try dsimp only [Option.toList, List.cons_append, List.nil_append, s1C, s2C, dlC, kyC, Nat.beq, lkC, rcd, rno, rsw]
  have c53 : (Int32.ofInt 0).toInt = 0 := by decide
  exact hW _ 11 [(0, .inr (.inr (some (E 0)))), (1, .inl p1), (2, .inr (.inr (some (A52 (xnM (opM N n 0 z) - 1))))), (3, .inr (.inr none)), (4, .inl (Int32.ofInt 0))] _ _ _ (List.forall_mem_cons.2 ⟨List.Mem.tail _ (List.Mem.tail _ (List.Mem.tail _ (List.Mem.head _))), List.forall_mem_cons.2 ⟨List.Mem.tail _ (List.Mem.tail _ (List.Mem.tail _ (List.Mem.tail _ (List.Mem.head _)))), List.forall_mem_cons.2 ⟨List.Mem.tail _ (List.Mem.tail _ (List.Mem.head _)), List.forall_mem_cons.2 ⟨List.Mem.tail _ (List.Mem.head _), List.forall_mem_cons.2 ⟨List.Mem.head _, fun _ h => absurd h List.not_mem_nil⟩⟩⟩⟩⟩) (L11 _ _ _ _ [] (rbM z) [] _ _ _ ⟨⟨hZ52, hF52, LsX.nil⟩, ⟨⟨rfl, rfl⟩, fun q h => absurd h List.not_mem_nil⟩, ⟨rfl, hx52⟩, ht52, ⟨rfl, Int.le_refl _⟩, hle52⟩ (by omega) (by omega) (by rw [show (501 - ((Int32.ofInt 0) : Int32).toInt).toNat = 501 by omega]))
