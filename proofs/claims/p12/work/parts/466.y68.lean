/-! tokens of NAMES in exps, and what they mean as variables -/
abbrev NmI (x : XrZ) : Prop := x.1.1 = 2 ∨ x.1.1 = 6 ∨ x.1.1 = 9 ∨ x.1.1 = 10
theorem zk_n {s t : SpC} (h : NpY s t) : zK t = zK s := by
  unfold zK
  rw [h.1]
def EpW (N : Int → Int) (K : List (Int × Int)) (Kd : Nat → Int) (lo hi : Int) (t : List XrZ) : Prop := (∀ x ∈ t, (NmI x ∨ x.1.1 = 14) → lo ≤ x.2.1.1 ∧ x.2.1.1 < hi ∧ Kd x.2.1.1.toNat = 80) ∧ (∀ x ∈ t, (x.1.1 = 2 ∨ x.1.1 = 6 ∨ x.1.1 = 9 ∨ x.1.1 = 14) → x.2.1.2.1 = lkZ N K x.2.1.1) ∧ t.Pairwise (fun x y => NmI x → NmI y → ¬ x.2.1.1 = y.2.1.1) ∧ ∀ x ∈ t, x.1.1 = 14 → ∃ y ∈ t, y.1.1 = 9 ∧ y.2.1.1 = x.2.1.1
section
variable {N : Int → Int} {K : List (Int × Int)} {Kd : Nat → Int} {lo mid hi : Int} {t u : List XrZ} {x : XrZ}
theorem EpW.nil : EpW N K Kd lo hi [] := ⟨fun _ h => absurd h List.not_mem_nil, fun _ h => absurd h List.not_mem_nil, List.Pairwise.nil, fun _ h => absurd h List.not_mem_nil⟩
theorem EpW.wd {lo' hi' : Int} (h : EpW N K Kd lo hi t) (h1 : lo' ≤ lo) (h2 : hi ≤ hi') : EpW N K Kd lo' hi' t := ⟨fun x a b => by have := h.1 x a b; exact ⟨by omega, by omega, this.2.2⟩, h.2⟩
theorem EpW.ap (h : EpW N K Kd lo mid t) (g : EpW N K Kd mid hi u) (h1 : lo ≤ mid) (h2 : mid ≤ hi) : EpW N K Kd lo hi (u ++ t) := by
  refine ⟨fun x a b => ?_, fun x a b => ?_, ?_, fun x a b => ?_⟩
  · rcases List.mem_append.mp a with a | a
    · have := g.1 x a b; exact ⟨by omega, by omega, this.2.2⟩
    · have := h.1 x a b; exact ⟨by omega, by omega, this.2.2⟩
  · rcases List.mem_append.mp a with a | a
    · exact g.2.1 x a b
    · exact h.2.1 x a b
  · refine List.pairwise_append.mpr ⟨g.2.2.1, h.2.2.1, fun x a y b n1 n2 e => ?_⟩
    have p := g.1 x a (Or.inl n1)
    have q := h.1 y b (Or.inl n2)
    omega
  · rcases List.mem_append.mp a with a | a
    · obtain ⟨y, c, d⟩ := g.2.2.2 x a b
      exact ⟨y, List.mem_append_left _ c, d⟩
    · obtain ⟨y, c, d⟩ := h.2.2.2 x a b
      exact ⟨y, List.mem_append_right _ c, d⟩
/-- one that is no NAME -/
theorem EpW.o1 (h : ¬ NmI x ∧ ¬ x.1.1 = 14) : EpW N K Kd lo hi [x] := by
  refine ⟨fun y a b => ?_, fun y a b => ?_, List.pairwise_singleton _ _, fun y a b => ?_⟩
  · rw [List.mem_singleton.mp a] at b
    exact absurd b (fun q => q.elim h.1 h.2)
  · rw [List.mem_singleton.mp a] at b
    rcases b with b | b | b | b
    · exact absurd (Or.inl b) h.1
    · exact absurd (Or.inr (Or.inl b)) h.1
    · exact absurd (Or.inr (Or.inr (Or.inl b))) h.1
    · exact absurd b h.2
  · rw [List.mem_singleton.mp a] at b
    exact absurd b h.2
/-- one that is a NAME -/
theorem EpW.n1 (h : NmI x) (h1 : lo ≤ x.2.1.1 ∧ x.2.1.1 < hi ∧ Kd x.2.1.1.toNat = 80) (h2 : ¬ x.1.1 = 10 → x.2.1.2.1 = lkZ N K x.2.1.1) : EpW N K Kd lo hi [x] := by
  refine ⟨fun y a b => ?_, fun y a b => ?_, List.pairwise_singleton _ _, fun y a b => ?_⟩
  · rw [List.mem_singleton.mp a]
    exact h1
  · rw [List.mem_singleton.mp a] at b ⊢
    exact h2 (by omega)
  · rw [List.mem_singleton.mp a] at b
    unfold NmI at h
    omega
end
/-- from z to z' an exp is read, or a piece of one -/
def EwW (N : Int → Int) (z z' : ZS) : Prop := (GpY z.1 z'.1 ∧ z'.2.2 = z.2.2 ∧ zK z'.1 = zK z.1) ∧ (zFt z'.1 = 0 → zAt z.1 ≤ 500 → ∃ t : List XrZ, z'.2.1 = t.map Sum.inl ++ z.2.1 ∧ EpW N z.2.2.2.1.1 (zK z.1) (zAt z.1) (zAt z'.1) t)
section
variable {N : Int → Int} {z z1 z2 : ZS} {x : XrZ}
theorem EwW.rf : EwW N z z := ⟨⟨GpY.rf, rfl, rfl⟩, fun _ _ => ⟨[], rfl, EpW.nil⟩⟩
theorem EwW.tr (h : EwW N z z1) (g : EwW N z1 z2) : EwW N z z2 := by
  refine ⟨⟨h.1.1.tr g.1.1, g.1.2.1.trans h.1.2.1, g.1.2.2.trans h.1.2.2⟩, fun f h5 => ?_⟩
  have f1 := g.1.1.z f
  have m1 := h.1.1.2 h5
  have m2 := g.1.1.2 m1.2
  obtain ⟨t, e1, p1⟩ := h.2 f1 h5
  obtain ⟨u, e2, p2⟩ := g.2 f m1.2
  rw [h.1.2.1, h.1.2.2] at p2
  exact ⟨u ++ t, by rw [e2, e1, List.map_append, List.append_assoc], p1.ap p2 m1.1 m2.1⟩
theorem EwW.m {z' : ZS} (g : GpY z.1 z'.1) (k : NpY z.1 z'.1) (e : z'.2 = z.2) : EwW N z z' := ⟨⟨g, by rw [e], zk_n k⟩, fun _ _ => ⟨[], by rw [e]; rfl, EpW.nil⟩⟩
theorem EwW.ac : EwW N z (accM z) := EwW.m (gd_acc _) (gn_acc _) rfl
theorem EwW.xp {c : Int} : EwW N z (xpM c z) := EwW.m (gd_xp _) (gn_xp _) rfl
theorem EwW.ra {c : Int} : EwW N z (raiM c z) := EwW.m (gd_rai _) (gn_rai _) rfl
theorem EwW.ty : EwW N z (typM z) := EwW.m (gd_typ _) (gn_typ _) rfl
theorem EwW.pu (h : ¬ NmI x ∧ ¬ x.1.1 = 14) : EwW N z (puM x z) := ⟨⟨GpY.rf, rfl, rfl⟩, fun _ _ => ⟨[x], rfl, EpW.o1 h⟩⟩
/-- a NAME at token q -/
theorem EwW.nm {z' : ZS} (g : GpY z.1 z'.1) (k : NpY z.1 z'.1) (e : z'.2 = (.inl x :: z.2.1, z.2.2)) (h : NmI x) (h1 : zFt z'.1 = 0 → zAt z.1 ≤ x.2.1.1 ∧ x.2.1.1 < zAt z'.1 ∧ zK z.1 x.2.1.1.toNat = 80) (h2 : ¬ x.1.1 = 10 → x.2.1.2.1 = lkZ N z.2.2.2.1.1 x.2.1.1) : EwW N z z' := ⟨⟨g, by rw [e], zk_n k⟩, fun f _ => ⟨[x], by rw [e]; rfl, EpW.n1 h (h1 f) h2⟩⟩
end
abbrev EwM (N : Int → Int) (f : ZS → ZS) : Prop := ∀ z, EwW N z (f z)
section
variable {N : Int → Int}
theorem ew_cl {p : Int} : ∀ (W : WtZ) (z : ZS), EwW N z (clM p W z) := by
  intro W
  induction W with
  | nil => intro z; exact EwW.rf
  | cons w W ih =>
    intro z
    obtain ⟨sg, f, st, a, mq⟩ := w
    rw [clM]
    split
    · exact (EwW.pu (by show ¬ ((7 : Int) = 2 ∨ (7 : Int) = 6 ∨ (7 : Int) = 9 ∨ (7 : Int) = 10) ∧ ¬ (7 : Int) = 14; decide)).tr (ih _)
    · exact EwW.rf
theorem ew_fk {z : ZS} : EwW N z (fkM z) := by
  unfold fkM
  split
  · exact EwW.pu (by show ¬ ((11 : Int) = 2 ∨ (11 : Int) = 6 ∨ (11 : Int) = 9 ∨ (11 : Int) = 10) ∧ ¬ (11 : Int) = 14; decide)
  · exact EwW.rf
theorem ew_chl {O : ZS → ZS} (h : EwM N O) : ∀ (f : Nat) (W : WtZ) (r : Int × Int) (z : ZS), EwW N z (chlM O f W r z) := by
  intro f
  induction f with
  | zero => intro W r z; exact ew_cl W z
  | succ f ih =>
    intro W r z
    rw [chlM]
    split
    · exact ((((ew_cl _ z).tr ew_fk).tr EwW.ac).tr (h _)).tr (ih _ _ _)
    · exact ew_cl W z
theorem ew_chc {O E C : ZS → ZS} (hO : EwM N O) (hE : EwM N E) (hC : EwM N C) : EwM N (chcM O E C) := by
  intro z
  show EwW N z (ch2M E C _ (chlM O 501 [] _ (O z)))
  have q : EwW N z (chlM O 501 [] (rbM z) (O z)) := (hO z).tr (ew_chl hO _ _ _ _)
  unfold ch2M
  split
  · refine EwW.tr ?_ (EwW.pu (by show ¬ ((8 : Int) = 2 ∨ (8 : Int) = 6 ∨ (8 : Int) = 9 ∨ (8 : Int) = 10) ∧ ¬ (8 : Int) = 14; decide))
    refine EwW.tr ?_ (hC _)
    refine EwW.tr ?_ EwW.xp
    refine EwW.tr ?_ (EwW.pu (by show ¬ ((13 : Int) = 2 ∨ (13 : Int) = 6 ∨ (13 : Int) = 9 ∨ (13 : Int) = 10) ∧ ¬ (13 : Int) = 14; decide))
    refine EwW.tr ?_ (hE _)
    refine EwW.tr ?_ EwW.ac
    exact q.tr (EwW.pu (by show ¬ ((12 : Int) = 2 ∨ (12 : Int) = 6 ∨ (12 : Int) = 9 ∨ (12 : Int) = 10) ∧ ¬ (12 : Int) = 14; decide))
  · exact q
/-- an assignment -/
theorem eww_asg {E : ZS → ZS} (hE : EwM N E) {z : ZS} (h80 : codY z.1 = 80) : EwW N z (asgM N E z) := by
  have k80 : zK z.1 (zAt z.1).toNat = 80 := by
    unfold codY at h80
    split at h80
    · exact h80
    · exact absurd h80 (by decide)
  have g0 : GpY z.1 (tkM N z).1 ∧ (tkM N z).2.2 = z.2.2 := by
    unfold tkM
    split
    · exact ⟨GpY.rf, rfl⟩
    · exact ⟨GpY.rf, rfl⟩
  have e1 : EwW N (tkM N z) (E (accM (accM (tkM N z)))) := (EwW.ac.tr EwW.ac).tr (hE _)
  have z1 : (tkM N z).1 = z.1 := by
    unfold tkM
    split <;> rfl
  refine ⟨⟨g0.1.tr e1.1.1, e1.1.2.1.trans g0.2, e1.1.2.2.trans (by rw [z1])⟩, fun f h5 => ?_⟩
  have h2 : EwW N (accM (accM (tkM N z))) (E (accM (accM (tkM N z)))) := hE _
  have a1 : zAt (tkM N z).1 ≤ 500 := by rw [z1]; exact h5
  have fA := h2.1.1.z f
  have l2 : zAt (accY (tkM N z).1) < zAt (accY (accY (tkM N z).1)) := ac_lt fA
  have l1 : zAt (tkM N z).1 < zAt (accY (tkM N z).1) := ac_lt ((gd_acc _).z fA)
  rw [z1] at l1 l2
  have b1 := ((gd_acc (tkM N z).1).2 a1).2
  have b2 := ((gd_acc (accY (tkM N z).1)).2 b1).2
  obtain ⟨t, et, pt⟩ := h2.2 f b2
  have m2 := (h2.1.1.2 b2).1
  have hk : (accM (accM (tkM N z))).2.2.2.1.1 = z.2.2.2.1.1 := by
    show (tkM N z).2.2.2.1.1 = _
    rw [g0.2]
  have hz : zK (accM (accM (tkM N z))).1 = zK z.1 := by
    show zK (accY (accY (tkM N z).1)) = _
    rw [z1]
    exact zk_n ((gn_acc _).tr (gn_acc _))
  rw [hk, hz] at pt
  have m2' : zAt (accY (accY z.1)) ≤ zAt (E (accM (accM (tkM N z)))).1 := by
    have q : zAt (accY (accY (tkM N z).1)) ≤ zAt (E (accM (accM (tkM N z)))).1 := m2
    rw [z1] at q
    exact q
  have pt' : EpW N z.2.2.2.1.1 (zK z.1) (zAt (accY (accY z.1))) (zAt (E (accM (accM (tkM N z)))).1) t := by
    have q : EpW N z.2.2.2.1.1 (zK z.1) (zAt (accY (accY (tkM N z).1))) (zAt (E (accM (accM (tkM N z)))).1) t := pt
    rw [z1] at q
    exact q
  have et' : (E (accM (accM (tkM N z)))).2.1 = t.map Sum.inl ++ (tkM N z).2.1 := et
  show ∃ u : List XrZ, Sum.inl (asrZ (lkM N z (zAt z.1)) (cobY z.1) (rbM z).1 (rbM z).2 (tmM z) _ _) :: (E (accM (accM (tkM N z)))).2.1 = u.map Sum.inl ++ z.2.1 ∧ EpW N z.2.2.2.1.1 (zK z.1) (zAt z.1) (zAt (E (accM (accM (tkM N z)))).1) u
  generalize hx : asrZ (lkM N z (zAt z.1)) (cobY z.1) (rbM z).1 (rbM z).2 (tmM z) _ _ = x
  have xk : x.1.1 = 9 ∧ x.2.1.1 = zAt z.1 ∧ x.2.1.2.1 = lkZ N z.2.2.2.1.1 (zAt z.1) := by
    rw [← hx]
    exact ⟨rfl, rfl, rfl⟩
  rw [et']
  have px : ∀ y ∈ t, NmI y → ¬ x.2.1.1 = y.2.1.1 := fun y hy n q => by
    have := pt'.1 y hy (Or.inl n)
    omega
  by_cases c : cobY z.1 = 8
  · have e0 : tkM N z = z := by unfold tkM; rw [if_pos c]
    refine ⟨x :: t, by rw [e0]; rfl, fun y hy q => ?_, fun y hy q => ?_, ?_, fun y hy q => ?_⟩
    · rcases List.mem_cons.mp hy with rfl | hy
      · exact ⟨by omega, by omega, by rw [xk.2.1]; exact k80⟩
      · have := pt'.1 y hy q
        exact ⟨by omega, by omega, this.2.2⟩
    · rcases List.mem_cons.mp hy with rfl | hy
      · rw [xk.2.2, xk.2.1]
      · exact pt'.2.1 y hy q
    · exact List.pairwise_cons.mpr ⟨fun y hy _ n => px y hy n, pt'.2.2.1⟩
    · rcases List.mem_cons.mp hy with rfl | hy
      · omega
      · obtain ⟨w, w1, w2⟩ := pt'.2.2.2 y hy q
        exact ⟨w, List.mem_cons_of_mem _ w1, w2⟩
  · have e0 : tkM N z = puM (takZ (lkM N z (zAt z.1)) (xnM z) z.1) z := by unfold tkM; rw [if_neg c]
    have e0' : (tkM N z).2.1 = Sum.inl (takZ (lkM N z (zAt z.1)) (xnM z) z.1) :: z.2.1 := by rw [e0]; rfl
    generalize hy : takZ (lkM N z (zAt z.1)) (xnM z) z.1 = k at e0'
    have kk : k.1.1 = 14 ∧ k.2.1.1 = zAt z.1 ∧ k.2.1.2.1 = lkZ N z.2.2.2.1.1 (zAt z.1) := by
      rw [← hy]
      exact ⟨rfl, rfl, rfl⟩
    refine ⟨x :: (t ++ [k]), by rw [e0', List.map_cons, List.map_append, List.cons_append, List.append_assoc]; rfl, fun y hy q => ?_, fun y hy q => ?_, ?_, fun y hy q => ?_⟩
    · rcases List.mem_cons.mp hy with rfl | hy
      · exact ⟨by omega, by omega, by rw [xk.2.1]; exact k80⟩
      · rcases List.mem_append.mp hy with hy | hy
        · have := pt'.1 y hy q
          exact ⟨by omega, by omega, this.2.2⟩
        · rw [List.mem_singleton.mp hy]
          exact ⟨by omega, by omega, by rw [kk.2.1]; exact k80⟩
    · rcases List.mem_cons.mp hy with rfl | hy
      · rw [xk.2.2, xk.2.1]
      · rcases List.mem_append.mp hy with hy | hy
        · exact pt'.2.1 y hy q
        · rw [List.mem_singleton.mp hy, kk.2.2, kk.2.1]
    · refine List.pairwise_cons.mpr ⟨fun y hy _ n => ?_, List.pairwise_append.mpr ⟨pt'.2.2.1, List.pairwise_singleton _ _, fun a _ y hy _ n => ?_⟩⟩
      · rcases List.mem_append.mp hy with hy | hy
        · exact px y hy n
        · rw [List.mem_singleton.mp hy] at n
          unfold NmI at n
          omega
      · rw [List.mem_singleton.mp hy] at n
        unfold NmI at n
        omega
    · rcases List.mem_cons.mp hy with rfl | hy
      · omega
      · rcases List.mem_append.mp hy with hy | hy
        · obtain ⟨w, w1, w2⟩ := pt'.2.2.2 y hy q
          exact ⟨w, List.mem_cons_of_mem _ (List.mem_append_left _ w1), w2⟩
        · rw [List.mem_singleton.mp hy]
          exact ⟨x, List.mem_cons_self, xk.1, by omega⟩
theorem ew_xps {O E C : ZS → ZS} (hO : EwM N O) (hE : EwM N E) (hC : EwM N C) : EwM N (xpsM N O E C) := by
  intro z
  unfold xpsM
  split
  · rename_i h80
    split
    · exact eww_asg hE h80
    · exact ew_chc hO hE hC z
  · exact ew_chc hO hE hC z
/-- a call: its arguments, its end -/
def EcW (N : Int → Int) (r : Int) (z z' : ZS) : Prop := (GpY z.1 z'.1 ∧ z'.2.2 = z.2.2 ∧ zK z'.1 = zK z.1) ∧ (zFt z'.1 = 0 → zAt z.1 ≤ 500 → ∃ (c : XrZ) (t : List XrZ), z'.2.1 = (c :: t).map Sum.inl ++ z.2.1 ∧ (c.1.1 = 10 ∧ c.2.1.1 = r) ∧ EpW N z.2.2.2.1.1 (zK z.1) (zAt z.1) (zAt z'.1) t)
theorem EcW.pre {r : Int} {z z1 z2 : ZS} (h : EwW N z z1) (g : EcW N r z1 z2) : EcW N r z z2 := by
  refine ⟨⟨h.1.1.tr g.1.1, g.1.2.1.trans h.1.2.1, g.1.2.2.trans h.1.2.2⟩, fun f h5 => ?_⟩
  have f1 := g.1.1.z f
  have m1 := h.1.1.2 h5
  have m2 := g.1.1.2 m1.2
  obtain ⟨t, e1, p1⟩ := h.2 f1 h5
  obtain ⟨c, u, e2, k, p2⟩ := g.2 f m1.2
  rw [h.1.2.1, h.1.2.2] at p2
  exact ⟨c, u ++ t, by rw [e2, e1, List.map_cons, List.map_cons, List.map_append, List.cons_append, List.cons_append, List.append_assoc], k, p1.ap p2 m1.1 m2.1⟩
theorem ec_cle {r : Int × Int} {l : List Int} {z : ZS} : EcW N r.1 z (cleM r l z) := ⟨⟨gd_xp _, rfl, zk_n (gn_xp _)⟩, fun _ _ => ⟨_, [], rfl, ⟨rfl, rfl⟩, EpW.nil⟩⟩
theorem ec_clp {E : ZS → ZS} (hE : EwM N E) (r : Int × Int) : ∀ (f : Nat) (l : List Int) (z : ZS), EcW N r.1 z (clpM E r f l z) := by
  intro f
  induction f with
  | zero => intro l z; exact ec_cle
  | succ f ih =>
    intro l z
    rw [clpM]
    split
    · exact EcW.pre (EwW.ac.tr (hE _)) (ih _ _)
    · exact ec_cle
theorem ew_opr {m : Nat} {E : ZS → ZS} {I : Int → ZS → ZS} (hE : EwM N E) (hI : ∀ g, EwM N (I g)) (g : Int) : EwM N (oprM N m E I g) := by
  intro z
  unfold oprM
  split
  · exact (EwW.ac.tr (hI _ _)).tr (EwW.pu (by show ¬ ((4 : Int) = 2 ∨ (4 : Int) = 6 ∨ (4 : Int) = 9 ∨ (4 : Int) = 10) ∧ ¬ (4 : Int) = 14; decide))
  split
  · refine EwW.nm (x := preZ (lkM N z (zAt z.1 + 1)) (xnM z) z.1) ((gd_acc _).tr (gd_xp _)) ((gn_acc _).tr (gn_xp _)) rfl (Or.inr (Or.inl rfl)) (fun f => ?_) (fun _ => rfl)
    have f : zFt (xpY 80 (accY z.1)) = 0 := f
    have l2 := xp_lt f
    have l1 := ac_lt ((gd_xp _).z f)
    have a1 : zAt (accY z.1) = zAt z.1 + 1 ∧ zK (accY z.1) (zAt (accY z.1)).toNat = 80 := by
      have f0 := (gd_xp (c := 80) (accY z.1)).z f
      constructor
      · unfold accY at f0 l1 ⊢
        split
        · rename_i c
          rw [if_pos c] at f0
          exact absurd f0 (ra_ft (by decide))
        · rename_i c
          rw [if_neg c] at f0
          split
          · rfl
          · rename_i d
            rw [if_neg d] at f0
            exact absurd f0 d
      · have h8 : codY (accY z.1) = 80 := by
          unfold xpY at f
          split at f
          · assumption
          · exact absurd f (ra_ft (by decide))
        have e8 : codY (accY z.1) = zK (accY z.1) (zAt (accY z.1)).toNat := if_pos f0
        rw [← e8]
        exact h8
    have zk : zK (accY z.1) = zK z.1 := zk_n (gn_acc _)
    rw [zk, a1.1] at a1
    show zAt z.1 ≤ zAt z.1 + 1 ∧ zAt z.1 + 1 < zAt (xpY 80 (accY z.1)) ∧ zK z.1 (zAt z.1 + 1).toNat = 80
    exact ⟨by omega, by omega, a1.2⟩
  split
  · refine EwW.ac.tr ?_
    unfold op2M
    split
    · exact ((EwW.ty.tr EwW.xp).tr (hI _ _)).tr (EwW.pu (by show ¬ ((5 : Int) = 2 ∨ (5 : Int) = 6 ∨ (5 : Int) = 9 ∨ (5 : Int) = 10) ∧ ¬ (5 : Int) = 14; decide))
    · exact ((hE _).tr (EwW.pu (by show ¬ ((3 : Int) = 2 ∨ (3 : Int) = 6 ∨ (3 : Int) = 9 ∨ (3 : Int) = 10) ∧ ¬ (3 : Int) = 14; decide))).tr EwW.xp
  split
  · rename_i h80
    have k80 : zK z.1 (zAt z.1).toNat = 80 := by
      unfold codY at h80
      split at h80
      · exact h80
      · exact absurd h80 (by decide)
    unfold nmeM
    split
    · -- a call
      have k : EcW N (zAt z.1) (accM (accM z)) (ca2M m E (rbM z) (accM (accM z))) ∨ ¬ zFt (ca2M m E (rbM z) (accM (accM z))).1 = 0 ∧ GpY (accM (accM z)).1 (ca2M m E (rbM z) (accM (accM z))).1 ∧ ((ca2M m E (rbM z) (accM (accM z))).2.2 = z.2.2 ∧ zK (ca2M m E (rbM z) (accM (accM z))).1 = zK z.1) := by
        unfold ca2M
        split
        · refine Or.inr ⟨fun f => ?_, (gd_rai _).tr (gd_xp _), rfl, zk_n ((((gn_acc _).tr (gn_acc _)).tr (gn_rai _)).tr (gn_xp _))⟩
          have f : zFt (xpY 1 (raiY 3 (accY (accY z.1)))) = 0 := f
          exact ra_ft (by decide) ((gd_xp _).z f)
        split
        · exact Or.inl ec_cle
        · exact Or.inl (EcW.pre (hE _) (ec_clp hE (rbM z) _ _ _))
      rcases k with k | ⟨k1, k2, k3⟩
      · have zk2 : zK (accM (accM z)).1 = zK z.1 := zk_n ((gn_acc _).tr (gn_acc _))
        refine ⟨⟨((gd_acc _).tr (gd_acc _)).tr k.1.1, k.1.2.1, k.1.2.2.trans zk2⟩, fun f h5 => ?_⟩
        have fA := k.1.1.z f
        have l2 : zAt (accY z.1) < zAt (accY (accY z.1)) := ac_lt fA
        have l1 : zAt z.1 < zAt (accY z.1) := ac_lt ((gd_acc _).z fA)
        have b1 := ((gd_acc z.1).2 h5).2
        have b2 := ((gd_acc (accY z.1)).2 b1).2
        obtain ⟨c, t, e, ⟨c1, c2⟩, p⟩ := k.2 f b2
        have m2 := (k.1.1.2 b2).1
        rw [zk2] at p
        have p : EpW N z.2.2.2.1.1 (zK z.1) (zAt (accY (accY z.1))) (zAt (ca2M m E (rbM z) (accM (accM z))).1) t := p
        have m2 : zAt (accY (accY z.1)) ≤ zAt (ca2M m E (rbM z) (accM (accM z))).1 := m2
        refine ⟨c :: t, e, fun y hy q => ?_, fun y hy q => ?_, List.pairwise_cons.mpr ⟨fun y hy _ n q => ?_, p.2.2.1⟩, fun y hy q => ?_⟩
        · rcases List.mem_cons.mp hy with rfl | hy
          · exact ⟨by omega, by omega, by rw [c2]; exact k80⟩
          · have := p.1 y hy q
            exact ⟨by omega, by omega, this.2.2⟩
        · rcases List.mem_cons.mp hy with rfl | hy
          · omega
          · exact p.2.1 y hy q
        · have := p.1 y hy (Or.inl n)
          omega
        · rcases List.mem_cons.mp hy with rfl | hy
          · omega
          · obtain ⟨w, w1, w2⟩ := p.2.2.2 y hy q
            exact ⟨w, List.mem_cons_of_mem _ w1, w2⟩
      · exact ⟨⟨((gd_acc _).tr (gd_acc _)).tr k2, k3.1, k3.2⟩, fun f _ => absurd f k1⟩
    split
    · refine EwW.nm (x := posZ (lkM N z (zAt z.1)) (xnM z) z.1) ((gd_acc _).tr (gd_acc _)) ((gn_acc _).tr (gn_acc _)) rfl (Or.inr (Or.inl rfl)) (fun f => ?_) (fun _ => rfl)
      have f : zFt (accY (accY z.1)) = 0 := f
      have l2 := ac_lt f
      have l1 := ac_lt ((gd_acc _).z f)
      show zAt z.1 ≤ zAt z.1 ∧ zAt z.1 < zAt (accY (accY z.1)) ∧ _
      exact ⟨by omega, by omega, k80⟩
    · refine EwW.nm (x := namZ (lkM N z (zAt z.1)) (xnM z) z.1) (gd_acc _) (gn_acc _) rfl (Or.inl rfl) (fun f => ?_) (fun _ => rfl)
      have f : zFt (accY z.1) = 0 := f
      have l1 := ac_lt f
      show zAt z.1 ≤ zAt z.1 ∧ zAt z.1 < zAt (accY z.1) ∧ _
      exact ⟨by omega, by omega, k80⟩
  split
  · refine EwW.ac.tr (EwW.pu ?_)
    show ¬ ((if codY z.1 = 81 ∨ codY z.1 = 82 then (0 : Int) else 1) = 2 ∨ (if codY z.1 = 81 ∨ codY z.1 = 82 then (0 : Int) else 1) = 6 ∨ (if codY z.1 = 81 ∨ codY z.1 = 82 then (0 : Int) else 1) = 9 ∨ (if codY z.1 = 81 ∨ codY z.1 = 82 then (0 : Int) else 1) = 10) ∧ ¬ (if codY z.1 = 81 ∨ codY z.1 = 82 then (0 : Int) else 1) = 14
    split <;> decide
  · exact EwW.ra
theorem ew_lv : ∀ n, EwM N (eM N n) ∧ EwM N (cM N n) ∧ ∀ g, EwM N (oM N n g) := by
  intro n
  induction n with
  | zero => exact ⟨fun _ => EwW.ra, fun _ => EwW.ra, fun _ _ => EwW.ra⟩
  | succ n ih => exact ⟨ew_xps (ew_opr ih.1 ih.2.2 0) ih.1 ih.2.1, ew_chc (ew_opr ih.1 ih.2.2 0) ih.1 ih.2.1, fun g => ew_opr ih.1 ih.2.2 g⟩
end
