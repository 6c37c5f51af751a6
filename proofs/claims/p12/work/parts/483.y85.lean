/-! checks of codes, checks of S's: of what is read -/
section
variable {N : Int → Int} {σ : RS} {s : SpC} {T : TbT} {Ko Ki : Int} {g : Nat} {L : List Nat}
theorem ok_sk (hs : Z0Y s) (R : RdW N σ (prM N g (z0S s))) (P : PrD N (prM N g (z0S s)) L 0 (0, 0, []) (psM (prM N g (z0S s)))) (hL : L.length = (zMs (prM N g (z0S s)).1).length) :
    (∀ y l, (.inr y :: l) <:+ (prM N g (z0S s)).2.1 → okS (CxM N (prM N g (z0S s)).1 (msM N Ko Ki (prM N g (z0S s)).1)) N T l y) ↔ ∀ j, j < snM (prM N g (z0S s)) → skT N (prM N g (z0S s)) T (msM N Ko Ki (prM N g (z0S s)).1) j := by
  have U := up_pr (N := N) (f := g) (z := z0S s) rfl (by show (-1 : Int) < 0; decide)
  have ml : nT (gI σ 36) = (zMs (prM N g (z0S s)).1).length := by rw [R.ms.2.1, ml_len]
  generalize prM N g (z0S s) = z at *
  have q := (ok_pr (T := T) (C := CxM N z.1 (msM N Ko Ki z.1)) (nm := nT (gI σ 36)) U.2 (fun k hk => (ms_some R).mpr (Or.inl hk)) (fun i hi => ((mon_pr P).2 i hi).1) rfl L 0 _ _ P (by omega) (List.suffix_refl _) (Nat.le_refl _) rfl rfl (fun y hy => absurd hy List.not_mem_nil)).2
  constructor
  · intro h
    have r := q.mp (fun y l a _ => h y l a)
    exact fun j hj => r j (Nat.zero_le _) hj
  · intro h y l a
    exact q.mpr (fun j _ hj => h j hj) y l a (Nat.zero_le _)
theorem zj_of (hs : Z0Y s) (hft : zFt (prM N g (z0S s)).1 = 0) {C : CxT} (P : PrD N (prM N g (z0S s)) L 0 (0, 0, []) (psM (prM N g (z0S s)))) (hJ : JdL C (prM N g (z0S s)) T) : ZjD C (prM N g (z0S s)) T := by
  obtain ⟨s1, s2, s3, s4⟩ := id hs
  have K := sk_pr (N := N) (S := []) g (z0S s) rfl hft
  have X := (xs_pr (N := N) (f := g) (z := z0S s) (by show 0 ≤ zAt s; omega) rfl).2
  exact ⟨hJ, K, fun i hi => (X i hi).1.2, mkp_pr L 0 _ _ P rfl⟩
end
