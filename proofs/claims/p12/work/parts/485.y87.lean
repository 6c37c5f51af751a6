/-! what both flows ask, out of what is read and judged -/
section
variable {N : Int → Int} {σ : RS} {s : SpC} {T : TbT} {Ko Ki : Int} {g : Nat} {L : List Nat}
theorem dfx_of (hs : Z0Y s) (hft : zFt (prM N g (z0S s)).1 = 0) (R : RdW N σ (prM N g (z0S s))) (P : PrD N (prM N g (z0S s)) L 0 (0, 0, []) (psM (prM N g (z0S s)))) (hL : L.length = (zMs (prM N g (z0S s)).1).length)
    (hg : ∀ i, i < xnM (prM N g (z0S s)) → SgX (xth (prM N g (z0S s)) i)) (h1 : ∀ i, i < xnM (prM N g (z0S s)) → (xth (prM N g (z0S s)) i).1.1 = 1 → VaT ((t0T N (fun i => xth (prM N g (z0S s)) i)).1 i))
    (hT : tbT (CxM N (prM N g (z0S s)).1 (msM N Ko Ki (prM N g (z0S s)).1)) (fun i => xth (prM N g (z0S s)) i) (xnM (prM N g (z0S s))) = some T)
    (hok : ∀ y l, (.inr y :: l) <:+ (prM N g (z0S s)).2.1 → okS (CxM N (prM N g (z0S s)).1 (msM N Ko Ki (prM N g (z0S s)).1)) N T l y) :
    DfX N (CxM N (prM N g (z0S s)).1 (msM N Ko Ki (prM N g (z0S s)).1)) (prM N g (z0S s)) T (msM N Ko Ki (prM N g (z0S s)).1) := by
  have sk := (ok_sk (T := T) (Ko := Ko) (Ki := Ki) hs R P hL).mp hok
  have tm := my_of (Nv := N) (Ko := Ko) (Ki := Ki) (tm_all (N := N) hft hs)
  obtain ⟨s1, s2, s3, s4⟩ := id hs
  have K := sk_pr (N := N) (S := []) g (z0S s) rfl hft
  have X := (xs_pr (N := N) (f := g) (z := z0S s) (by show 0 ≤ zAt s; omega) rfl).2
  have J := jd_of hT K (fun i hi => (X i hi).1.2) hg h1 (vv_of R) tm
  exact ⟨zj_of hs hft P J, sk⟩
end
