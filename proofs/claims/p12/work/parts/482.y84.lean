/-! the reference's flow over a program that is read and judged -/
section
variable {N Nv : Int → Int} {σ σ1 Y : RS} {s : SpC} {T : TbT} {Ko Ki : Int} {b kd : Nat → Int} {f g n : Nat} {L : List Nat} {c m : Int32}
theorem rf_fl (hs : Z0Y s) (hft : zFt (prM N g (z0S s)).1 = 0) (R : RdW N σ (prM N g (z0S s))) (V : V4R σ) (h4 : (prM N g (z0S s)).2.1.length ≤ 4000)
    (J : JR b kd (sI σ 68 1) σ1 (CxM N (prM N g (z0S s)).1 (msM N Ko Ki (prM N g (z0S s)).1)) (tnM (prM N g (z0S s))) (prM N g (z0S s)).2.1 T [])
    (H : DfX N (CxM N (prM N g (z0S s)).1 (msM N Ko Ki (prM N g (z0S s)).1)) (prM N g (z0S s)) T (msM N Ko Ki (prM N g (z0S s)).1))
    (hok : ∀ y l, (.inr y :: l) <:+ (prM N g (z0S s)).2.1 → okS (CxM N (prM N g (z0S s)).1 (msM N Ko Ki (prM N g (z0S s)).1)) N T l y)
    (P : PrD N (prM N g (z0S s)) L 0 (0, 0, []) (psM (prM N g (z0S s)))) (hL : L.length = (zMs (prM N g (z0S s)).1).length) (hf : 2 * snM (prM N g (z0S s)) ≤ f) (hT : FlT (fl0 σ1) n Y c m) (hc : ¬ c < gI Y 18) :
    (BdF Y ↔ ¬ FlO N (prM N g (z0S s)) T (msM N Ko Ki (prM N g (z0S s)).1) (fun M => (aI σ 40 M).toInt) f L 0) ∧
    (FlO N (prM N g (z0S s)) T (msM N Ko Ki (prM N g (z0S s)).1) (fun M => (aI σ 40 M).toInt) f L 0 → LgF (prM N g (z0S s)) 0 (snM (prM N g (z0S s))) (fl0 σ1) Y (FlG N (prM N g (z0S s)) T (msM N Ko Ki (prM N g (z0S s)).1) (fun M => (aI σ 40 M).toInt) f L 0)) := by
  obtain ⟨s1, s2, s3, s4⟩ := id hs
  have A := ak_all hft hs
  have I := iv_all hft hs
  have S : SxS (prM N g (z0S s)) := sx_pr (by omega) s4
  have K := tki_pr (N := N) hft s1
  have U := up_pr (N := N) (f := g) (z := z0S s) rfl (by show (-1 : Int) < 0; decide)
  have jf := J.1.1
  have ml : nT (gI σ 36) = (zMs (prM N g (z0S s)).1).length := by rw [R.ms.2.1, ml_len]
  generalize prM N g (z0S s) = z at *
  have G : GxF N (CxM N z.1 (msM N Ko Ki z.1)) z T (msM N Ko Ki z.1) := ⟨H, pu_all H.1 I R.2.2 S, (mon_pr P).1, K.1, U.2⟩
  refine flow_pr G (fun y l h _ => hok y l h) (mtf_of R V jf) hf P (by omega) hT hc (en_of R A I h4 J) ff_fl0 (fun i hi hk => ?_)
  obtain ⟨k0, k1⟩ := K.2 i hi hk
  obtain ⟨_, ⟨⟨_, ⟨a1, a2, a3, a4⟩, a5, _⟩, _⟩, _⟩ := R
  have e2 : gI σ1 2 = gI σ 2 := jf.1 2 (by decide) (by decide) (by decide) (by decide) (by decide) (by decide)
  have n14 := (nt_pos a2).1
  have a3 := Int32.lt_iff_toInt_lt.mp a3
  rw [e2]
  omega
end
