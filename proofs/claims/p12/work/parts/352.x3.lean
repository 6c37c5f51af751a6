/-! SURELY assigned along S's, purely, as the class goes -/
/-- before, behind, breaks, continues; exps -/
abbrev GzA : Type := (Nat → Int64) × (Nat → Int64) × (Nat → Int64) × (Nat → Int64) × WzS
def upN (f : Nat → Int64) (j : Nat) (m : Int64) : Nat → Int64 := fun k => if k = j then m else f k
def gaB (j : Nat) (m : Int64) (g : GzA) : GzA := (upN g.1 j m, g.2)
def gaH (j : Nat) (m : Int64) (g : GzA) : GzA := (g.1, upN g.2.1 j m, g.2.2)
def gaK (j : Nat) (m : Int64) (g : GzA) : GzA := (g.1, g.2.1, upN g.2.2.1 j m, g.2.2.2)
def gaC (j : Nat) (m : Int64) (g : GzA) : GzA := (g.1, g.2.1, g.2.2.1, upN g.2.2.2.1 j m, g.2.2.2.2)
def gaW (w : WzS) (g : GzA) : GzA := (g.1, g.2.1, g.2.2.1, g.2.2.2.1, w)
/-- what a jump takes along on its way -/
def ltM (z : ZS) (bh : Nat → Int64) (tg : Int) : Nat → Int → Int64 → Int64
  | 0, _, m => m
  | k + 1, t, m => if t < 0 then m else if t = tg then m else ltM z bh tg k (paS z t.toNat) (if hfA z t.toNat = true then m ||| bh (gjS z (paS z t.toNat).toNat).toNat else m)
theorem ltx_neg {z : ZS} {bh : Nat → Int64} {tg : Int} {k : Nat} {x : Int} {m : Int64} (h : x < 0) : ltM z bh tg k x m = m := by
  cases k with
  | zero => rfl
  | succ k => rw [ltM, if_pos h]
theorem ltx_eq {z : ZS} {bh : Nat → Int64} {tg : Int} {k : Nat} {x : Int} {m : Int64} (h : x = tg) : ltM z bh tg k x m = m := by
  cases k with
  | zero => rfl
  | succ k =>
    rw [ltM]
    by_cases c : x < 0
    · rw [if_pos c]
    · rw [if_neg c, if_pos h]
theorem ltx_s {z : ZS} {bh : Nat → Int64} {tg : Int} {k j : Nat} {m : Int64} (h : ¬ (j : Int) = tg) : ltM z bh tg (k + 1) (j : Int) m = ltM z bh tg k (paS z j) (if hfA z j = true then m ||| bh (gjS z (paS z j).toNat).toNat else m) := by
  rw [ltM, if_neg (by omega), if_neg h, Int.toNat_natCast]
def ldT (N : Int → Int) (z : ZS) (j : Nat) (m : Int64) (g : GzA) : GzA := if tjT N z j < 0 then g else if kjS z j = 64 then gaK (tjT N z j).toNat (g.2.2.1 (tjT N z j).toNat &&& ltM z g.2.1 (tjT N z j) (snM z) (j : Int) m) g else gaC (tjT N z j).toNat (g.2.2.2.1 (tjT N z j).toNat &&& ltM z g.2.1 (tjT N z j) (snM z) (j : Int) m) g
def exB (z : ZS) (T : TbT) (x : Int) (m : Int64) (g : GzA) : Int64 × GzA := (noW (bxW z T x m g.2.2.2.2), gaW (bxW z T x m g.2.2.2.2) g)
abbrev AsT : Type := (Int → Int64 → GzA → Int64 × GzA) × (Int → Int64 → Int64 → Bool → GzA → Int64 × Bool × GzA) × (Nat → Int64 → GzA → Int64 × GzA)
def lkBz (z : ZS) (j : Nat) : Int64 := if ljS z j < 0 then zerB else bitQ (ljS z j)
def bdA (F : AsT) (z : ZS) (j : Nat) (m : Int64) (g : GzA) : Int64 × GzA := if bjS z j < 0 then (m, g) else F.2.2 (bjS z j).toNat m g
def tdA (z : ZS) (T : TbT) (j : Nat) (m : Int64) (g : GzA) : Int64 × GzA := if xjS z j < 0 then (m &&& (lkBz z j ^^^ allB), g) else (fun (q : Int64 × GzA) => (q.1 ||| lkBz z j, q.2)) (exB z T (xjS z j) (m &&& (lkBz z j ^^^ allB)) g)
def ifA (F : AsT) (z : ZS) (T : TbT) (j : Nat) (m : Int64) (g : GzA) : Int64 × GzA := (fun (q : Int64 × GzA) => (fun (p : Int64 × GzA) => if ojS z j < 0 then (p.1 &&& q.2.2.2.2.2.2.1, p.2) else (fun (o : Int64 × GzA) => (p.1 &&& o.1, o.2)) (F.2.2 (ojS z j).toNat q.2.2.2.2.2.2.1 p.2)) (bdA F z j q.2.2.2.2.2.1 q.2)) (exB z T (xjS z j) m g)
def laA (F : AsT) (z : ZS) (j : Nat) (m : Int64) (g : GzA) : Int64 × GzA := (fun (q : Int64 × GzA) => (q.1 &&& q.2.2.2.1 j, q.2)) (bdA F z j m g)
def doA (F : AsT) (z : ZS) (T : TbT) (j : Nat) (m : Int64) (g : GzA) : Int64 × GzA := (fun (q : Int64 × GzA) => (fun (e : Int64 × GzA) => (e.2.2.2.2.2.2.1 &&& e.2.2.2.1 j, e.2)) (exB z T (xjS z j) (q.1 &&& q.2.2.2.2.1 j) q.2)) (bdA F z j m g)
def whA (F : AsT) (z : ZS) (T : TbT) (j : Nat) (m : Int64) (g : GzA) : Int64 × GzA := (fun (a : Int64 × GzA) => (fun (e : Int64 × GzA) => (fun (b : Int64 × GzA) => (fun (c : GzA) => ((if xjS z j < 0 then allB else e.2.2.2.2.2.2.1) &&& c.2.2.1 j, c)) (if kjS z j = 60 then (F.1 (gjS z j) (b.1 &&& b.2.2.2.2.1 j) b.2).2 else b.2)) (bdA F z j e.2.2.2.2.2.1 e.2)) (exB z T (xjS z j) a.1 a.2)) (if kjS z j = 60 then F.1 (ojS z j) m g else (m, g))
def swA (F : AsT) (z : ZS) (T : TbT) (j : Nat) (m : Int64) (g : GzA) : Int64 × GzA := (fun (e : Int64 × GzA) => (fun (q : Int64 × Bool × GzA) => ((if q.2.1 = true then q.1 else q.1 &&& e.1) &&& q.2.2.2.2.1 j, q.2.2)) (F.2.1 (bjS z j) e.1 allB false e.2)) (exB z T (xjS z j) m g)
def tyA (F : AsT) (z : ZS) (j : Nat) (m : Int64) (g : GzA) : Int64 × GzA := (fun (a : Int64 × GzA) => (fun (b : Int64 × GzA) => (fun (c : Int64 × GzA) => (c.1 ||| a.1, c.2)) (if ojS z j < 0 then b else (fun (o : Int64 × GzA) => (b.1 &&& o.1, o.2)) (F.2.2 (ojS z j).toNat (if ljS z j < 0 then m else m ||| bitQ (ljS z j)) b.2))) (bdA F z j m a.2)) (if gjS z j < 0 then (zerB, g) else F.2.2 (gjS z j).toNat m g)
def inA (F : AsT) (N : Int → Int) (z : ZS) (T : TbT) (j : Nat) (m : Int64) (g : GzA) : Int64 × GzA :=
  if kjS z j = 2 ∨ kjS z j = 92 then F.1 (bjS z j) m g
  else if kjS z j = 91 ∨ kjS z j = 93 then tdA z T j m g
  else if kjS z j = 90 ∨ kjS z j = 94 then exB z T (xjS z j) m g
  else if kjS z j = 66 ∨ kjS z j = 67 then (allB, (exB z T (xjS z j) m g).2)
  else if kjS z j = 64 ∨ kjS z j = 65 then (allB, ldT N z j m g)
  else if kjS z j = 6 then laA F z j m g
  else if kjS z j = 56 then ifA F z T j m g
  else if kjS z j = 59 then doA F z T j m g
  else if kjS z j = 58 ∨ kjS z j = 60 then whA F z T j m g
  else if kjS z j = 61 then swA F z T j m g
  else if kjS z j = 68 then tyA F z j m g
  else (m, g)
def stA (F : AsT) (N : Int → Int) (z : ZS) (T : TbT) (j : Nat) (m : Int64) (g : GzA) : Int64 × GzA := (fun (q : Int64 × GzA) => (q.1, gaH j q.1 q.2)) (if lvS z j ≤ 20 then inA F N z T j m (gaB j m g) else (m, gaB j m g))
def asF (N : Int → Int) (z : ZS) (T : TbT) : Nat → AsT
  | 0 => (fun _ m g => (m, g), fun _ _ m d g => (m, d, g), fun _ m g => (m, g))
  | n + 1 => (fun x m g => if x < 0 then (m, g) else (fun (q : Int64 × GzA) => (asF N z T n).1 (njS z x.toNat) q.1 q.2) ((asF N z T n).2.2 x.toNat m g),
      fun x ch m d g => if x < 0 then (m, d, g) else if kjS z x.toNat = 62 ∨ kjS z x.toNat = 63 then (asF N z T n).2.1 (njS z x.toNat) ch (m &&& ch) (d || decide (kjS z x.toNat = 63)) g else (fun (q : Int64 × GzA) => (asF N z T n).2.1 (njS z x.toNat) ch q.1 d q.2) ((asF N z T n).2.2 x.toNat m g),
      stA (asF N z T n) N z T)
theorem as_st {N : Int → Int} {z : ZS} {T : TbT} {n : Nat} : (asF N z T (n + 1)).2.2 = stA (asF N z T n) N z T := rfl
theorem as_r0 {N : Int → Int} {z : ZS} {T : TbT} {n : Nat} {x : Int} {m : Int64} {g : GzA} (h : x < 0) : (asF N z T n).1 x m g = (m, g) := by
  cases n with
  | zero => rfl
  | succ n => exact if_pos h
theorem as_r1 {N : Int → Int} {z : ZS} {T : TbT} {n j : Nat} {m : Int64} {g : GzA} : (asF N z T (n + 1)).1 (j : Int) m g = (asF N z T n).1 (njS z j) ((asF N z T n).2.2 j m g).1 ((asF N z T n).2.2 j m g).2 := by
  rw [asF]
  dsimp only
  rw [if_neg (by omega), Int.toNat_natCast]
theorem as_s0 {N : Int → Int} {z : ZS} {T : TbT} {n : Nat} {x : Int} {ch m : Int64} {d : Bool} {g : GzA} (h : x < 0) : (asF N z T n).2.1 x ch m d g = (m, d, g) := by
  cases n with
  | zero => rfl
  | succ n => exact if_pos h
theorem as_s1 {N : Int → Int} {z : ZS} {T : TbT} {n j : Nat} {ch m : Int64} {d : Bool} {g : GzA} (h : kjS z j = 62 ∨ kjS z j = 63) : (asF N z T (n + 1)).2.1 (j : Int) ch m d g = (asF N z T n).2.1 (njS z j) ch (m &&& ch) (d || decide (kjS z j = 63)) g := by
  rw [asF]
  dsimp only
  rw [if_neg (by omega), Int.toNat_natCast, if_pos h]
theorem as_s2 {N : Int → Int} {z : ZS} {T : TbT} {n j : Nat} {ch m : Int64} {d : Bool} {g : GzA} (h : ¬ (kjS z j = 62 ∨ kjS z j = 63)) : (asF N z T (n + 1)).2.1 (j : Int) ch m d g = (asF N z T n).2.1 (njS z j) ch ((asF N z T n).2.2 j m g).1 d ((asF N z T n).2.2 j m g).2 := by
  rw [asF]
  dsimp only
  rw [if_neg (by omega), Int.toNat_natCast, if_neg h]
/-- what the class keeps of it -/
def AzC (E B : Nat → Nat) (σ : CsC) (z : ZS) (g : GzA) : Prop := (∀ j, j < snM z → fLC σ (B j) 285 = g.1 j ∧ fLC σ (B j) 286 = g.2.1 j ∧ fLC σ (B j) 287 = g.2.2.1 j ∧ fLC σ (B j) 288 = g.2.2.2.1 j) ∧ WzC E σ g.2.2.2.2
theorem pLx2 {σ τ : CsC} {a b j k : Nat} {v : Int64} (e : pLC σ a k v = τ) (h : j ≠ k) : fLC τ b j = fLC σ b j := by rw [← e]; exact u2C_nk h
theorem WzC.pL {E : Nat → Nat} {σ τ : CsC} {w : WzS} {a k : Nat} {v : Int64} (h : WzC E σ w) (e : pLC σ a k v = τ) (h1 : 91 ≠ k) (h2 : 92 ≠ k) : WzC E τ w := by
  have t := (pLx2 e h1 (b := E 4)).trans h.1.1
  have f := (pLx2 e h2 (b := E 4)).trans h.1.2.1
  rw [← e] at t f ⊢
  exact ⟨⟨t, f, h.1.2.2⟩, h.2.1, h.2.2.1, h.2.2.2⟩
theorem AzC.w {E B : Nat → Nat} {σ τ : CsC} {z : ZS} {g : GzA} {w : WzS} (h : AzC E B σ z g) (f : FrE [91, 92, 94, 217, 218, 901] σ τ) (hl : ∀ j, j < snM z → B j < cnC σ) (hw : WzC E τ w) : AzC E B τ z (gaW w g) := ⟨fun k hk => by
  have q := (f.2 rfl (B k) (hl k hk)).1
  rw [(q 285 rfl).2.1, (q 286 rfl).2.1, (q 287 rfl).2.1, (q 288 rfl).2.1]
  exact h.1 k hk, hw⟩
theorem AzC.we {E B : Nat → Nat} {σ τ : CsC} {z : ZS} {g : GzA} (h : AzC E B σ z g) (w : WeC σ τ) : AzC E B τ z g := ⟨fun k hk => by rw [we_l w]; exact h.1 k hk, h.2.we w⟩
theorem pLx {σ τ : CsC} {a b j k : Nat} {v : Int64} (e : pLC σ a k v = τ) (h : j ≠ k) : fLC τ b j = fLC σ b j := by rw [← e]; exact u2C_nk h
theorem AzC.b {E B : Nat → Nat} {σ τ : CsC} {z : ZS} {g : GzA} {j : Nat} {v : Int64} (h : AzC E B σ z g) (hB : BiC B z) (hj : j < snM z) (e : pLC σ (B j) 285 v = τ) : AzC E B τ z (gaB j v g) := by
  refine ⟨fun k hk => ⟨?_, (pLx e (by decide)).trans (h.1 k hk).2.1, (pLx e (by decide)).trans (h.1 k hk).2.2.1, (pLx e (by decide)).trans (h.1 k hk).2.2.2⟩, h.2.pL e (by decide) (by decide)⟩
  rw [← e]
  show u2C (fLC σ) (B j) 285 v (B k) 285 = (if k = j then v else g.1 k)
  by_cases c : k = j
  · rw [if_pos c, c, u2C_eq]
  · rw [if_neg c, u2C_na (fun q => c (hB k j hk hj q))]; exact (h.1 k hk).1
theorem AzC.h {E B : Nat → Nat} {σ τ : CsC} {z : ZS} {g : GzA} {j : Nat} {v : Int64} (h : AzC E B σ z g) (hB : BiC B z) (hj : j < snM z) (e : pLC σ (B j) 286 v = τ) : AzC E B τ z (gaH j v g) := by
  refine ⟨fun k hk => ⟨(pLx e (by decide)).trans (h.1 k hk).1, ?_, (pLx e (by decide)).trans (h.1 k hk).2.2.1, (pLx e (by decide)).trans (h.1 k hk).2.2.2⟩, h.2.pL e (by decide) (by decide)⟩
  rw [← e]
  show u2C (fLC σ) (B j) 286 v (B k) 286 = (if k = j then v else g.2.1 k)
  by_cases c : k = j
  · rw [if_pos c, c, u2C_eq]
  · rw [if_neg c, u2C_na (fun q => c (hB k j hk hj q))]; exact (h.1 k hk).2.1
theorem AzC.k {E B : Nat → Nat} {σ τ : CsC} {z : ZS} {g : GzA} {j : Nat} {v : Int64} (h : AzC E B σ z g) (hB : BiC B z) (hj : j < snM z) (e : pLC σ (B j) 287 v = τ) : AzC E B τ z (gaK j v g) := by
  refine ⟨fun k hk => ⟨(pLx e (by decide)).trans (h.1 k hk).1, (pLx e (by decide)).trans (h.1 k hk).2.1, ?_, (pLx e (by decide)).trans (h.1 k hk).2.2.2⟩, h.2.pL e (by decide) (by decide)⟩
  rw [← e]
  show u2C (fLC σ) (B j) 287 v (B k) 287 = (if k = j then v else g.2.2.1 k)
  by_cases c : k = j
  · rw [if_pos c, c, u2C_eq]
  · rw [if_neg c, u2C_na (fun q => c (hB k j hk hj q))]; exact (h.1 k hk).2.2.1
theorem AzC.c {E B : Nat → Nat} {σ τ : CsC} {z : ZS} {g : GzA} {j : Nat} {v : Int64} (h : AzC E B σ z g) (hB : BiC B z) (hj : j < snM z) (e : pLC σ (B j) 288 v = τ) : AzC E B τ z (gaC j v g) := by
  refine ⟨fun k hk => ⟨(pLx e (by decide)).trans (h.1 k hk).1, (pLx e (by decide)).trans (h.1 k hk).2.1, (pLx e (by decide)).trans (h.1 k hk).2.2.1, ?_⟩, h.2.pL e (by decide) (by decide)⟩
  rw [← e]
  show u2C (fLC σ) (B j) 288 v (B k) 288 = (if k = j then v else g.2.2.2.1 k)
  by_cases c : k = j
  · rw [if_pos c, c, u2C_eq]
  · rw [if_neg c, u2C_na (fun q => c (hB k j hk hj q))]; exact (h.1 k hk).2.2.2
