/-! REACHED, purely, as the class goes -/
def bZI (b : Bool) : Int := if b = true then 1 else 0
theorem bZI_t {b : Bool} (h : ¬ bZI b = 0) : b = true := by
  cases b with
  | true => rfl
  | false => exact absurd rfl h
theorem bZI_f {b : Bool} (h : ¬ bZI b = 1) : b = false := by
  cases b with
  | false => rfl
  | true => exact absurd rfl h
theorem bZI_01 (b : Bool) : bZI b = 0 ∨ bZI b = 1 := by
  cases b with
  | false => exact Or.inl rfl
  | true => exact Or.inr rfl
/-- ends, broken, continued, whether an ERROR is told -/
abbrev RR : Type := (Nat → Bool) × (Nat → Bool) × (Nat → Bool) × Bool
def rrE (j : Nat) (b : Bool) (r : RR) : RR := (fun k => if k = j then b else r.1 k, r.2)
def rrB (j : Nat) (r : RR) : RR := (r.1, fun k => if k = j then true else r.2.1 k, r.2.2)
def rrC (j : Nat) (r : RR) : RR := (r.1, r.2.1, fun k => if k = j then true else r.2.2.1 k, r.2.2.2)
def rrX (r : RR) : RR := (r.1, r.2.1, r.2.2.1, true)
def lvS (z : ZS) (j : Nat) : Int := (reS z j).1.2.2.1
/-- whether what leaves it has to go through a finally -/
def hfA (z : ZS) (t : Nat) : Bool := decide (kjS z t = 92) && decide (0 ≤ paS z t) && decide (0 ≤ gjS z (paS z t).toNat) && !decide (gjS z (paS z t).toNat = (t : Int))
/-- whether a jump gets from t to where it leads: no finally on its way that does not end -/
def mtF (z : ZS) (en : Nat → Bool) (tg : Int) : Nat → Int → Bool
  | 0, _ => true
  | k + 1, t => if t < 0 then true else if t = tg then true else if (hfA z t.toNat && !(en (gjS z (paS z t.toNat).toNat).toNat)) = true then false else mtF z en tg k (paS z t.toNat)
def mkR (N : Int → Int) (z : ZS) (j : Nat) (r : RR) : RR := if mtF z r.1 (tjT N z j) (snM z) (j : Int) = false then r else if tjT N z j < 0 then r else if kjS z j = 64 then rrB (tjT N z j).toNat r else rrC (tjT N z j).toNat r
def alwT (z : ZS) (T : TbT) (j : Nat) (v : Int) : Bool := if xjS z j < 0 then decide (v = 1) else decide (¬ (T.1 (xjS z j).toNat).2.1 = 0) && decide ((T.1 (xjS z j).toNat).2.2.1 = (Int32.ofInt v).toInt64)
/-- rows, a switch's rows, S's -/
abbrev RcT : Type := (Int → Bool → RR → Bool × RR) × (Int → Bool → Bool → RR → Bool × Bool × RR) × (Nat → Bool → RR → Bool × RR)
/-- the row of a body or block -/
def rwR (F : RcT) (z : ZS) (j : Nat) (r : RR) : Bool × RR := (fun (q : Bool × RR) => (q.1, rrE j q.1 q.2)) (F.1 (bjS z j) true r)
def bdR (F : RcT) (z : ZS) (j : Nat) (a : Bool) (r : RR) : Bool × RR := if bjS z j < 0 then (false, r) else F.2.2 (bjS z j).toNat a r
def ifR (F : RcT) (z : ZS) (j : Nat) (r : RR) : Bool × RR := (fun (q : Bool × RR) => if ojS z j < 0 then (true, q.2) else (fun (p : Bool × RR) => (p.1 || q.1, p.2)) (F.2.2 (ojS z j).toNat true q.2)) (bdR F z j true r)
def laR (F : RcT) (z : ZS) (j : Nat) (r : RR) : Bool × RR := (fun (q : Bool × RR) => (q.1 || q.2.2.1 j, q.2)) (bdR F z j true r)
def whR (F : RcT) (z : ZS) (T : TbT) (j : Nat) (r : RR) : Bool × RR := (fun (q : Bool × RR) => (!(alwT z T j 1) || q.2.2.1 j, q.2)) (bdR F z j (!(alwT z T j 0)) r)
def doR (F : RcT) (z : ZS) (T : TbT) (j : Nat) (r : RR) : Bool × RR := (fun (q : Bool × RR) => (((q.1 || q.2.2.2.1 j) && !(alwT z T j 1)) || q.2.2.1 j, q.2)) (bdR F z j true r)
def swR (F : RcT) (z : ZS) (j : Nat) (r : RR) : Bool × RR := (fun (q : Bool × Bool × RR) => ((q.1 || !q.2.1) || q.2.2.2.1 j, q.2.2)) (F.2.1 (bjS z j) false false r)
def tyR (F : RcT) (z : ZS) (j : Nat) (r : RR) : Bool × RR :=
  (fun (a : Bool × RR) => (fun (b : Bool × RR) => (fun (c : Bool × RR) => (c.1 && a.1, c.2)) (if ojS z j < 0 then b else (fun (q : Bool × RR) => (b.1 || q.1, q.2)) (rwR F z (ojS z j).toNat b.2)))
    (if bjS z j < 0 then (false, a.2) else rwR F z (bjS z j).toNat a.2)) (if gjS z j < 0 then (true, r) else rwR F z (gjS z j).toNat r)
/-- inside of an S -/
def inR (F : RcT) (N : Int → Int) (z : ZS) (T : TbT) (j : Nat) (r : RR) : Bool × RR :=
  if kjS z j = 2 then rwR F z j r
  else if kjS z j = 6 then laR F z j r
  else if kjS z j = 56 then ifR F z j r
  else if kjS z j = 58 ∨ kjS z j = 60 then whR F z T j r
  else if kjS z j = 59 then doR F z T j r
  else if kjS z j = 61 then swR F z j r
  else if kjS z j = 68 then tyR F z j r
  else if kjS z j = 64 ∨ kjS z j = 65 then (false, mkR N z j r)
  else (!(decide (kjS z j = 66)) && !(decide (kjS z j = 67)), r)
theorem in_b {F : RcT} {N : Int → Int} {z : ZS} {T : TbT} {j : Nat} {r : RR} (h : kjS z j = 2) : inR F N z T j r = rwR F z j r := by unfold inR; rw [if_pos h]
theorem in_l {F : RcT} {N : Int → Int} {z : ZS} {T : TbT} {j : Nat} {r : RR} (h : kjS z j = 6) : inR F N z T j r = laR F z j r := by unfold inR; rw [if_neg (by omega), if_pos h]
theorem in_i {F : RcT} {N : Int → Int} {z : ZS} {T : TbT} {j : Nat} {r : RR} (h : kjS z j = 56) : inR F N z T j r = ifR F z j r := by unfold inR; rw [if_neg (by omega), if_neg (by omega), if_pos h]
theorem in_w {F : RcT} {N : Int → Int} {z : ZS} {T : TbT} {j : Nat} {r : RR} (h : kjS z j = 58 ∨ kjS z j = 60) : inR F N z T j r = whR F z T j r := by unfold inR; rw [if_neg (by omega), if_neg (by omega), if_neg (by omega), if_pos h]
theorem in_d {F : RcT} {N : Int → Int} {z : ZS} {T : TbT} {j : Nat} {r : RR} (h : kjS z j = 59) : inR F N z T j r = doR F z T j r := by unfold inR; rw [if_neg (by omega), if_neg (by omega), if_neg (by omega), if_neg (by omega), if_pos h]
theorem in_s {F : RcT} {N : Int → Int} {z : ZS} {T : TbT} {j : Nat} {r : RR} (h : kjS z j = 61) : inR F N z T j r = swR F z j r := by unfold inR; rw [if_neg (by omega), if_neg (by omega), if_neg (by omega), if_neg (by omega), if_neg (by omega), if_pos h]
theorem in_t {F : RcT} {N : Int → Int} {z : ZS} {T : TbT} {j : Nat} {r : RR} (h : kjS z j = 68) : inR F N z T j r = tyR F z j r := by unfold inR; rw [if_neg (by omega), if_neg (by omega), if_neg (by omega), if_neg (by omega), if_neg (by omega), if_neg (by omega), if_pos h]
theorem in_j {F : RcT} {N : Int → Int} {z : ZS} {T : TbT} {j : Nat} {r : RR} (h : kjS z j = 64 ∨ kjS z j = 65) : inR F N z T j r = (false, mkR N z j r) := by unfold inR; rw [if_neg (by omega), if_neg (by omega), if_neg (by omega), if_neg (by omega), if_neg (by omega), if_neg (by omega), if_neg (by omega), if_pos h]
theorem in_o {F : RcT} {N : Int → Int} {z : ZS} {T : TbT} {j : Nat} {r : RR} (h : ¬ (kjS z j = 2 ∨ kjS z j = 6 ∨ kjS z j = 56 ∨ (kjS z j = 58 ∨ kjS z j = 60) ∨ kjS z j = 59 ∨ kjS z j = 61 ∨ kjS z j = 68 ∨ kjS z j = 64 ∨ kjS z j = 65)) : inR F N z T j r = (!(decide (kjS z j = 66)) && !(decide (kjS z j = 67)), r) := by unfold inR; rw [if_neg (by omega), if_neg (by omega), if_neg (by omega), if_neg (by omega), if_neg (by omega), if_neg (by omega), if_neg (by omega), if_neg (by omega)]
def stRc (F : RcT) (N : Int → Int) (z : ZS) (T : TbT) (j : Nat) (a : Bool) (r : RR) : Bool × RR :=
  if a = true then (if lvS z j ≤ 20 then (fun (q : Bool × RR) => (q.1, rrE j q.1 q.2)) (inR F N z T j r) else (false, rrE j false r)) else (false, rrX r)
def rcF (N : Int → Int) (z : ZS) (T : TbT) : Nat → RcT
  | 0 => (fun _ a r => (a, r), fun _ a d r => (a, d, r), fun _ a r => (a, r))
  | n + 1 => (fun x a r => if x < 0 then (a, r) else (fun (q : Bool × RR) => (rcF N z T n).1 (njS z x.toNat) q.1 q.2) ((rcF N z T n).2.2 x.toNat a r),
      fun x a d r => if x < 0 then (a, d, r) else if kjS z x.toNat = 62 ∨ kjS z x.toNat = 63 then (rcF N z T n).2.1 (njS z x.toNat) true (d || decide (kjS z x.toNat = 63)) r else (fun (q : Bool × RR) => (rcF N z T n).2.1 (njS z x.toNat) q.1 d q.2) ((rcF N z T n).2.2 x.toNat a r),
      stRc (rcF N z T n) N z T)
theorem rc_st {N : Int → Int} {z : ZS} {T : TbT} {n : Nat} : (rcF N z T (n + 1)).2.2 = stRc (rcF N z T n) N z T := rfl
theorem rc_r0 {N : Int → Int} {z : ZS} {T : TbT} {n : Nat} {x : Int} {a : Bool} {r : RR} (h : x < 0) : (rcF N z T n).1 x a r = (a, r) := by
  cases n with
  | zero => rfl
  | succ n => exact if_pos h
theorem rc_r1 {N : Int → Int} {z : ZS} {T : TbT} {n j : Nat} {a : Bool} {r : RR} : (rcF N z T (n + 1)).1 (j : Int) a r = (rcF N z T n).1 (njS z j) ((rcF N z T n).2.2 j a r).1 ((rcF N z T n).2.2 j a r).2 := by
  rw [rcF]
  dsimp only
  rw [if_neg (by omega), Int.toNat_natCast]
theorem rc_s0 {N : Int → Int} {z : ZS} {T : TbT} {n : Nat} {x : Int} {a d : Bool} {r : RR} (h : x < 0) : (rcF N z T n).2.1 x a d r = (a, d, r) := by
  cases n with
  | zero => rfl
  | succ n => exact if_pos h
theorem rc_s1 {N : Int → Int} {z : ZS} {T : TbT} {n j : Nat} {a d : Bool} {r : RR} (h : kjS z j = 62 ∨ kjS z j = 63) : (rcF N z T (n + 1)).2.1 (j : Int) a d r = (rcF N z T n).2.1 (njS z j) true (d || decide (kjS z j = 63)) r := by
  rw [rcF]
  dsimp only
  rw [if_neg (by omega), Int.toNat_natCast, if_pos h]
theorem rc_s2 {N : Int → Int} {z : ZS} {T : TbT} {n j : Nat} {a d : Bool} {r : RR} (h : ¬ (kjS z j = 62 ∨ kjS z j = 63)) : (rcF N z T (n + 1)).2.1 (j : Int) a d r = (rcF N z T n).2.1 (njS z j) ((rcF N z T n).2.2 j a r).1 d ((rcF N z T n).2.2 j a r).2 := by
  rw [rcF]
  dsimp only
  rw [if_neg (by omega), Int.toNat_natCast, if_neg h]
/-- links go up -/
def UpS (z : ZS) : Prop := ∀ j, j < snM z → (njS z j < 0 ∨ (j : Int) < njS z j) ∧ (bjS z j < 0 ∨ (j : Int) < bjS z j) ∧ (ojS z j < 0 ∨ (j : Int) < ojS z j) ∧ (gjS z j < 0 ∨ (j : Int) < gjS z j)
/-- what the class keeps of it -/
def RhC (E B : Nat → Nat) (σ : CsC) (z : ZS) (r : RR) : Prop := (∀ j, j < snM z → (fIC σ (B j) 282).toInt = bZI (r.1 j) ∧ (fIC σ (B j) 283).toInt = bZI (r.2.1 j) ∧ (fIC σ (B j) 284).toInt = bZI (r.2.2.1 j)) ∧ (erC E σ ↔ r.2.2.2 = true)
def PfC (E : Nat → Nat) (σ : CsC) : Prop := fRC σ (E 4) 90 = some (E 1) ∧ E 4 < cnC σ
theorem PfC.fr {E : Nat → Nat} {M : List Nat} {σ τ : CsC} (h : PfC E σ) (f : FrE M σ τ) (hM : [999, 90].all (fun k => !M.elem k) = true) : PfC E τ := ⟨by rw [((f.2 (nel hM rfl) (E 4) h.2).1 90 (nel hM rfl)).2.2]; exact h.1, Nat.lt_of_lt_of_le h.2 f.1⟩
def TgC (N : Int → Int) (B : Nat → Nat) (σ : CsC) (z : ZS) : Prop := ∀ j, j < snM z → (kjS z j = 64 ∨ kjS z j = 65) → fRC σ (B j) 281 = opA B (tjT N z j) ∧ B j < cnC σ ∧ tjT N z j < (snM z : Int)
theorem TgC.fr {N : Int → Int} {B : Nat → Nat} {M : List Nat} {σ τ : CsC} {z : ZS} (h : TgC N B σ z) (f : FrE M σ τ) (hM : [999, 281].all (fun k => !M.elem k) = true) : TgC N B τ z := fun j hj hk => ⟨by rw [((f.2 (nel hM rfl) (B j) (h j hj hk).2.1).1 281 (nel hM rfl)).2.2]; exact (h j hj hk).1, Nat.lt_of_lt_of_le (h j hj hk).2.1 f.1, (h j hj hk).2.2⟩
theorem RhC.e {E B : Nat → Nat} {σ τ : CsC} {z : ZS} {r : RR} {j : Nat} {v : Int32} {b : Bool} (h : RhC E B σ z r) (hB : BiC B z) (hj : j < snM z) (e : pIC σ (B j) 282 v = τ) (hv : v.toInt = bZI b) : RhC E B τ z (rrE j b r) := by
  rw [← e]
  refine ⟨fun k hk => ⟨?_, ?_, ?_⟩, ?_⟩
  · show (u2C (fIC σ) (B j) 282 v (B k) 282).toInt = bZI (if k = j then b else r.1 k)
    by_cases c : k = j
    · rw [if_pos c, c, u2C_eq]; exact hv
    · rw [if_neg c, u2C_na (fun q => c (hB k j hk hj q))]; exact (h.1 k hk).1
  · show (u2C (fIC σ) (B j) 282 v (B k) 283).toInt = _
    rw [u2C_nk (by decide)]; exact (h.1 k hk).2.1
  · show (u2C (fIC σ) (B j) 282 v (B k) 284).toInt = _
    rw [u2C_nk (by decide)]; exact (h.1 k hk).2.2
  · show (¬ u2C (fIC σ) (B j) 282 v (E 1) 217 = 0) ↔ _
    rw [u2C_nk (by decide)]; exact h.2
theorem RhC.b {E B : Nat → Nat} {σ τ : CsC} {z : ZS} {r : RR} {j : Nat} {v : Int32} (h : RhC E B σ z r) (hB : BiC B z) (hj : j < snM z) (e : pIC σ (B j) 283 v = τ) (hv : v.toInt = 1) : RhC E B τ z (rrB j r) := by
  rw [← e]
  refine ⟨fun k hk => ⟨?_, ?_, ?_⟩, ?_⟩
  · show (u2C (fIC σ) (B j) 283 v (B k) 282).toInt = _
    rw [u2C_nk (by decide)]; exact (h.1 k hk).1
  · show (u2C (fIC σ) (B j) 283 v (B k) 283).toInt = bZI (if k = j then true else r.2.1 k)
    by_cases c : k = j
    · rw [if_pos c, c, u2C_eq]; exact hv
    · rw [if_neg c, u2C_na (fun q => c (hB k j hk hj q))]; exact (h.1 k hk).2.1
  · show (u2C (fIC σ) (B j) 283 v (B k) 284).toInt = _
    rw [u2C_nk (by decide)]; exact (h.1 k hk).2.2
  · show (¬ u2C (fIC σ) (B j) 283 v (E 1) 217 = 0) ↔ _
    rw [u2C_nk (by decide)]; exact h.2
theorem RhC.c {E B : Nat → Nat} {σ τ : CsC} {z : ZS} {r : RR} {j : Nat} {v : Int32} (h : RhC E B σ z r) (hB : BiC B z) (hj : j < snM z) (e : pIC σ (B j) 284 v = τ) (hv : v.toInt = 1) : RhC E B τ z (rrC j r) := by
  rw [← e]
  refine ⟨fun k hk => ⟨?_, ?_, ?_⟩, ?_⟩
  · show (u2C (fIC σ) (B j) 284 v (B k) 282).toInt = _
    rw [u2C_nk (by decide)]; exact (h.1 k hk).1
  · show (u2C (fIC σ) (B j) 284 v (B k) 283).toInt = _
    rw [u2C_nk (by decide)]; exact (h.1 k hk).2.1
  · show (u2C (fIC σ) (B j) 284 v (B k) 284).toInt = bZI (if k = j then true else r.2.2.1 k)
    by_cases c : k = j
    · rw [if_pos c, c, u2C_eq]; exact hv
    · rw [if_neg c, u2C_na (fun q => c (hB k j hk hj q))]; exact (h.1 k hk).2.2
  · show (¬ u2C (fIC σ) (B j) 284 v (E 1) 217 = 0) ↔ _
    rw [u2C_nk (by decide)]; exact h.2
theorem RhC.x {E B : Nat → Nat} {σ τ : CsC} {z : ZS} {r : RR} (h : RhC E B σ z r) (f : FrE [217, 218] σ τ) (hl : ∀ j, j < snM z → B j < cnC σ) (hb : erC E τ) : RhC E B τ z (rrX r) := ⟨fun k hk => by
  have q := (f.2 rfl (B k) (hl k hk)).1
  rw [(q 282 rfl).1, (q 283 rfl).1, (q 284 rfl).1]
  exact h.1 k hk, iff_of_true hb rfl⟩
theorem RhC.we {E B : Nat → Nat} {σ τ : CsC} {z : ZS} {r : RR} (h : RhC E B σ z r) (w : WeC σ τ) : RhC E B τ z r := ⟨fun k hk => by rw [we_i w]; exact h.1 k hk, (er_we w).trans h.2⟩
theorem FrE.pI2 {M : List Nat} {σ τ υ : CsC} {a k : Nat} {v : Int32} (h : FrE M σ τ) (hk : M.elem k = true) (e : pIC τ a k v = υ) : FrE M σ υ := by rw [← e]; exact h.pI hk
theorem mt_neg {z : ZS} {en : Nat → Bool} {tg : Int} {k : Nat} {x : Int} (h : x < 0) : mtF z en tg k x = true := by
  cases k with
  | zero => rfl
  | succ k => rw [mtF, if_pos h]
theorem mt_eq {z : ZS} {en : Nat → Bool} {tg : Int} {k : Nat} {x : Int} (h : x = tg) : mtF z en tg k x = true := by
  cases k with
  | zero => rfl
  | succ k =>
    rw [mtF]
    by_cases c : x < 0
    · rw [if_pos c]
    · rw [if_neg c, if_pos h]
theorem mt_s {z : ZS} {en : Nat → Bool} {tg : Int} {k j : Nat} (h : ¬ (j : Int) = tg) : mtF z en tg (k + 1) (j : Int) = if (hfA z j && !(en (gjS z (paS z j).toNat).toNat)) = true then false else mtF z en tg k (paS z j) := by
  rw [mtF, if_neg (by omega), if_neg h, Int.toNat_natCast]
