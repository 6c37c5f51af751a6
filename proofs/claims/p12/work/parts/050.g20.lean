/-! cutting a text into tokens, as a function -/
/-- bytes (0 .. 255), length -/
abbrev TxY : Type := (Nat → Int) × Int
def btY (x : TxY) (i : Int) : Int := if 0 ≤ i ∧ i < x.2 then x.1 i.toNat else -1
def okY (x : TxY) : Prop := (∀ j, 0 ≤ x.1 j ∧ x.1 j ≤ 255) ∧ 0 ≤ x.2 ∧ x.2 ≤ 2500
/-- behind blanks and remarks; r = 1: in a remark -/
def bbY (x : TxY) : Nat → Int → Int → Int
  | 0, _, _ => x.2
  | f + 1, i, r => if btY x i = 10 then bbY x f (i + 1) 0
       else if r = 0 ∧ btY x i = 47 ∧ btY x (i + 1) = 47 then bbY x f (i + 1) 1
       else if r = 0 ∧ ¬ btY x i = 32 ∧ ¬ btY x i = 9 ∧ ¬ btY x i = 13 then i
       else bbY x f (i + 1) r
def skY (x : TxY) (i : Int) : Int := bbY x (x.2 - i).toNat i 0
abbrev isLY (c : Int) : Prop := (97 ≤ c ∧ c ≤ 122) ∨ (65 ≤ c ∧ c ≤ 90)
abbrev isDY (c : Int) : Prop := 48 ≤ c ∧ c ≤ 57
/-- a NAME's end and its bytes, newest first -/
def nmY (x : TxY) : Nat → Int → List Int → Int × List Int
  | 0, e, l => (e, l)
  | f + 1, e, l => if isLY (btY x e) ∨ isDY (btY x e) then nmY x f (e + 1) (btY x e :: l) else (e, l)
/-- the end of a NUMBER's digits -/
def ndY (x : TxY) : Nat → Int → Int
  | 0, e => e
  | f + 1, e => if isDY (btY x e) then ndY x f (e + 1) else e
def wcY (l : List Int) : Int := if l = [110, 97, 101, 108, 111, 111, 98] then 50 else if l = [101, 116, 121, 98] then 51 else if l = [114, 97, 104, 99] then 52 else if l = [116, 110, 105] then 53 else if l = [103, 110, 111, 108] then 54 else if l = [100, 105, 111, 118] then 55 else if l = [102, 105] then 56 else if l = [101, 115, 108, 101] then 57 else if l = [101, 108, 105, 104, 119] then 58 else if l = [111, 100] then 59 else if l = [114, 111, 102] then 60 else if l = [104, 99, 116, 105, 119, 115] then 61 else if l = [101, 115, 97, 99] then 62 else if l = [116, 108, 117, 97, 102, 101, 100] then 63 else if l = [107, 97, 101, 114, 98] then 64 else if l = [101, 117, 110, 105, 116, 110, 111, 99] then 65 else if l = [110, 114, 117, 116, 101, 114] then 66 else if l = [119, 111, 114, 104, 116] then 67 else if l = [121, 114, 116] then 68 else if l = [104, 99, 116, 97, 99] then 69 else if l = [121, 108, 108, 97, 110, 105, 102] then 70 else if l = [108, 97, 110, 105, 102] then 71 else if l = [101, 117, 114, 116] then 72 else if l = [101, 115, 108, 97, 102] then 73 else 80
def sg1Y (b : Int) : Int × Int := if b = 40 then (1, 0) else if b = 41 then (1, 1) else if b = 123 then (1, 2) else if b = 125 then (1, 3) else if b = 59 then (1, 4) else if b = 44 then (1, 5) else if b = 58 then (1, 6) else if b = 63 then (1, 7) else if b = 61 then (1, 8) else if b = 124 then (1, 22) else if b = 94 then (1, 23) else if b = 38 then (1, 24) else if b = 60 then (1, 27) else if b = 62 then (1, 29) else if b = 43 then (1, 34) else if b = 45 then (1, 35) else if b = 42 then (1, 36) else if b = 47 then (1, 37) else if b = 37 then (1, 38) else if b = 33 then (1, 39) else if b = 126 then (1, 40) else (0, 85)
def sgnY (b c d e : Int) : Int × Int :=
  if b = 62 ∧ c = 62 ∧ d = 62 then (if e = 61 then (4, 19) else (3, 33))
  else if b = 62 ∧ c = 62 then (if d = 61 then (3, 18) else (2, 32))
  else if b = 60 ∧ c = 60 then (if d = 61 then (3, 17) else (2, 31))
  else if b = 38 ∧ c = 38 then (2, 21)
  else if b = 124 ∧ c = 124 then (2, 20)
  else if b = 43 ∧ c = 43 then (2, 41)
  else if b = 45 ∧ c = 45 then (2, 42)
  else if c = 61 ∧ b = 61 then (2, 25)
  else if c = 61 ∧ b = 33 then (2, 26)
  else if c = 61 ∧ b = 60 then (2, 28)
  else if c = 61 ∧ b = 62 then (2, 30)
  else if c = 61 ∧ b = 43 then (2, 9)
  else if c = 61 ∧ b = 45 then (2, 10)
  else if c = 61 ∧ b = 42 then (2, 11)
  else if c = 61 ∧ b = 47 then (2, 12)
  else if c = 61 ∧ b = 37 then (2, 13)
  else if c = 61 ∧ b = 38 then (2, 14)
  else if c = 61 ∧ b = 124 then (2, 15)
  else if c = 61 ∧ b = 94 then (2, 16)
  else sg1Y b
/-- how many bytes a token has (0: none, or it is not whole), its code -/
def oneY (x : TxY) (i : Int) : Int × Int :=
  if isLY (btY x i) then (if 10 < (nmY x (x.2 - i).toNat i []).1 - i then (0, 85) else ((nmY x (x.2 - i).toNat i []).1 - i, wcY (nmY x (x.2 - i).toNat i []).2))
  else if isDY (btY x i) then (if 19 < ndY x (x.2 - i).toNat i - i then (0, 85) else if btY x (ndY x (x.2 - i).toNat i) = 76 then (ndY x (x.2 - i).toNat i + 1 - i, 82) else (ndY x (x.2 - i).toNat i - i, 81))
  else if btY x i = 39 then (if 32 ≤ btY x (i + 1) ∧ btY x (i + 1) ≤ 126 ∧ ¬ btY x (i + 1) = 39 ∧ ¬ btY x (i + 1) = 92 ∧ btY x (i + 2) = 39 then (3, 83) else (0, 85))
  else sgnY (btY x i) (btY x (i + 1)) (btY x (i + 2)) (btY x (i + 3))
/-- where the k-th token begins -/
def atY (x : TxY) : Nat → Int
  | 0 => skY x 0
  | k + 1 => skY x (atY x k + (oneY x (atY x k)).1)
theorem bt_in {x : TxY} {i : Int} (h0 : 0 ≤ i) (h : i < x.2) : btY x i = x.1 i.toNat := by unfold btY; rw [if_pos ⟨h0, h⟩]
theorem bt_out {x : TxY} {i : Int} (h : ¬ i < x.2) : btY x i = -1 := by unfold btY; rw [if_neg (fun q => h q.2)]
theorem fu_s {x : TxY} {i : Int} (h : i < x.2) : (x.2 - i).toNat = (x.2 - (i + 1)).toNat + 1 := by omega
theorem fu_z {x : TxY} {i : Int} (h : ¬ i < x.2) : (x.2 - i).toNat = 0 := by omega
theorem bb_le {x : TxY} : ∀ (f : Nat) (i r : Int), i + f = x.2 → i ≤ bbY x f i r ∧ bbY x f i r ≤ x.2 := by
  intro f
  induction f with
  | zero => intro i r h; exact ⟨by show i ≤ x.2; omega, Int.le_refl _⟩
  | succ f ih =>
    intro i r h
    rw [bbY]
    split
    · have := ih (i + 1) 0 (by omega); omega
    split
    · have := ih (i + 1) 1 (by omega); omega
    split
    · omega
    · have := ih (i + 1) r (by omega); omega
theorem sk_le {x : TxY} {i : Int} (h : i ≤ x.2) : i ≤ skY x i ∧ skY x i ≤ x.2 := bb_le _ _ _ (by omega)
theorem nm_le {x : TxY} : ∀ (f : Nat) (e : Int) (l : List Int), e + f = x.2 → e ≤ (nmY x f e l).1 ∧ (nmY x f e l).1 ≤ x.2 ∧ (nmY x f e l).1 - e = (nmY x f e l).2.length - l.length := by
  intro f
  induction f with
  | zero => intro e l h; refine ⟨Int.le_refl _, by show e ≤ x.2; omega, by show e - e = (l.length : Int) - l.length; omega⟩
  | succ f ih =>
    intro e l h
    rw [nmY]
    split
    · have := ih (e + 1) (btY x e :: l) (by omega)
      rw [List.length_cons] at this
      omega
    · dsimp only
      omega
theorem nd_le {x : TxY} : ∀ (f : Nat) (e : Int), e + f = x.2 → e ≤ ndY x f e ∧ ndY x f e ≤ x.2 := by
  intro f
  induction f with
  | zero => intro e h; exact ⟨Int.le_refl _, by show e ≤ x.2; omega⟩
  | succ f ih =>
    intro e h
    rw [ndY]
    split
    · have := ih (e + 1) (by omega); omega
    · omega
/-- a number by its digits, newest first -/
def vlY (B : Int) : List Int → Int
  | [] => 0
  | d :: l => B * vlY B l + d
theorem vl_pos {B : Int} (hB : 1 < B) : ∀ l : List Int, (∀ d ∈ l, 1 ≤ d ∧ d < B) → 0 ≤ vlY B l := by
  intro l
  induction l with
  | nil => exact fun _ => Int.le_refl _
  | cons d l ih =>
    intro h
    have a := ih (fun z hz => h z (List.mem_cons_of_mem _ hz))
    have b := h d List.mem_cons_self
    have c := Int.mul_nonneg (by omega : 0 ≤ B) a
    show 0 ≤ B * vlY B l + d
    omega
theorem vl_inj {B : Int} (hB : 1 < B) : ∀ l m : List Int, (∀ d ∈ l, 1 ≤ d ∧ d < B) → (∀ d ∈ m, 1 ≤ d ∧ d < B) → vlY B l = vlY B m → l = m := by
  intro l
  induction l with
  | nil =>
    intro m _ hm e
    cases m with
    | nil => rfl
    | cons d m =>
      exfalso
      have a := vl_pos hB m (fun z hz => hm z (List.mem_cons_of_mem _ hz))
      have b := hm d List.mem_cons_self
      have c := Int.mul_nonneg (by omega : 0 ≤ B) a
      have e : 0 = B * vlY B m + d := e
      omega
  | cons d l ih =>
    intro m hl hm e
    have al := vl_pos hB l (fun z hz => hl z (List.mem_cons_of_mem _ hz))
    have bl := hl d List.mem_cons_self
    cases m with
    | nil =>
      exfalso
      have c := Int.mul_nonneg (by omega : 0 ≤ B) al
      have e : B * vlY B l + d = 0 := e
      omega
    | cons d' m =>
      have bm := hm d' List.mem_cons_self
      have e : B * vlY B l + d = B * vlY B m + d' := e
      have q1 : d = d' := by
        have h1 : (B * vlY B l + d) % B = d := by rw [Int.add_comm, Int.add_mul_emod_self_left]; exact Int.emod_eq_of_lt (by omega) bl.2
        have h2 : (B * vlY B m + d') % B = d' := by rw [Int.add_comm, Int.add_mul_emod_self_left]; exact Int.emod_eq_of_lt (by omega) bm.2
        rw [← h1, ← h2, e]
      subst q1
      have q2 : vlY B l = vlY B m := Int.eq_of_mul_eq_mul_left (by omega : B ≠ 0) (by omega)
      rw [ih m (fun z hz => hl z (List.mem_cons_of_mem _ hz)) (fun z hz => hm z (List.mem_cons_of_mem _ hz)) q2]
