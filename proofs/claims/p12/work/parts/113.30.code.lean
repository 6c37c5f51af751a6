/-! the codes that the reference's reader lays: what stands on the pile of values ahead of each (its kinds: 0 a value, 1 a left side of && || that is open, 2 a ? that is open, 3 a : that is open, 4 the value of a variable taken for += and the like) -/
def nT (x : Int32) : Nat := x.toNatClampNeg
theorem nT_nI {n : Nat} (h : n < 2 ^ 31) : nT (nI n) = n := nI_clamp h
theorem nT_of {x : Int32} (h : 0 ≤ x) : ∃ n : Nat, n < 2 ^ 31 ∧ x = nI n ∧ nT x = n := by
  obtain ⟨j, h1, h2⟩ := nI_of (x := x) (Int32.not_lt.mpr h)
  exact ⟨j, h1, h2, by rw [h2]; exact nT_nI h1⟩
theorem nT_add {x : Int32} (h : 0 ≤ x) (h1 : x < 2147483647) : nT (x + 1) = nT x + 1 := by
  obtain ⟨n, h2, h3, h4⟩ := nT_of h
  rw [h4, h3, nI_1, nT_nI]
  have h5 := Int32.lt_iff_toInt_lt.mp h1
  rw [h3, nI_toInt h2] at h5
  have h6 : (2147483647 : Int32).toInt = 2147483647 := rfl
  omega
theorem nT_sub {x : Int32} (h : 0 < x) : nT x = nT (x - 1) + 1 := by
  have h0 : 0 ≤ x - 1 := by lia
  have h1 : x - 1 < 2147483647 := by lia
  rw [← nT_add h0 h1]
  congr 1
  lia
theorem nT_lt {x y : Int32} (h0 : 0 ≤ x) (h : x < y) : nT x < nT y := by
  obtain ⟨n, h2, h3, h4⟩ := nT_of h0
  obtain ⟨m, k2, k3, k4⟩ := nT_of (x := y) (by lia)
  rw [h4, k4]
  have := Int32.lt_iff_toInt_lt.mp h
  rw [h3, k3, nI_toInt h2, nI_toInt k2] at this
  omega
theorem nT_le {x y : Int32} (h0 : 0 ≤ x) (h : x ≤ y) : nT x ≤ nT y := by
  obtain ⟨n, h2, h3, h4⟩ := nT_of h0
  obtain ⟨m, k2, k3, k4⟩ := nT_of (x := y) (by lia)
  rw [h4, k4]
  have := Int32.le_iff_toInt_le.mp h
  rw [h3, k3, nI_toInt h2, nI_toInt k2] at this
  omega
def eSt (n : Nat) (a b : Int32) (s : List Nat) : Option (List Nat) := match n with
  | 1 => some (0 :: s)
  | 2 => some (0 :: s)
  | 3 => some (0 :: s)
  | 4 => some (0 :: s)
  | 5 => match s with
    | 0 :: r => some (0 :: r)
    | _ => none
  | 6 => match s with
    | 0 :: r => some (0 :: r)
    | _ => none
  | 7 => match s with
    | 0 :: 0 :: r => some (0 :: r)
    | _ => none
  | 8 => match s with
    | 0 :: r => some (1 :: r)
    | _ => none
  | 9 => match s with
    | 0 :: 1 :: r => some (0 :: r)
    | _ => none
  | 10 => match s with
    | 0 :: r => some (1 :: r)
    | _ => none
  | 11 => match s with
    | 0 :: 1 :: r => some (0 :: r)
    | _ => none
  | 12 => match s with
    | 0 :: r => some (2 :: r)
    | _ => none
  | 13 => match s with
    | 0 :: 2 :: r => some (3 :: r)
    | _ => none
  | 14 => match s with
    | 0 :: 3 :: r => some (0 :: r)
    | _ => none
  | 15 => match s with
    | 0 :: r => some (0 :: r)
    | _ => none
  | 16 => some (4 :: s)
  | 17 => if a = 61 then (match s with
    | 0 :: r => some (0 :: r)
    | _ => none) else (match s with
    | 0 :: 4 :: r => some (0 :: r)
    | _ => none)
  | 18 => if s.take (nT a) = List.replicate (nT a) 0 then some (0 :: s.drop (nT a)) else none
  | 21 => if s = [0] then some [] else none
  | 22 => if b = 1 then (if s = [0] then some [] else none) else if b = 0 ∨ b = 2 then (if s = [] then some [] else none) else none
  | 23 => if s = [0] then some [] else none
  | 27 => if s = [0] then some [] else none
  | 31 => if s = [0] then some [] else none
  | 37 => if s = [0] then some [] else none
  | 38 => if s = [0] then some [] else none
  | 49 => if s = [0] then some [] else none
  | 33 => if b = 0 then (if s = [] then some [] else none) else (if s = [0] then some [] else none)
  | 48 => if a = 1 then (if s = [0] then some [] else none) else if a = 0 then (if s = [] then some [] else none) else none
  | _ => if s = [] then some [] else none
def Es (o a b : Nat → Int32) : Nat → Option (List Nat)
  | 0 => some []
  | c + 1 => match Es o a b c with
    | some s => eSt (nT (o c)) (a c) (b c) s
    | none => none
theorem Es_congr {o a b o' a' b' : Nat → Int32} {n : Nat} (h : ∀ i, i < n → o' i = o i ∧ a' i = a i ∧ b' i = b i) : Es o' a' b' n = Es o a b n := by
  induction n with
  | zero => rfl
  | succ n ih =>
    obtain ⟨h1, h2, h3⟩ := h n (Nat.lt_succ_self n)
    unfold Es
    rw [ih (fun i hi => h i (Nat.lt_succ_of_lt hi)), h1, h2, h3]
theorem upd_ne {f : Nat → Int32} {k i : Nat} {x : Int32} (h : i ≠ k) : upd f k x i = f i := if_neg h
theorem upd_eq {f : Nat → Int32} {k : Nat} {x : Int32} : upd f k x k = x := if_pos rfl
/-- one code more -/
theorem Es_emit {o a b : Nat → Int32} {n : Nat} {x y z : Int32} {s s' : List Nat} (h : Es o a b n = some s) (hs : eSt (nT x) y z s = some s') : Es (upd o n x) (upd a n y) (upd b n z) (n + 1) = some s' := by
  unfold Es
  rw [Es_congr (o := o) (a := a) (b := b) (fun i hi => ⟨upd_ne (by omega), upd_ne (by omega), upd_ne (by omega)⟩), h, upd_eq, upd_eq, upd_eq]
  exact hs
/-- what the open operators of an exp leave on the pile -/
def oks (sort sign args : Int32) : List Nat := match nT sort with
  | 2 => if sign = 307 ∨ sign = 308 then [1] else [0]
  | 4 => List.replicate (nT args) 0
  | 5 => if sign = 61 then [] else [4]
  | 6 => [2]
  | 7 => [3]
  | _ => []
def Ok (s g a : Nat → Int32) : Nat → List Nat
  | 0 => []
  | i + 1 => oks (s i) (g i) (a i) ++ Ok s g a i
theorem Ok_congr {s g a s' g' a' : Nat → Int32} {n : Nat} (h : ∀ i, i < n → s' i = s i ∧ g' i = g i ∧ a' i = a i) : Ok s' g' a' n = Ok s g a n := by
  induction n with
  | zero => rfl
  | succ n ih =>
    obtain ⟨h1, h2, h3⟩ := h n (Nat.lt_succ_self n)
    unfold Ok
    rw [ih (fun i hi => h i (Nat.lt_succ_of_lt hi)), h1, h2, h3]
theorem Ok_push {s g a : Nat → Int32} {n : Nat} {x y z : Int32} : Ok (upd s n x) (upd g n y) (upd a n z) (n + 1) = oks x y z ++ Ok s g a n := by
  show oks (upd s n x n) (upd g n y n) (upd a n z n) ++ Ok (upd s n x) (upd g n y) (upd a n z) n = _
  rw [Ok_congr (s := s) (g := g) (a := a) (fun i hi => ⟨upd_ne (by omega), upd_ne (by omega), upd_ne (by omega)⟩), upd_eq, upd_eq, upd_eq]
/-- how many values the judge has of such a pile -/
def wk (k : Nat) : Nat := if k = 3 then 2 else if k = 4 then 0 else 1
def wl : List Nat → Nat
  | [] => 0
  | k :: r => wk k + wl r
theorem wl_app (x y : List Nat) : wl (x ++ y) = wl x + wl y := by
  induction x with
  | nil => simp [wl]
  | cons k r ih =>
    show wk k + wl (r ++ y) = wk k + wl r + wl y
    rw [ih, Nat.add_assoc]
theorem wl_rep (n : Nat) : wl (List.replicate n 0) = n := by
  induction n with
  | zero => rfl
  | succ n ih => rw [List.replicate_succ]; show wk 0 + wl (List.replicate n 0) = _; rw [ih]; simp [wk, Nat.add_comm]
/-- how deep the open operators are -/
def Od (s : Nat → Int32) : Nat → Nat
  | 0 => 0
  | i + 1 => (if s i = 2 then 0 else 1) + Od s i
theorem Od_congr {s s' : Nat → Int32} {n : Nat} (h : ∀ i, i < n → s' i = s i) : Od s' n = Od s n := by
  induction n with
  | zero => rfl
  | succ n ih =>
    unfold Od
    rw [ih (fun i hi => h i (Nat.lt_succ_of_lt hi)), h n (Nat.lt_succ_self n)]
theorem Od_push {s : Nat → Int32} {n : Nat} {x : Int32} : Od (upd s n x) (n + 1) = (if x = 2 then 0 else 1) + Od s n := by
  show (if upd s n x n = 2 then 0 else 1) + Od (upd s n x) n = _
  rw [Od_congr (s := s) (fun i hi => upd_ne (by omega)), upd_eq]
theorem Od_le (s : Nat → Int32) (n : Nat) : Od s n ≤ n := by
  induction n with
  | zero => exact Nat.le_refl _
  | succ n ih => unfold Od; split <;> omega
