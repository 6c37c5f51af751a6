/-! the statements among the codes: what is open ahead of each: (its latest code's sort, its thing), an S begun: (20, its code's place); and how many methods have ended -/
abbrev SS : Type := List (Nat × Nat) × Nat
def sSt (n : Nat) (a : Int32) (c : Nat) (s : SS) : Option SS := match n with
  | 20 => some ((20, c) :: s.1, s.2)
  | 45 => match s.1 with
    | q :: r => if q = (20, nT a) then some (r, s.2) else none
    | [] => none
  | 23 => some ((23, nT a) :: s.1, s.2)
  | 24 => match s.1 with
    | q :: r => if q = (23, nT a) then some ((24, nT a) :: r, s.2) else none
    | [] => none
  | 25 => match s.1 with
    | q :: r => if q = (23, nT a) ∨ q = (24, nT a) then some (r, s.2) else none
    | [] => none
  | 26 => some ((26, nT a) :: s.1, s.2)
  | 27 => match s.1 with
    | q :: r => if q = (26, nT a) then some ((27, nT a) :: r, s.2) else none
    | [] => none
  | 28 => match s.1 with
    | q :: r => if q = (27, nT a) then some (r, s.2) else none
    | [] => none
  | 29 => some ((29, nT a) :: s.1, s.2)
  | 30 => match s.1 with
    | q :: r => if q = (29, nT a) then some ((30, nT a) :: r, s.2) else none
    | [] => none
  | 31 => match s.1 with
    | q :: r => if q = (30, nT a) then some (r, s.2) else none
    | [] => none
  | 32 => some ((32, nT a) :: s.1, s.2)
  | 33 => match s.1 with
    | q :: r => if q = (32, nT a) then some ((33, nT a) :: r, s.2) else none
    | [] => none
  | 34 => match s.1 with
    | q :: r => if q = (33, nT a) then some ((34, nT a) :: r, s.2) else none
    | [] => none
  | 35 => match s.1 with
    | q :: r => if q = (34, nT a) then some ((35, nT a) :: r, s.2) else none
    | [] => none
  | 36 => match s.1 with
    | q :: r => if q = (35, nT a) then some (r, s.2) else none
    | [] => none
  | 37 => some ((37, nT a) :: s.1, s.2)
  | 38 => match s.1 with
    | q :: _ => if q = (37, nT a) then some s else none
    | [] => none
  | 39 => match s.1 with
    | q :: _ => if q = (37, nT a) then some s else none
    | [] => none
  | 40 => match s.1 with
    | q :: r => if q = (37, nT a) then some (r, s.2) else none
    | [] => none
  | 41 => some ((41, nT a) :: s.1, s.2)
  | 42 => match s.1 with
    | q :: r => if q = (41, nT a) then some (r, s.2) else none
    | [] => none
  | 50 => some ((50, nT a) :: s.1, s.2)
  | 51 => match s.1 with
    | q :: r => if q = (50, nT a) then some ((51, nT a) :: r, s.2) else none
    | [] => none
  | 52 => match s.1 with
    | q :: r => if q = (50, nT a) ∨ q = (51, nT a) then some ((52, nT a) :: r, s.2) else none
    | [] => none
  | 53 => match s.1 with
    | q :: r => if q = (51, nT a) ∨ q = (52, nT a) then some (r, s.2) else none
    | [] => none
  | 54 => if s.1 = [] then some ([], s.2 + 1) else none
  | _ => some s
def Ss (o a : Nat → Int32) : Nat → Option SS
  | 0 => some ([], 0)
  | c + 1 => match Ss o a c with
    | some s => sSt (nT (o c)) (a c) c s
    | none => none
theorem Ss_congr {o a o' a' : Nat → Int32} {n : Nat} (h : ∀ i, i < n → o' i = o i ∧ a' i = a i) : Ss o' a' n = Ss o a n := by
  induction n with
  | zero => rfl
  | succ n ih =>
    obtain ⟨h1, h2⟩ := h n (Nat.lt_succ_self n)
    unfold Ss
    rw [ih (fun i hi => h i (Nat.lt_succ_of_lt hi)), h1, h2]
theorem Ss_emit {o a : Nat → Int32} {n : Nat} {x y : Int32} {s s' : SS} (h : Ss o a n = some s) (hs : sSt (nT x) y n s = some s') : Ss (upd o n x) (upd a n y) (n + 1) = some s' := by
  unfold Ss
  rw [Ss_congr (o := o) (a := a) (fun i hi => ⟨upd_ne (by omega), upd_ne (by omega)⟩), h, upd_eq, upd_eq]
  exact hs
/-- codes of exps leave it as it is -/
theorem sSt_exp {n : Nat} (h : n ≤ 18) (a : Int32) (c : Nat) (s : SS) : sSt n a c s = some s := by
  unfold sSt
  split <;> first | rfl | omega
theorem Ss_exps {o a : Nat → Int32} {n : Nat} {s : SS} (h : Ss o a n = some s) : ∀ m, n ≤ m → (∀ i, n ≤ i → i < m → nT (o i) ≤ 18) → Ss o a m = some s := by
  intro m hm
  induction m with
  | zero =>
    intro _
    have : n = 0 := by omega
    subst this
    exact h
  | succ m ih =>
    intro hi
    by_cases hq : n = m + 1
    · subst hq; exact h
    · have h1 := ih (by omega) (fun i h1 h2 => hi i h1 (by omega))
      unfold Ss
      rw [h1]
      exact sSt_exp (hi m (by omega) (by omega)) _ _ _
/-- what a frame of the reader has open -/
def fit (sort thing step : Int32) : List (Nat × Nat) := match nT sort with
  | 0 => []
  | 1 => [(20, nT step)]
  | 2 => [(23, nT thing), (20, nT step)]
  | 3 => [(24, nT thing), (20, nT step)]
  | 4 => [(27, nT thing), (20, nT step)]
  | 5 => [(29, nT thing), (20, nT step)]
  | 6 => [(35, nT thing), (20, nT step)]
  | 7 => [(41, nT thing), (20, nT step)]
  | 8 => [(37, nT thing), (20, nT step)]
  | 9 => [(50, nT thing), (20, nT step)]
  | 10 => [(51, nT thing), (20, nT step)]
  | _ => [(52, nT thing), (20, nT step)]
def Fs (s t p : Nat → Int32) : Nat → List (Nat × Nat)
  | 0 => []
  | i + 1 => fit (s i) (t i) (p i) ++ Fs s t p i
theorem Fs_congr {s t p s' t' p' : Nat → Int32} {n : Nat} (h : ∀ i, i < n → s' i = s i ∧ t' i = t i ∧ p' i = p i) : Fs s' t' p' n = Fs s t p n := by
  induction n with
  | zero => rfl
  | succ n ih =>
    obtain ⟨h1, h2, h3⟩ := h n (Nat.lt_succ_self n)
    unfold Fs
    rw [ih (fun i hi => h i (Nat.lt_succ_of_lt hi)), h1, h2, h3]
theorem Fs_push {s t p : Nat → Int32} {n : Nat} {x y z : Int32} : Fs (upd s n x) (upd t n y) (upd p n z) (n + 1) = fit x y z ++ Fs s t p n := by
  show fit (upd s n x n) (upd t n y n) (upd p n z n) ++ Fs (upd s n x) (upd t n y) (upd p n z) n = _
  rw [Fs_congr (s := s) (t := t) (p := p) (fun i hi => ⟨upd_ne (by omega), upd_ne (by omega), upd_ne (by omega)⟩), upd_eq, upd_eq, upd_eq]
/-- the pile is empty ahead of a code that is none of an exp, but for those that take its one value; an exp's codes leave one -/
theorem Es_some {o a b : Nat → Int32} {n m : Nat} {s : List Nat} (h : Es o a b m = some s) (hn : n ≤ m) : ∃ s', Es o a b n = some s' := by
  induction m generalizing s with
  | zero =>
    have : n = 0 := by omega
    subst this
    exact ⟨s, h⟩
  | succ m ih =>
    by_cases hq : n = m + 1
    · subst hq; exact ⟨s, h⟩
    · cases h1 : Es o a b m with
      | none => unfold Es at h; rw [h1] at h; cases h
      | some s1 => exact ih h1 (by omega)
/-- which row of the things' numbers a code stands in -/
def ksl (n : Nat) : Nat := match n with
  | 24 => 56
  | 32 => 56
  | 25 => 55
  | 28 => 55
  | 31 => 55
  | 36 => 55
  | 40 => 55
  | 42 => 55
  | 53 => 55
  | 27 => 52
  | 30 => 52
  | 33 => 52
  | 37 => 52
  | 34 => 53
  | 35 => 54
  | 51 => 57
  | 52 => 58
  | _ => 0
/-- codes whose a is a thing; codes that begin one -/
def kop (n : Nat) : Bool := (23 ≤ n && n ≤ 42) || (50 ≤ n && n ≤ 53)
def kpu (n : Nat) : Bool := n == 23 || n == 26 || n == 29 || n == 32 || n == 37 || n == 41 || n == 50
