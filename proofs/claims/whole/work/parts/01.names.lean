/-! ===== BEGIN words of one list among another's, by their places ===== -/
theorem goodIn_r {big : List Cond} (ws : List Cond) (ps : List Nat) (hp : ws = ps.filterMap (fun i => big[i]?)) (h : ws.all goodWord = true) : GoodIn big ws := by
  intro w hw
  have h1 := List.all_eq_true.mp h w hw
  rw [hp] at hw
  obtain ⟨i, -, hi⟩ := List.mem_filterMap.mp hw
  have hm : w ∈ big := by first | exact List.mem_of_getElem? hi | exact List.getElem?_mem hi
  exact ⟨hm, good_of_word h1⟩
theorem goodIn_app {big a b : List Cond} (ha : GoodIn big a) (hb : GoodIn big b) : GoodIn big (a ++ b) := fun w h => (List.mem_append.mp h).elim (ha w) (hb w)
theorem goodIn_ca {big a b : List Cond} {c : Cond} (ha : GoodIn big (c :: a)) (hb : GoodIn big b) : GoodIn big (c :: (a ++ b)) := fun w h => (List.mem_cons.mp h).elim (fun e => ha w (List.mem_cons.mpr (Or.inl e))) (fun h => (List.mem_append.mp h).elim (fun h => ha w (List.mem_cons.mpr (Or.inr h))) (hb w))
theorem goodIn_sub {big ws : List Cond} (hm : ∀ w ∈ ws, w ∈ big) (h : ws.all goodWord = true) : GoodIn big ws := fun w hw => ⟨hm w hw, good_of_word (List.all_eq_true.mp h w hw)⟩
/-! ===== END ===== -/

def RJx4a65c : String := "java/util/ArrayList"
def TJx4a65c : u_T := fun k => match k with
  | 0 => ("java/util/AbstractList", "modCount", "I", false)
  | 1 => ("java/util/ArrayList", "elementData", "[Ljava/lang/Object;", false)
  | _ => ("java/util/ArrayList", "size", "I", false)
def tyJx4a65c : Nat → FieldType := fun k => match k with
  | 0 => .int
  | 1 => .array (.object "java/lang/Object")
  | _ => .int
abbrev wsJx4a65c0 : List Cond := u_ws RJx4a65c TJx4a65c 3
theorem nmJx4a65c : ∀ a, a < 3 → ∀ b, b < 3 → a ≠ b → (TJx4a65c a).2.1 ≠ (TJx4a65c b).2.1 := by decide +kernel
theorem tyJx4a65c_ok : ∀ k, k < 3 → parseFieldDescriptor (TJx4a65c k).2.2.1 = some (tyJx4a65c k) := by decide +kernel
def RX0 : String := "PlainJava$Code"
def TX0 : u_T := fun k => match k with
  | 0 => ("PlainJava$Code", "order", "[I", true)
  | 1 => ("PlainJava$Code", "target", "[I", true)
  | 2 => ("PlainJava$Code", "exp", "[LPlainJava$Exp;", true)
  | 3 => ("PlainJava$Code", "owner", "[LPlainJava$Statement;", true)
  | 4 => ("PlainJava$Code", "size", "I", false)
  | 5 => ("PlainJava$Code", "program", "LPlainJava$Program;", false)
  | _ => ("PlainJava$Code", "current", "LPlainJava$Statement;", false)
def tyX0 : Nat → FieldType := fun k => match k with
  | 0 => .array .int
  | 1 => .array .int
  | 2 => .array (.object "PlainJava$Exp")
  | 3 => .array (.object "PlainJava$Statement")
  | 4 => .int
  | 5 => .object "PlainJava$Program"
  | _ => .object "PlainJava$Statement"
abbrev wsX00 : List Cond := u_ws RX0 TX0 7
theorem nmX0 : ∀ a, a < 7 → ∀ b, b < 7 → a ≠ b → (TX0 a).2.1 ≠ (TX0 b).2.1 := by decide +kernel
theorem tyX0_ok : ∀ k, k < 7 → parseFieldDescriptor (TX0 k).2.2.1 = some (tyX0 k) := by decide +kernel
def RX1 : String := "PlainJava$Exp"
def TX1 : u_T := fun k => match k with
  | 0 => ("PlainJava$Exp", "kind", "I", true)
  | 1 => ("PlainJava$Exp", "sign", "I", true)
  | 2 => ("PlainJava$Exp", "first", "I", true)
  | 3 => ("PlainJava$Exp", "start", "I", true)
  | 4 => ("PlainJava$Exp", "last", "I", false)
  | 5 => ("PlainJava$Exp", "number", "I", false)
  | 6 => ("PlainJava$Exp", "name", "I", false)
  | 7 => ("PlainJava$Exp", "link", "I", false)
  | 8 => ("PlainJava$Exp", "type", "I", false)
  | 9 => ("PlainJava$Exp", "work", "I", false)
  | 10 => ("PlainJava$Exp", "fixed", "I", false)
  | 11 => ("PlainJava$Exp", "value", "J", false)
  | 12 => ("PlainJava$Exp", "a", "LPlainJava$Exp;", false)
  | 13 => ("PlainJava$Exp", "b", "LPlainJava$Exp;", false)
  | 14 => ("PlainJava$Exp", "c", "LPlainJava$Exp;", false)
  | 15 => ("PlainJava$Exp", "next", "LPlainJava$Exp;", false)
  | 16 => ("PlainJava$Exp", "mark", "LPlainJava$Exp;", false)
  | _ => ("PlainJava$Exp", "address", "I", false)
def tyX1 : Nat → FieldType := fun k => match k with
  | 0 => .int
  | 1 => .int
  | 2 => .int
  | 3 => .int
  | 4 => .int
  | 5 => .int
  | 6 => .int
  | 7 => .int
  | 8 => .int
  | 9 => .int
  | 10 => .int
  | 11 => .long
  | 12 => .object "PlainJava$Exp"
  | 13 => .object "PlainJava$Exp"
  | 14 => .object "PlainJava$Exp"
  | 15 => .object "PlainJava$Exp"
  | 16 => .object "PlainJava$Exp"
  | _ => .int
abbrev wsX10 : List Cond := u_ws RX1 TX1 18
theorem nmX1 : ∀ a, a < 18 → ∀ b, b < 18 → a ≠ b → (TX1 a).2.1 ≠ (TX1 b).2.1 := by decide +kernel
theorem tyX1_ok : ∀ k, k < 18 → parseFieldDescriptor (TX1 k).2.2.1 = some (tyX1 k) := by decide +kernel
def RX2 : String := "PlainJava$Flow"
def TX2 : u_T := fun k => match k with
  | 0 => ("PlainJava$Flow", "program", "LPlainJava$Program;", false)
  | 1 => ("PlainJava$Flow", "whenTrue", "J", false)
  | 2 => ("PlainJava$Flow", "whenFalse", "J", false)
  | 3 => ("PlainJava$Flow", "aside", "[J", true)
  | _ => ("PlainJava$Flow", "asideCount", "I", false)
def tyX2 : Nat → FieldType := fun k => match k with
  | 0 => .object "PlainJava$Program"
  | 1 => .long
  | 2 => .long
  | 3 => .array .long
  | _ => .int
abbrev wsX20 : List Cond := u_ws RX2 TX2 5
theorem nmX2 : ∀ a, a < 5 → ∀ b, b < 5 → a ≠ b → (TX2 a).2.1 ≠ (TX2 b).2.1 := by decide +kernel
theorem tyX2_ok : ∀ k, k < 5 → parseFieldDescriptor (TX2 k).2.2.1 = some (tyX2 k) := by decide +kernel
def RX3 : String := "PlainJava$Judge"
def TX3 : u_T := fun k => match k with
  | 0 => ("PlainJava$Judge", "flow", "LPlainJava$Flow;", true)
  | _ => ("PlainJava$Judge", "program", "LPlainJava$Program;", false)
def tyX3 : Nat → FieldType := fun k => match k with
  | 0 => .object "PlainJava$Flow"
  | _ => .object "PlainJava$Program"
abbrev wsX30 : List Cond := u_ws RX3 TX3 2
theorem nmX3 : ∀ a, a < 2 → ∀ b, b < 2 → a ≠ b → (TX3 a).2.1 ≠ (TX3 b).2.1 := by decide +kernel
theorem tyX3_ok : ∀ k, k < 2 → parseFieldDescriptor (TX3 k).2.2.1 = some (tyX3 k) := by decide +kernel
def RX4 : String := "PlainJava$Machine"
def TX4 : u_T := fun k => match k with
  | 0 => ("PlainJava$Machine", "values", "[J", true)
  | 1 => ("PlainJava$Machine", "stack", "[J", true)
  | 2 => ("PlainJava$Machine", "floors", "[I", true)
  | 3 => ("PlainJava$Machine", "returns", "[I", true)
  | 4 => ("PlainJava$Machine", "ways", "[I", true)
  | 5 => ("PlainJava$Machine", "carried", "[J", true)
  | 6 => ("PlainJava$Machine", "goals", "[LPlainJava$Statement;", true)
  | 7 => ("PlainJava$Machine", "numbers", "[J", true)
  | 8 => ("PlainJava$Machine", "code", "LPlainJava$Code;", true)
  | 9 => ("PlainJava$Machine", "inputs", "[I", false)
  | 10 => ("PlainJava$Machine", "inputCount", "I", false)
  | 11 => ("PlainJava$Machine", "at", "I", false)
  | 12 => ("PlainJava$Machine", "top", "I", false)
  | 13 => ("PlainJava$Machine", "calls", "I", false)
  | 14 => ("PlainJava$Machine", "limit", "I", false)
  | 15 => ("PlainJava$Machine", "steps", "I", false)
  | 16 => ("PlainJava$Machine", "told", "I", false)
  | 17 => ("PlainJava$Machine", "taken", "I", false)
  | 18 => ("PlainJava$Machine", "latest", "I", false)
  | 19 => ("PlainJava$Machine", "outcome", "I", false)
  | _ => ("PlainJava$Machine", "result", "J", false)
def tyX4 : Nat → FieldType := fun k => match k with
  | 0 => .array .long
  | 1 => .array .long
  | 2 => .array .int
  | 3 => .array .int
  | 4 => .array .int
  | 5 => .array .long
  | 6 => .array (.object "PlainJava$Statement")
  | 7 => .array .long
  | 8 => .object "PlainJava$Code"
  | 9 => .array .int
  | 10 => .int
  | 11 => .int
  | 12 => .int
  | 13 => .int
  | 14 => .int
  | 15 => .int
  | 16 => .int
  | 17 => .int
  | 18 => .int
  | 19 => .int
  | _ => .long
abbrev wsX40 : List Cond := u_ws RX4 TX4 21
theorem nmX4 : ∀ a, a < 21 → ∀ b, b < 21 → a ≠ b → (TX4 a).2.1 ≠ (TX4 b).2.1 := by decide +kernel
theorem tyX4_ok : ∀ k, k < 21 → parseFieldDescriptor (TX4 k).2.2.1 = some (tyX4 k) := by decide +kernel
def RX5 : String := "PlainJava$Method"
def TX5 : u_T := fun k => match k with
  | 0 => ("PlainJava$Method", "name", "I", true)
  | 1 => ("PlainJava$Method", "key", "J", true)
  | 2 => ("PlainJava$Method", "type", "I", true)
  | 3 => ("PlainJava$Method", "paramTypes", "[I", true)
  | 4 => ("PlainJava$Method", "firstVariable", "I", true)
  | 5 => ("PlainJava$Method", "params", "I", false)
  | _ => ("PlainJava$Method", "body", "LPlainJava$Statement;", false)
def tyX5 : Nat → FieldType := fun k => match k with
  | 0 => .int
  | 1 => .long
  | 2 => .int
  | 3 => .array .int
  | 4 => .int
  | 5 => .int
  | _ => .object "PlainJava$Statement"
abbrev wsX50 : List Cond := u_ws RX5 TX5 7
theorem nmX5 : ∀ a, a < 7 → ∀ b, b < 7 → a ≠ b → (TX5 a).2.1 ≠ (TX5 b).2.1 := by decide +kernel
theorem tyX5_ok : ∀ k, k < 7 → parseFieldDescriptor (TX5 k).2.2.1 = some (tyX5 k) := by decide +kernel
def RX6 : String := "PlainJava$Program"
def TX6 : u_T := fun k => match k with
  | 0 => ("PlainJava$Program", "tokens", "LPlainJava$Tokens;", true)
  | 1 => ("PlainJava$Program", "methods", "Ljava/util/ArrayList;", true)
  | 2 => ("PlainJava$Program", "variables", "Ljava/util/ArrayList;", true)
  | 3 => ("PlainJava$Program", "exps", "Ljava/util/ArrayList;", true)
  | 4 => ("PlainJava$Program", "statements", "Ljava/util/ArrayList;", true)
  | 5 => ("PlainJava$Program", "out", "LPlainJava$Method;", true)
  | 6 => ("PlainJava$Program", "in", "LPlainJava$Method;", true)
  | 7 => ("PlainJava$Program", "error", "I", false)
  | _ => ("PlainJava$Program", "errorPlace", "I", false)
def tyX6 : Nat → FieldType := fun k => match k with
  | 0 => .object "PlainJava$Tokens"
  | 1 => .object "java/util/ArrayList"
  | 2 => .object "java/util/ArrayList"
  | 3 => .object "java/util/ArrayList"
  | 4 => .object "java/util/ArrayList"
  | 5 => .object "PlainJava$Method"
  | 6 => .object "PlainJava$Method"
  | 7 => .int
  | _ => .int
abbrev wsX60 : List Cond := u_ws RX6 TX6 9
theorem nmX6 : ∀ a, a < 9 → ∀ b, b < 9 → a ≠ b → (TX6 a).2.1 ≠ (TX6 b).2.1 := by decide +kernel
theorem tyX6_ok : ∀ k, k < 9 → parseFieldDescriptor (TX6 k).2.2.1 = some (tyX6 k) := by decide +kernel
def RX7 : String := "PlainJava$Reader"
def TX7 : u_T := fun k => match k with
  | 0 => ("PlainJava$Reader", "program", "LPlainJava$Program;", false)
  | 1 => ("PlainJava$Reader", "tokens", "LPlainJava$Tokens;", false)
  | 2 => ("PlainJava$Reader", "at", "I", false)
  | 3 => ("PlainJava$Reader", "fault", "I", false)
  | 4 => ("PlainJava$Reader", "place", "I", false)
  | 5 => ("PlainJava$Reader", "known", "J", false)
  | _ => ("PlainJava$Reader", "around", "LPlainJava$Statement;", false)
def tyX7 : Nat → FieldType := fun k => match k with
  | 0 => .object "PlainJava$Program"
  | 1 => .object "PlainJava$Tokens"
  | 2 => .int
  | 3 => .int
  | 4 => .int
  | 5 => .long
  | _ => .object "PlainJava$Statement"
abbrev wsX70 : List Cond := u_ws RX7 TX7 7
theorem nmX7 : ∀ a, a < 7 → ∀ b, b < 7 → a ≠ b → (TX7 a).2.1 ≠ (TX7 b).2.1 := by decide +kernel
theorem tyX7_ok : ∀ k, k < 7 → parseFieldDescriptor (TX7 k).2.2.1 = some (tyX7 k) := by decide +kernel
def RX8 : String := "PlainJava$Statement"
def TX8 : u_T := fun k => match k with
  | 0 => ("PlainJava$Statement", "kind", "I", true)
  | 1 => ("PlainJava$Statement", "first", "I", true)
  | 2 => ("PlainJava$Statement", "level", "I", true)
  | 3 => ("PlainJava$Statement", "parent", "LPlainJava$Statement;", true)
  | 4 => ("PlainJava$Statement", "known", "J", true)
  | 5 => ("PlainJava$Statement", "next", "LPlainJava$Statement;", false)
  | 6 => ("PlainJava$Statement", "body", "LPlainJava$Statement;", false)
  | 7 => ("PlainJava$Statement", "other", "LPlainJava$Statement;", false)
  | 8 => ("PlainJava$Statement", "last", "LPlainJava$Statement;", false)
  | 9 => ("PlainJava$Statement", "exp", "LPlainJava$Exp;", false)
  | 10 => ("PlainJava$Statement", "link", "I", false)
  | 11 => ("PlainJava$Statement", "target", "LPlainJava$Statement;", false)
  | 12 => ("PlainJava$Statement", "ends", "Z", false)
  | 13 => ("PlainJava$Statement", "broken", "Z", false)
  | 14 => ("PlainJava$Statement", "continued", "Z", false)
  | 15 => ("PlainJava$Statement", "before", "J", false)
  | 16 => ("PlainJava$Statement", "behind", "J", false)
  | 17 => ("PlainJava$Statement", "breaks", "J", false)
  | 18 => ("PlainJava$Statement", "continues", "J", false)
  | 19 => ("PlainJava$Statement", "entry", "I", false)
  | _ => ("PlainJava$Statement", "exit", "I", false)
def tyX8 : Nat → FieldType := fun k => match k with
  | 0 => .int
  | 1 => .int
  | 2 => .int
  | 3 => .object "PlainJava$Statement"
  | 4 => .long
  | 5 => .object "PlainJava$Statement"
  | 6 => .object "PlainJava$Statement"
  | 7 => .object "PlainJava$Statement"
  | 8 => .object "PlainJava$Statement"
  | 9 => .object "PlainJava$Exp"
  | 10 => .int
  | 11 => .object "PlainJava$Statement"
  | 12 => .boolean
  | 13 => .boolean
  | 14 => .boolean
  | 15 => .long
  | 16 => .long
  | 17 => .long
  | 18 => .long
  | 19 => .int
  | _ => .int
abbrev wsX80 : List Cond := u_ws RX8 TX8 21
theorem nmX8 : ∀ a, a < 21 → ∀ b, b < 21 → a ≠ b → (TX8 a).2.1 ≠ (TX8 b).2.1 := by decide +kernel
theorem tyX8_ok : ∀ k, k < 21 → parseFieldDescriptor (TX8 k).2.2.1 = some (tyX8 k) := by decide +kernel
def RX9 : String := "PlainJava$Tokens"
def TX9 : u_T := fun k => match k with
  | 0 => ("PlainJava$Tokens", "place", "[I", true)
  | 1 => ("PlainJava$Tokens", "size", "[I", true)
  | 2 => ("PlainJava$Tokens", "code", "[I", true)
  | 3 => ("PlainJava$Tokens", "meaning", "[I", true)
  | 4 => ("PlainJava$Tokens", "worth", "[J", true)
  | 5 => ("PlainJava$Tokens", "count", "I", false)
  | 6 => ("PlainJava$Tokens", "words", "[J", true)
  | 7 => ("PlainJava$Tokens", "text", "[B", false)
  | _ => ("PlainJava$Tokens", "length", "I", false)
def tyX9 : Nat → FieldType := fun k => match k with
  | 0 => .array .int
  | 1 => .array .int
  | 2 => .array .int
  | 3 => .array .int
  | 4 => .array .long
  | 5 => .int
  | 6 => .array .long
  | 7 => .array .byte
  | _ => .int
abbrev wsX90 : List Cond := u_ws RX9 TX9 9
theorem nmX9 : ∀ a, a < 9 → ∀ b, b < 9 → a ≠ b → (TX9 a).2.1 ≠ (TX9 b).2.1 := by decide +kernel
theorem tyX9_ok : ∀ k, k < 9 → parseFieldDescriptor (TX9 k).2.2.1 = some (tyX9 k) := by decide +kernel
def RX10 : String := "PlainJava$Variable"
def TX10 : u_T := fun k => match k with
  | 0 => ("PlainJava$Variable", "name", "I", true)
  | 1 => ("PlainJava$Variable", "type", "I", true)
  | 2 => ("PlainJava$Variable", "isFinal", "Z", true)
  | 3 => ("PlainJava$Variable", "method", "I", true)
  | 4 => ("PlainJava$Variable", "clashes", "Z", false)
  | 5 => ("PlainJava$Variable", "isConstant", "Z", false)
  | _ => ("PlainJava$Variable", "value", "J", false)
def tyX10 : Nat → FieldType := fun k => match k with
  | 0 => .int
  | 1 => .int
  | 2 => .boolean
  | 3 => .int
  | 4 => .boolean
  | 5 => .boolean
  | _ => .long
abbrev wsX100 : List Cond := u_ws RX10 TX10 7
theorem nmX10 : ∀ a, a < 7 → ∀ b, b < 7 → a ≠ b → (TX10 a).2.1 ≠ (TX10 b).2.1 := by decide +kernel
theorem tyX10_ok : ∀ k, k < 7 → parseFieldDescriptor (TX10 k).2.2.1 = some (tyX10 k) := by decide +kernel
def RX11 : String := "PlainJava"
def TX11 : u_T := fun k => match k with
  | 0 => ("PlainJava", "tape", "[B", true)
  | 1 => ("PlainJava", "inputs", "[I", true)
  | 2 => ("PlainJava", "arguments", "[J", true)
  | 3 => ("PlainJava", "program", "LPlainJava$Program;", false)
  | 4 => ("PlainJava", "spare", "LPlainJava$Program;", false)
  | 5 => ("PlainJava", "reader", "LPlainJava$Reader;", true)
  | 6 => ("PlainJava", "judge", "LPlainJava$Judge;", true)
  | 7 => ("PlainJava", "code", "LPlainJava$Code;", true)
  | 8 => ("PlainJava", "machine", "LPlainJava$Machine;", true)
  | 9 => ("PlainJava", "length", "I", false)
  | 10 => ("PlainJava", "inputCount", "I", false)
  | 11 => ("PlainJava", "place", "I", false)
  | _ => ("PlainJava", "hasRun", "Z", false)
def tyX11 : Nat → FieldType := fun k => match k with
  | 0 => .array .byte
  | 1 => .array .int
  | 2 => .array .long
  | 3 => .object "PlainJava$Program"
  | 4 => .object "PlainJava$Program"
  | 5 => .object "PlainJava$Reader"
  | 6 => .object "PlainJava$Judge"
  | 7 => .object "PlainJava$Code"
  | 8 => .object "PlainJava$Machine"
  | 9 => .int
  | 10 => .int
  | 11 => .int
  | _ => .boolean
abbrev wsX110 : List Cond := u_ws RX11 TX11 13
theorem nmX11 : ∀ a, a < 13 → ∀ b, b < 13 → a ≠ b → (TX11 a).2.1 ≠ (TX11 b).2.1 := by decide +kernel
theorem tyX11_ok : ∀ k, k < 13 → parseFieldDescriptor (TX11 k).2.2.1 = some (tyX11 k) := by decide +kernel
def RX12 : String := "PlainJavaModel"
def TX12 : u_T := fun k => match k with
  | 0 => ("PlainJavaModel", "tape", "[I", true)
  | 1 => ("PlainJavaModel", "taped", "I", false)
  | 2 => ("PlainJavaModel", "count", "I", false)
  | 3 => ("PlainJavaModel", "tKind", "[I", true)
  | 4 => ("PlainJavaModel", "tAt", "[I", true)
  | 5 => ("PlainJavaModel", "tSize", "[I", true)
  | 6 => ("PlainJavaModel", "tWhat", "[I", true)
  | 7 => ("PlainJavaModel", "tHigh", "[J", true)
  | 8 => ("PlainJavaModel", "tLow", "[I", true)
  | 9 => ("PlainJavaModel", "tValue", "[J", true)
  | 10 => ("PlainJavaModel", "tLong", "[Z", true)
  | 11 => ("PlainJavaModel", "tGreat", "[I", true)
  | 12 => ("PlainJavaModel", "end", "I", false)
  | 13 => ("PlainJavaModel", "scan", "I", false)
  | 14 => ("PlainJavaModel", "pos", "I", false)
  | 15 => ("PlainJavaModel", "fault", "I", false)
  | 16 => ("PlainJavaModel", "faultAt", "I", false)
  | 17 => ("PlainJavaModel", "deep", "I", false)
  | 18 => ("PlainJavaModel", "codes", "I", false)
  | 19 => ("PlainJavaModel", "cOp", "[I", true)
  | 20 => ("PlainJavaModel", "cA", "[I", true)
  | 21 => ("PlainJavaModel", "cB", "[I", true)
  | 22 => ("PlainJavaModel", "cTok", "[I", true)
  | 23 => ("PlainJavaModel", "cFirst", "[I", true)
  | 24 => ("PlainJavaModel", "cLast", "[I", true)
  | 25 => ("PlainJavaModel", "oSort", "[I", true)
  | 26 => ("PlainJavaModel", "oSign", "[I", true)
  | 27 => ("PlainJavaModel", "oToken", "[I", true)
  | 28 => ("PlainJavaModel", "oArgs", "[I", true)
  | 29 => ("PlainJavaModel", "opens", "I", false)
  | 30 => ("PlainJavaModel", "vFirst", "[I", true)
  | 31 => ("PlainJavaModel", "wholes", "I", false)
  | 32 => ("PlainJavaModel", "lastToken", "I", false)
  | 33 => ("PlainJavaModel", "rootOp", "I", false)
  | 34 => ("PlainJavaModel", "waiting", "Z", false)
  | 35 => ("PlainJavaModel", "beginsNext", "Z", false)
  | 36 => ("PlainJavaModel", "methods", "I", false)
  | 37 => ("PlainJavaModel", "mToken", "[I", true)
  | 38 => ("PlainJavaModel", "mType", "[I", true)
  | 39 => ("PlainJavaModel", "mParams", "[I", true)
  | 40 => ("PlainJavaModel", "mFirst", "[I", true)
  | 41 => ("PlainJavaModel", "mCode", "[I", true)
  | 42 => ("PlainJavaModel", "variables", "I", false)
  | 43 => ("PlainJavaModel", "vToken", "[I", true)
  | 44 => ("PlainJavaModel", "vType", "[I", true)
  | 45 => ("PlainJavaModel", "vFinal", "[Z", true)
  | 46 => ("PlainJavaModel", "vMethod", "[I", true)
  | 47 => ("PlainJavaModel", "vFrame", "[I", true)
  | 48 => ("PlainJavaModel", "vEnd", "[I", true)
  | 49 => ("PlainJavaModel", "things", "I", false)
  | 50 => ("PlainJavaModel", "kSort", "[I", true)
  | 51 => ("PlainJavaModel", "kFrom", "[I", true)
  | 52 => ("PlainJavaModel", "kCond", "[I", true)
  | 53 => ("PlainJavaModel", "kUpdate", "[I", true)
  | 54 => ("PlainJavaModel", "kBody", "[I", true)
  | 55 => ("PlainJavaModel", "kEnd", "[I", true)
  | 56 => ("PlainJavaModel", "kElse", "[I", true)
  | 57 => ("PlainJavaModel", "kCatch", "[I", true)
  | 58 => ("PlainJavaModel", "kFinally", "[I", true)
  | 59 => ("PlainJavaModel", "kDefault", "[I", true)
  | 60 => ("PlainJavaModel", "kToken", "[I", true)
  | 61 => ("PlainJavaModel", "kVariable", "[I", true)
  | 62 => ("PlainJavaModel", "frames", "I", false)
  | 63 => ("PlainJavaModel", "fSort", "[I", true)
  | 64 => ("PlainJavaModel", "fThing", "[I", true)
  | 65 => ("PlainJavaModel", "fStep", "[I", true)
  | 66 => ("PlainJavaModel", "error", "I", false)
  | 67 => ("PlainJavaModel", "errorAt", "I", false)
  | 68 => ("PlainJavaModel", "judged", "Z", false)
  | 69 => ("PlainJavaModel", "lies", "I", false)
  | 70 => ("PlainJavaModel", "sType", "[I", true)
  | 71 => ("PlainJavaModel", "sSure", "[Z", true)
  | 72 => ("PlainJavaModel", "sValue", "[J", true)
  | 73 => ("PlainJavaModel", "sFirst", "[I", true)
  | 74 => ("PlainJavaModel", "exps0", "I", false)
  | 75 => ("PlainJavaModel", "xFirst", "[I", true)
  | 76 => ("PlainJavaModel", "xLast", "[I", true)
  | 77 => ("PlainJavaModel", "xType", "[I", true)
  | 78 => ("PlainJavaModel", "xSure", "[Z", true)
  | 79 => ("PlainJavaModel", "xValue", "[J", true)
  | 80 => ("PlainJavaModel", "tMean", "[I", true)
  | 81 => ("PlainJavaModel", "cType", "[I", true)
  | 82 => ("PlainJavaModel", "cWork", "[I", true)
  | 83 => ("PlainJavaModel", "cWhat", "[I", true)
  | 84 => ("PlainJavaModel", "cSure", "[Z", true)
  | 85 => ("PlainJavaModel", "cValue", "[J", true)
  | 86 => ("PlainJavaModel", "vSure", "[Z", true)
  | 87 => ("PlainJavaModel", "vValue", "[J", true)
  | 88 => ("PlainJavaModel", "kType", "[I", true)
  | 89 => ("PlainJavaModel", "inMethod", "I", false)
  | 90 => ("PlainJavaModel", "labels", "[I", true)
  | 91 => ("PlainJavaModel", "labelCount", "I", false)
  | 92 => ("PlainJavaModel", "alive", "Z", false)
  | 93 => ("PlainJavaModel", "whenTrue", "J", false)
  | 94 => ("PlainJavaModel", "whenFalse", "J", false)
  | 95 => ("PlainJavaModel", "kAlive", "[Z", true)
  | 96 => ("PlainJavaModel", "kBits", "[J", true)
  | 97 => ("PlainJavaModel", "kOther", "[Z", true)
  | 98 => ("PlainJavaModel", "kOtherBits", "[J", true)
  | 99 => ("PlainJavaModel", "kBefore", "[J", true)
  | 100 => ("PlainJavaModel", "opened", "I", false)
  | 101 => ("PlainJavaModel", "openTrue", "[J", true)
  | 102 => ("PlainJavaModel", "openFalse", "[J", true)
  | 103 => ("PlainJavaModel", "jumps", "I", false)
  | 104 => ("PlainJavaModel", "jTo", "[I", true)
  | 105 => ("PlainJavaModel", "jOn", "[Z", true)
  | 106 => ("PlainJavaModel", "jFrom", "[I", true)
  | 107 => ("PlainJavaModel", "jAlive", "[Z", true)
  | 108 => ("PlainJavaModel", "jBits", "[J", true)
  | 109 => ("PlainJavaModel", "isS", "[Z", true)
  | 110 => ("PlainJavaModel", "sBits", "[J", true)
  | 111 => ("PlainJavaModel", "sEnds", "[Z", true)
  | 112 => ("PlainJavaModel", "late", "I", false)
  | 113 => ("PlainJavaModel", "lateAt", "I", false)
  | 114 => ("PlainJavaModel", "unset", "I", false)
  | 115 => ("PlainJavaModel", "unsetAt", "I", false)
  | 116 => ("PlainJavaModel", "comes", "Z", false)
  | 117 => ("PlainJavaModel", "deadStep", "I", false)
  | 118 => ("PlainJavaModel", "kept", "[I", true)
  | 119 => ("PlainJavaModel", "keptSize", "I", false)
  | 120 => ("PlainJavaModel", "placed", "I", false)
  | 121 => ("PlainJavaModel", "ran", "Z", false)
  | 122 => ("PlainJavaModel", "input", "[I", true)
  | 123 => ("PlainJavaModel", "inputs", "I", false)
  | 124 => ("PlainJavaModel", "argument", "[J", true)
  | 125 => ("PlainJavaModel", "cLink", "[I", true)
  | 126 => ("PlainJavaModel", "linked", "[I", true)
  | 127 => ("PlainJavaModel", "pile", "[J", true)
  | 128 => ("PlainJavaModel", "height", "I", false)
  | 129 => ("PlainJavaModel", "calls", "I", false)
  | 130 => ("PlainJavaModel", "own", "[J", true)
  | 131 => ("PlainJavaModel", "backTo", "[I", true)
  | 132 => ("PlainJavaModel", "callOf", "[I", true)
  | 133 => ("PlainJavaModel", "tries", "I", false)
  | 134 => ("PlainJavaModel", "yThing", "[I", true)
  | 135 => ("PlainJavaModel", "yCall", "[I", true)
  | 136 => ("PlainJavaModel", "yHeight", "[I", true)
  | 137 => ("PlainJavaModel", "yState", "[I", true)
  | 138 => ("PlainJavaModel", "yKind", "[I", true)
  | 139 => ("PlainJavaModel", "yTo", "[I", true)
  | 140 => ("PlainJavaModel", "yValue", "[J", true)
  | 141 => ("PlainJavaModel", "pc", "I", false)
  | 142 => ("PlainJavaModel", "stopped", "I", false)
  | 143 => ("PlainJavaModel", "ranValue", "J", false)
  | 144 => ("PlainJavaModel", "steps", "I", false)
  | 145 => ("PlainJavaModel", "most", "I", false)
  | 146 => ("PlainJavaModel", "taken", "I", false)
  | 147 => ("PlainJavaModel", "latest", "I", false)
  | 148 => ("PlainJavaModel", "tolds", "I", false)
  | _ => ("PlainJavaModel", "toldNumber", "[J", true)
def tyX12 : Nat → FieldType := fun k => match k with
  | 0 => .array .int
  | 1 => .int
  | 2 => .int
  | 3 => .array .int
  | 4 => .array .int
  | 5 => .array .int
  | 6 => .array .int
  | 7 => .array .long
  | 8 => .array .int
  | 9 => .array .long
  | 10 => .array .boolean
  | 11 => .array .int
  | 12 => .int
  | 13 => .int
  | 14 => .int
  | 15 => .int
  | 16 => .int
  | 17 => .int
  | 18 => .int
  | 19 => .array .int
  | 20 => .array .int
  | 21 => .array .int
  | 22 => .array .int
  | 23 => .array .int
  | 24 => .array .int
  | 25 => .array .int
  | 26 => .array .int
  | 27 => .array .int
  | 28 => .array .int
  | 29 => .int
  | 30 => .array .int
  | 31 => .int
  | 32 => .int
  | 33 => .int
  | 34 => .boolean
  | 35 => .boolean
  | 36 => .int
  | 37 => .array .int
  | 38 => .array .int
  | 39 => .array .int
  | 40 => .array .int
  | 41 => .array .int
  | 42 => .int
  | 43 => .array .int
  | 44 => .array .int
  | 45 => .array .boolean
  | 46 => .array .int
  | 47 => .array .int
  | 48 => .array .int
  | 49 => .int
  | 50 => .array .int
  | 51 => .array .int
  | 52 => .array .int
  | 53 => .array .int
  | 54 => .array .int
  | 55 => .array .int
  | 56 => .array .int
  | 57 => .array .int
  | 58 => .array .int
  | 59 => .array .int
  | 60 => .array .int
  | 61 => .array .int
  | 62 => .int
  | 63 => .array .int
  | 64 => .array .int
  | 65 => .array .int
  | 66 => .int
  | 67 => .int
  | 68 => .boolean
  | 69 => .int
  | 70 => .array .int
  | 71 => .array .boolean
  | 72 => .array .long
  | 73 => .array .int
  | 74 => .int
  | 75 => .array .int
  | 76 => .array .int
  | 77 => .array .int
  | 78 => .array .boolean
  | 79 => .array .long
  | 80 => .array .int
  | 81 => .array .int
  | 82 => .array .int
  | 83 => .array .int
  | 84 => .array .boolean
  | 85 => .array .long
  | 86 => .array .boolean
  | 87 => .array .long
  | 88 => .array .int
  | 89 => .int
  | 90 => .array .int
  | 91 => .int
  | 92 => .boolean
  | 93 => .long
  | 94 => .long
  | 95 => .array .boolean
  | 96 => .array .long
  | 97 => .array .boolean
  | 98 => .array .long
  | 99 => .array .long
  | 100 => .int
  | 101 => .array .long
  | 102 => .array .long
  | 103 => .int
  | 104 => .array .int
  | 105 => .array .boolean
  | 106 => .array .int
  | 107 => .array .boolean
  | 108 => .array .long
  | 109 => .array .boolean
  | 110 => .array .long
  | 111 => .array .boolean
  | 112 => .int
  | 113 => .int
  | 114 => .int
  | 115 => .int
  | 116 => .boolean
  | 117 => .int
  | 118 => .array .int
  | 119 => .int
  | 120 => .int
  | 121 => .boolean
  | 122 => .array .int
  | 123 => .int
  | 124 => .array .long
  | 125 => .array .int
  | 126 => .array .int
  | 127 => .array .long
  | 128 => .int
  | 129 => .int
  | 130 => .array .long
  | 131 => .array .int
  | 132 => .array .int
  | 133 => .int
  | 134 => .array .int
  | 135 => .array .int
  | 136 => .array .int
  | 137 => .array .int
  | 138 => .array .int
  | 139 => .array .int
  | 140 => .array .long
  | 141 => .int
  | 142 => .int
  | 143 => .long
  | 144 => .int
  | 145 => .int
  | 146 => .int
  | 147 => .int
  | 148 => .int
  | _ => .array .long
abbrev wsX120 : List Cond := u_ws RX12 TX12 150
theorem nmX12 : ∀ a, a < 150 → ∀ b, b < 150 → a ≠ b → (TX12 a).2.1 ≠ (TX12 b).2.1 := by decide +kernel
theorem tyX12_ok : ∀ k, k < 150 → parseFieldDescriptor (TX12 k).2.2.1 = some (tyX12 k) := by decide +kernel
abbrev vwCl : List vw_C := [(RJx4a65c, TJx4a65c, 3), (RX0, TX0, 7), (RX1, TX1, 18), (RX2, TX2, 5), (RX3, TX3, 2), (RX4, TX4, 21), (RX5, TX5, 7), (RX6, TX6, 9), (RX7, TX7, 7), (RX8, TX8, 21), (RX9, TX9, 9), (RX10, TX10, 7), (RX11, TX11, 13), (RX12, TX12, 150)]
abbrev cX12_init : ByteArray := prog_14_method_1_code
def yX12_init : MethodName := ⟨RX12, "<init>", "()V"⟩
theorem dX12_init_0 : decode cX12_init 0 = .ok (.aload_n 0, 1) := by decide +kernel
theorem dX12_init_1 : decode cX12_init 1 = .ok (.invokespecial 1, 3) := by decide +kernel
theorem dX12_init_4 : decode cX12_init 4 = .ok (.aload_n 0, 1) := by decide +kernel
theorem dX12_init_5 : decode cX12_init 5 = .ok (.sipush 2500, 3) := by decide +kernel
theorem dX12_init_8 : decode cX12_init 8 = .ok (.newarray .int, 2) := by decide +kernel
theorem dX12_init_10 : decode cX12_init 10 = .ok (.putfield 7, 3) := by decide +kernel
theorem dX12_init_13 : decode cX12_init 13 = .ok (.aload_n 0, 1) := by decide +kernel
theorem dX12_init_14 : decode cX12_init 14 = .ok (.sipush 2600, 3) := by decide +kernel
theorem dX12_init_17 : decode cX12_init 17 = .ok (.newarray .int, 2) := by decide +kernel
theorem dX12_init_19 : decode cX12_init 19 = .ok (.putfield 13, 3) := by decide +kernel
theorem dX12_init_22 : decode cX12_init 22 = .ok (.aload_n 0, 1) := by decide +kernel
theorem dX12_init_23 : decode cX12_init 23 = .ok (.sipush 2600, 3) := by decide +kernel
theorem dX12_init_26 : decode cX12_init 26 = .ok (.newarray .int, 2) := by decide +kernel
theorem dX12_init_28 : decode cX12_init 28 = .ok (.putfield 16, 3) := by decide +kernel
theorem dX12_init_31 : decode cX12_init 31 = .ok (.aload_n 0, 1) := by decide +kernel
theorem dX12_init_32 : decode cX12_init 32 = .ok (.sipush 2600, 3) := by decide +kernel
theorem dX12_init_35 : decode cX12_init 35 = .ok (.newarray .int, 2) := by decide +kernel
theorem dX12_init_37 : decode cX12_init 37 = .ok (.putfield 19, 3) := by decide +kernel
theorem dX12_init_40 : decode cX12_init 40 = .ok (.aload_n 0, 1) := by decide +kernel
theorem dX12_init_41 : decode cX12_init 41 = .ok (.sipush 2600, 3) := by decide +kernel
theorem dX12_init_44 : decode cX12_init 44 = .ok (.newarray .int, 2) := by decide +kernel
theorem dX12_init_46 : decode cX12_init 46 = .ok (.putfield 22, 3) := by decide +kernel
theorem dX12_init_49 : decode cX12_init 49 = .ok (.aload_n 0, 1) := by decide +kernel
theorem dX12_init_50 : decode cX12_init 50 = .ok (.sipush 2600, 3) := by decide +kernel
theorem dX12_init_53 : decode cX12_init 53 = .ok (.newarray .long, 2) := by decide +kernel
theorem dX12_init_55 : decode cX12_init 55 = .ok (.putfield 25, 3) := by decide +kernel
theorem dX12_init_58 : decode cX12_init 58 = .ok (.aload_n 0, 1) := by decide +kernel
theorem dX12_init_59 : decode cX12_init 59 = .ok (.sipush 2600, 3) := by decide +kernel
theorem dX12_init_62 : decode cX12_init 62 = .ok (.newarray .int, 2) := by decide +kernel
theorem dX12_init_64 : decode cX12_init 64 = .ok (.putfield 29, 3) := by decide +kernel
theorem dX12_init_67 : decode cX12_init 67 = .ok (.aload_n 0, 1) := by decide +kernel
theorem dX12_init_68 : decode cX12_init 68 = .ok (.sipush 2600, 3) := by decide +kernel
theorem dX12_init_71 : decode cX12_init 71 = .ok (.newarray .long, 2) := by decide +kernel
theorem dX12_init_73 : decode cX12_init 73 = .ok (.putfield 32, 3) := by decide +kernel
theorem dX12_init_76 : decode cX12_init 76 = .ok (.aload_n 0, 1) := by decide +kernel
theorem dX12_init_77 : decode cX12_init 77 = .ok (.sipush 2600, 3) := by decide +kernel
theorem dX12_init_80 : decode cX12_init 80 = .ok (.newarray .boolean, 2) := by decide +kernel
theorem dX12_init_82 : decode cX12_init 82 = .ok (.putfield 35, 3) := by decide +kernel
theorem dX12_init_85 : decode cX12_init 85 = .ok (.aload_n 0, 1) := by decide +kernel
theorem dX12_init_86 : decode cX12_init 86 = .ok (.sipush 2600, 3) := by decide +kernel
theorem dX12_init_89 : decode cX12_init 89 = .ok (.newarray .int, 2) := by decide +kernel
theorem dX12_init_91 : decode cX12_init 91 = .ok (.putfield 39, 3) := by decide +kernel
theorem dX12_init_94 : decode cX12_init 94 = .ok (.aload_n 0, 1) := by decide +kernel
theorem dX12_init_95 : decode cX12_init 95 = .ok (.sipush 4000, 3) := by decide +kernel
theorem dX12_init_98 : decode cX12_init 98 = .ok (.newarray .int, 2) := by decide +kernel
theorem dX12_init_100 : decode cX12_init 100 = .ok (.putfield 42, 3) := by decide +kernel
theorem dX12_init_103 : decode cX12_init 103 = .ok (.aload_n 0, 1) := by decide +kernel
theorem dX12_init_104 : decode cX12_init 104 = .ok (.sipush 4000, 3) := by decide +kernel
theorem dX12_init_107 : decode cX12_init 107 = .ok (.newarray .int, 2) := by decide +kernel
theorem dX12_init_109 : decode cX12_init 109 = .ok (.putfield 45, 3) := by decide +kernel
theorem dX12_init_112 : decode cX12_init 112 = .ok (.aload_n 0, 1) := by decide +kernel
theorem dX12_init_113 : decode cX12_init 113 = .ok (.sipush 4000, 3) := by decide +kernel
theorem dX12_init_116 : decode cX12_init 116 = .ok (.newarray .int, 2) := by decide +kernel
theorem dX12_init_118 : decode cX12_init 118 = .ok (.putfield 48, 3) := by decide +kernel
theorem dX12_init_121 : decode cX12_init 121 = .ok (.aload_n 0, 1) := by decide +kernel
theorem dX12_init_122 : decode cX12_init 122 = .ok (.sipush 4000, 3) := by decide +kernel
theorem dX12_init_125 : decode cX12_init 125 = .ok (.newarray .int, 2) := by decide +kernel
theorem dX12_init_127 : decode cX12_init 127 = .ok (.putfield 51, 3) := by decide +kernel
theorem dX12_init_130 : decode cX12_init 130 = .ok (.aload_n 0, 1) := by decide +kernel
theorem dX12_init_131 : decode cX12_init 131 = .ok (.sipush 4000, 3) := by decide +kernel
theorem dX12_init_134 : decode cX12_init 134 = .ok (.newarray .int, 2) := by decide +kernel
theorem dX12_init_136 : decode cX12_init 136 = .ok (.putfield 54, 3) := by decide +kernel
theorem dX12_init_139 : decode cX12_init 139 = .ok (.aload_n 0, 1) := by decide +kernel
theorem dX12_init_140 : decode cX12_init 140 = .ok (.sipush 4000, 3) := by decide +kernel
theorem dX12_init_143 : decode cX12_init 143 = .ok (.newarray .int, 2) := by decide +kernel
theorem dX12_init_145 : decode cX12_init 145 = .ok (.putfield 57, 3) := by decide +kernel
theorem dX12_init_148 : decode cX12_init 148 = .ok (.aload_n 0, 1) := by decide +kernel
theorem dX12_init_149 : decode cX12_init 149 = .ok (.sipush 600, 3) := by decide +kernel
theorem dX12_init_152 : decode cX12_init 152 = .ok (.newarray .int, 2) := by decide +kernel
theorem dX12_init_154 : decode cX12_init 154 = .ok (.putfield 60, 3) := by decide +kernel
theorem dX12_init_157 : decode cX12_init 157 = .ok (.aload_n 0, 1) := by decide +kernel
theorem dX12_init_158 : decode cX12_init 158 = .ok (.sipush 600, 3) := by decide +kernel
theorem dX12_init_161 : decode cX12_init 161 = .ok (.newarray .int, 2) := by decide +kernel
theorem dX12_init_163 : decode cX12_init 163 = .ok (.putfield 63, 3) := by decide +kernel
theorem dX12_init_166 : decode cX12_init 166 = .ok (.aload_n 0, 1) := by decide +kernel
theorem dX12_init_167 : decode cX12_init 167 = .ok (.sipush 600, 3) := by decide +kernel
theorem dX12_init_170 : decode cX12_init 170 = .ok (.newarray .int, 2) := by decide +kernel
theorem dX12_init_172 : decode cX12_init 172 = .ok (.putfield 66, 3) := by decide +kernel
theorem dX12_init_175 : decode cX12_init 175 = .ok (.aload_n 0, 1) := by decide +kernel
theorem dX12_init_176 : decode cX12_init 176 = .ok (.sipush 600, 3) := by decide +kernel
theorem dX12_init_179 : decode cX12_init 179 = .ok (.newarray .int, 2) := by decide +kernel
theorem dX12_init_181 : decode cX12_init 181 = .ok (.putfield 69, 3) := by decide +kernel
theorem dX12_init_184 : decode cX12_init 184 = .ok (.aload_n 0, 1) := by decide +kernel
theorem dX12_init_185 : decode cX12_init 185 = .ok (.sipush 600, 3) := by decide +kernel
theorem dX12_init_188 : decode cX12_init 188 = .ok (.newarray .int, 2) := by decide +kernel
theorem dX12_init_190 : decode cX12_init 190 = .ok (.putfield 72, 3) := by decide +kernel
theorem dX12_init_193 : decode cX12_init 193 = .ok (.aload_n 0, 1) := by decide +kernel
theorem dX12_init_194 : decode cX12_init 194 = .ok (.bipush 16, 2) := by decide +kernel
theorem dX12_init_196 : decode cX12_init 196 = .ok (.newarray .int, 2) := by decide +kernel
theorem dX12_init_198 : decode cX12_init 198 = .ok (.putfield 75, 3) := by decide +kernel
theorem dX12_init_201 : decode cX12_init 201 = .ok (.aload_n 0, 1) := by decide +kernel
theorem dX12_init_202 : decode cX12_init 202 = .ok (.bipush 16, 2) := by decide +kernel
theorem dX12_init_204 : decode cX12_init 204 = .ok (.newarray .int, 2) := by decide +kernel
theorem dX12_init_206 : decode cX12_init 206 = .ok (.putfield 78, 3) := by decide +kernel
theorem dX12_init_209 : decode cX12_init 209 = .ok (.aload_n 0, 1) := by decide +kernel
theorem dX12_init_210 : decode cX12_init 210 = .ok (.bipush 16, 2) := by decide +kernel
theorem dX12_init_212 : decode cX12_init 212 = .ok (.newarray .int, 2) := by decide +kernel
theorem dX12_init_214 : decode cX12_init 214 = .ok (.putfield 81, 3) := by decide +kernel
theorem dX12_init_217 : decode cX12_init 217 = .ok (.aload_n 0, 1) := by decide +kernel
theorem dX12_init_218 : decode cX12_init 218 = .ok (.bipush 16, 2) := by decide +kernel
theorem dX12_init_220 : decode cX12_init 220 = .ok (.newarray .int, 2) := by decide +kernel
theorem dX12_init_222 : decode cX12_init 222 = .ok (.putfield 84, 3) := by decide +kernel
theorem dX12_init_225 : decode cX12_init 225 = .ok (.aload_n 0, 1) := by decide +kernel
theorem dX12_init_226 : decode cX12_init 226 = .ok (.bipush 16, 2) := by decide +kernel
theorem dX12_init_228 : decode cX12_init 228 = .ok (.newarray .int, 2) := by decide +kernel
theorem dX12_init_230 : decode cX12_init 230 = .ok (.putfield 87, 3) := by decide +kernel
theorem dX12_init_233 : decode cX12_init 233 = .ok (.aload_n 0, 1) := by decide +kernel
theorem dX12_init_234 : decode cX12_init 234 = .ok (.bipush 64, 2) := by decide +kernel
theorem dX12_init_236 : decode cX12_init 236 = .ok (.newarray .int, 2) := by decide +kernel
theorem dX12_init_238 : decode cX12_init 238 = .ok (.putfield 90, 3) := by decide +kernel
theorem dX12_init_241 : decode cX12_init 241 = .ok (.aload_n 0, 1) := by decide +kernel
theorem dX12_init_242 : decode cX12_init 242 = .ok (.bipush 64, 2) := by decide +kernel
theorem dX12_init_244 : decode cX12_init 244 = .ok (.newarray .int, 2) := by decide +kernel
theorem dX12_init_246 : decode cX12_init 246 = .ok (.putfield 93, 3) := by decide +kernel
theorem dX12_init_249 : decode cX12_init 249 = .ok (.aload_n 0, 1) := by decide +kernel
theorem dX12_init_250 : decode cX12_init 250 = .ok (.bipush 64, 2) := by decide +kernel
theorem dX12_init_252 : decode cX12_init 252 = .ok (.newarray .boolean, 2) := by decide +kernel
theorem dX12_init_254 : decode cX12_init 254 = .ok (.putfield 96, 3) := by decide +kernel
theorem dX12_init_257 : decode cX12_init 257 = .ok (.aload_n 0, 1) := by decide +kernel
theorem dX12_init_258 : decode cX12_init 258 = .ok (.bipush 64, 2) := by decide +kernel
theorem dX12_init_260 : decode cX12_init 260 = .ok (.newarray .int, 2) := by decide +kernel
theorem dX12_init_262 : decode cX12_init 262 = .ok (.putfield 99, 3) := by decide +kernel
theorem dX12_init_265 : decode cX12_init 265 = .ok (.aload_n 0, 1) := by decide +kernel
theorem dX12_init_266 : decode cX12_init 266 = .ok (.bipush 64, 2) := by decide +kernel
theorem dX12_init_268 : decode cX12_init 268 = .ok (.newarray .int, 2) := by decide +kernel
theorem dX12_init_270 : decode cX12_init 270 = .ok (.putfield 102, 3) := by decide +kernel
theorem dX12_init_273 : decode cX12_init 273 = .ok (.aload_n 0, 1) := by decide +kernel
theorem dX12_init_274 : decode cX12_init 274 = .ok (.bipush 64, 2) := by decide +kernel
theorem dX12_init_276 : decode cX12_init 276 = .ok (.newarray .int, 2) := by decide +kernel
theorem dX12_init_278 : decode cX12_init 278 = .ok (.putfield 105, 3) := by decide +kernel
theorem dX12_init_281 : decode cX12_init 281 = .ok (.aload_n 0, 1) := by decide +kernel
theorem dX12_init_282 : decode cX12_init 282 = .ok (.sipush 600, 3) := by decide +kernel
theorem dX12_init_285 : decode cX12_init 285 = .ok (.newarray .int, 2) := by decide +kernel
theorem dX12_init_287 : decode cX12_init 287 = .ok (.putfield 108, 3) := by decide +kernel
theorem dX12_init_290 : decode cX12_init 290 = .ok (.aload_n 0, 1) := by decide +kernel
theorem dX12_init_291 : decode cX12_init 291 = .ok (.sipush 600, 3) := by decide +kernel
theorem dX12_init_294 : decode cX12_init 294 = .ok (.newarray .int, 2) := by decide +kernel
theorem dX12_init_296 : decode cX12_init 296 = .ok (.putfield 111, 3) := by decide +kernel
theorem dX12_init_299 : decode cX12_init 299 = .ok (.aload_n 0, 1) := by decide +kernel
theorem dX12_init_300 : decode cX12_init 300 = .ok (.sipush 600, 3) := by decide +kernel
theorem dX12_init_303 : decode cX12_init 303 = .ok (.newarray .int, 2) := by decide +kernel
theorem dX12_init_305 : decode cX12_init 305 = .ok (.putfield 114, 3) := by decide +kernel
theorem dX12_init_308 : decode cX12_init 308 = .ok (.aload_n 0, 1) := by decide +kernel
theorem dX12_init_309 : decode cX12_init 309 = .ok (.sipush 600, 3) := by decide +kernel
theorem dX12_init_312 : decode cX12_init 312 = .ok (.newarray .int, 2) := by decide +kernel
theorem dX12_init_314 : decode cX12_init 314 = .ok (.putfield 117, 3) := by decide +kernel
theorem dX12_init_317 : decode cX12_init 317 = .ok (.aload_n 0, 1) := by decide +kernel
theorem dX12_init_318 : decode cX12_init 318 = .ok (.sipush 600, 3) := by decide +kernel
theorem dX12_init_321 : decode cX12_init 321 = .ok (.newarray .int, 2) := by decide +kernel
theorem dX12_init_323 : decode cX12_init 323 = .ok (.putfield 120, 3) := by decide +kernel
theorem dX12_init_326 : decode cX12_init 326 = .ok (.aload_n 0, 1) := by decide +kernel
theorem dX12_init_327 : decode cX12_init 327 = .ok (.sipush 600, 3) := by decide +kernel
theorem dX12_init_330 : decode cX12_init 330 = .ok (.newarray .int, 2) := by decide +kernel
theorem dX12_init_332 : decode cX12_init 332 = .ok (.putfield 123, 3) := by decide +kernel
theorem dX12_init_335 : decode cX12_init 335 = .ok (.aload_n 0, 1) := by decide +kernel
theorem dX12_init_336 : decode cX12_init 336 = .ok (.sipush 600, 3) := by decide +kernel
theorem dX12_init_339 : decode cX12_init 339 = .ok (.newarray .int, 2) := by decide +kernel
theorem dX12_init_341 : decode cX12_init 341 = .ok (.putfield 126, 3) := by decide +kernel
theorem dX12_init_344 : decode cX12_init 344 = .ok (.aload_n 0, 1) := by decide +kernel
theorem dX12_init_345 : decode cX12_init 345 = .ok (.sipush 600, 3) := by decide +kernel
theorem dX12_init_348 : decode cX12_init 348 = .ok (.newarray .int, 2) := by decide +kernel
theorem dX12_init_350 : decode cX12_init 350 = .ok (.putfield 129, 3) := by decide +kernel
theorem dX12_init_353 : decode cX12_init 353 = .ok (.aload_n 0, 1) := by decide +kernel
theorem dX12_init_354 : decode cX12_init 354 = .ok (.sipush 600, 3) := by decide +kernel
theorem dX12_init_357 : decode cX12_init 357 = .ok (.newarray .int, 2) := by decide +kernel
theorem dX12_init_359 : decode cX12_init 359 = .ok (.putfield 132, 3) := by decide +kernel
theorem dX12_init_362 : decode cX12_init 362 = .ok (.aload_n 0, 1) := by decide +kernel
theorem dX12_init_363 : decode cX12_init 363 = .ok (.sipush 600, 3) := by decide +kernel
theorem dX12_init_366 : decode cX12_init 366 = .ok (.newarray .int, 2) := by decide +kernel
theorem dX12_init_368 : decode cX12_init 368 = .ok (.putfield 135, 3) := by decide +kernel
theorem dX12_init_371 : decode cX12_init 371 = .ok (.aload_n 0, 1) := by decide +kernel
theorem dX12_init_372 : decode cX12_init 372 = .ok (.sipush 600, 3) := by decide +kernel
theorem dX12_init_375 : decode cX12_init 375 = .ok (.newarray .int, 2) := by decide +kernel
theorem dX12_init_377 : decode cX12_init 377 = .ok (.putfield 138, 3) := by decide +kernel
theorem dX12_init_380 : decode cX12_init 380 = .ok (.aload_n 0, 1) := by decide +kernel
theorem dX12_init_381 : decode cX12_init 381 = .ok (.sipush 600, 3) := by decide +kernel
theorem dX12_init_384 : decode cX12_init 384 = .ok (.newarray .int, 2) := by decide +kernel
theorem dX12_init_386 : decode cX12_init 386 = .ok (.putfield 141, 3) := by decide +kernel
theorem dX12_init_389 : decode cX12_init 389 = .ok (.aload_n 0, 1) := by decide +kernel
theorem dX12_init_390 : decode cX12_init 390 = .ok (.bipush 80, 2) := by decide +kernel
theorem dX12_init_392 : decode cX12_init 392 = .ok (.newarray .int, 2) := by decide +kernel
theorem dX12_init_394 : decode cX12_init 394 = .ok (.putfield 144, 3) := by decide +kernel
theorem dX12_init_397 : decode cX12_init 397 = .ok (.aload_n 0, 1) := by decide +kernel
theorem dX12_init_398 : decode cX12_init 398 = .ok (.bipush 80, 2) := by decide +kernel
theorem dX12_init_400 : decode cX12_init 400 = .ok (.newarray .int, 2) := by decide +kernel
theorem dX12_init_402 : decode cX12_init 402 = .ok (.putfield 147, 3) := by decide +kernel
theorem dX12_init_405 : decode cX12_init 405 = .ok (.aload_n 0, 1) := by decide +kernel
theorem dX12_init_406 : decode cX12_init 406 = .ok (.bipush 80, 2) := by decide +kernel
theorem dX12_init_408 : decode cX12_init 408 = .ok (.newarray .int, 2) := by decide +kernel
theorem dX12_init_410 : decode cX12_init 410 = .ok (.putfield 150, 3) := by decide +kernel
theorem dX12_init_413 : decode cX12_init 413 = .ok (.aload_n 0, 1) := by decide +kernel
theorem dX12_init_414 : decode cX12_init 414 = .ok (.sipush 700, 3) := by decide +kernel
theorem dX12_init_417 : decode cX12_init 417 = .ok (.newarray .int, 2) := by decide +kernel
theorem dX12_init_419 : decode cX12_init 419 = .ok (.putfield 153, 3) := by decide +kernel
theorem dX12_init_422 : decode cX12_init 422 = .ok (.aload_n 0, 1) := by decide +kernel
theorem dX12_init_423 : decode cX12_init 423 = .ok (.sipush 700, 3) := by decide +kernel
theorem dX12_init_426 : decode cX12_init 426 = .ok (.newarray .boolean, 2) := by decide +kernel
theorem dX12_init_428 : decode cX12_init 428 = .ok (.putfield 156, 3) := by decide +kernel
theorem dX12_init_431 : decode cX12_init 431 = .ok (.aload_n 0, 1) := by decide +kernel
theorem dX12_init_432 : decode cX12_init 432 = .ok (.sipush 700, 3) := by decide +kernel
theorem dX12_init_435 : decode cX12_init 435 = .ok (.newarray .long, 2) := by decide +kernel
theorem dX12_init_437 : decode cX12_init 437 = .ok (.putfield 159, 3) := by decide +kernel
theorem dX12_init_440 : decode cX12_init 440 = .ok (.aload_n 0, 1) := by decide +kernel
theorem dX12_init_441 : decode cX12_init 441 = .ok (.sipush 700, 3) := by decide +kernel
theorem dX12_init_444 : decode cX12_init 444 = .ok (.newarray .int, 2) := by decide +kernel
theorem dX12_init_446 : decode cX12_init 446 = .ok (.putfield 162, 3) := by decide +kernel
theorem dX12_init_449 : decode cX12_init 449 = .ok (.aload_n 0, 1) := by decide +kernel
theorem dX12_init_450 : decode cX12_init 450 = .ok (.sipush 2000, 3) := by decide +kernel
theorem dX12_init_453 : decode cX12_init 453 = .ok (.newarray .int, 2) := by decide +kernel
theorem dX12_init_455 : decode cX12_init 455 = .ok (.putfield 165, 3) := by decide +kernel
theorem dX12_init_458 : decode cX12_init 458 = .ok (.aload_n 0, 1) := by decide +kernel
theorem dX12_init_459 : decode cX12_init 459 = .ok (.sipush 2000, 3) := by decide +kernel
theorem dX12_init_462 : decode cX12_init 462 = .ok (.newarray .int, 2) := by decide +kernel
theorem dX12_init_464 : decode cX12_init 464 = .ok (.putfield 168, 3) := by decide +kernel
theorem dX12_init_467 : decode cX12_init 467 = .ok (.aload_n 0, 1) := by decide +kernel
theorem dX12_init_468 : decode cX12_init 468 = .ok (.sipush 2000, 3) := by decide +kernel
theorem dX12_init_471 : decode cX12_init 471 = .ok (.newarray .int, 2) := by decide +kernel
theorem dX12_init_473 : decode cX12_init 473 = .ok (.putfield 171, 3) := by decide +kernel
theorem dX12_init_476 : decode cX12_init 476 = .ok (.aload_n 0, 1) := by decide +kernel
theorem dX12_init_477 : decode cX12_init 477 = .ok (.sipush 2000, 3) := by decide +kernel
theorem dX12_init_480 : decode cX12_init 480 = .ok (.newarray .boolean, 2) := by decide +kernel
theorem dX12_init_482 : decode cX12_init 482 = .ok (.putfield 174, 3) := by decide +kernel
theorem dX12_init_485 : decode cX12_init 485 = .ok (.aload_n 0, 1) := by decide +kernel
theorem dX12_init_486 : decode cX12_init 486 = .ok (.sipush 2000, 3) := by decide +kernel
theorem dX12_init_489 : decode cX12_init 489 = .ok (.newarray .long, 2) := by decide +kernel
theorem dX12_init_491 : decode cX12_init 491 = .ok (.putfield 177, 3) := by decide +kernel
theorem dX12_init_494 : decode cX12_init 494 = .ok (.aload_n 0, 1) := by decide +kernel
theorem dX12_init_495 : decode cX12_init 495 = .ok (.sipush 2600, 3) := by decide +kernel
theorem dX12_init_498 : decode cX12_init 498 = .ok (.newarray .int, 2) := by decide +kernel
theorem dX12_init_500 : decode cX12_init 500 = .ok (.putfield 180, 3) := by decide +kernel
theorem dX12_init_503 : decode cX12_init 503 = .ok (.aload_n 0, 1) := by decide +kernel
theorem dX12_init_504 : decode cX12_init 504 = .ok (.sipush 4000, 3) := by decide +kernel
theorem dX12_init_507 : decode cX12_init 507 = .ok (.newarray .int, 2) := by decide +kernel
theorem dX12_init_509 : decode cX12_init 509 = .ok (.putfield 183, 3) := by decide +kernel
theorem dX12_init_512 : decode cX12_init 512 = .ok (.aload_n 0, 1) := by decide +kernel
theorem dX12_init_513 : decode cX12_init 513 = .ok (.sipush 4000, 3) := by decide +kernel
theorem dX12_init_516 : decode cX12_init 516 = .ok (.newarray .int, 2) := by decide +kernel
theorem dX12_init_518 : decode cX12_init 518 = .ok (.putfield 186, 3) := by decide +kernel
theorem dX12_init_521 : decode cX12_init 521 = .ok (.aload_n 0, 1) := by decide +kernel
theorem dX12_init_522 : decode cX12_init 522 = .ok (.sipush 4000, 3) := by decide +kernel
theorem dX12_init_525 : decode cX12_init 525 = .ok (.newarray .int, 2) := by decide +kernel
theorem dX12_init_527 : decode cX12_init 527 = .ok (.putfield 189, 3) := by decide +kernel
theorem dX12_init_530 : decode cX12_init 530 = .ok (.aload_n 0, 1) := by decide +kernel
theorem dX12_init_531 : decode cX12_init 531 = .ok (.sipush 4000, 3) := by decide +kernel
theorem dX12_init_534 : decode cX12_init 534 = .ok (.newarray .boolean, 2) := by decide +kernel
theorem dX12_init_536 : decode cX12_init 536 = .ok (.putfield 192, 3) := by decide +kernel
theorem dX12_init_539 : decode cX12_init 539 = .ok (.aload_n 0, 1) := by decide +kernel
theorem dX12_init_540 : decode cX12_init 540 = .ok (.sipush 4000, 3) := by decide +kernel
theorem dX12_init_543 : decode cX12_init 543 = .ok (.newarray .long, 2) := by decide +kernel
theorem dX12_init_545 : decode cX12_init 545 = .ok (.putfield 195, 3) := by decide +kernel
theorem dX12_init_548 : decode cX12_init 548 = .ok (.aload_n 0, 1) := by decide +kernel
theorem dX12_init_549 : decode cX12_init 549 = .ok (.bipush 64, 2) := by decide +kernel
theorem dX12_init_551 : decode cX12_init 551 = .ok (.newarray .boolean, 2) := by decide +kernel
theorem dX12_init_553 : decode cX12_init 553 = .ok (.putfield 198, 3) := by decide +kernel
theorem dX12_init_556 : decode cX12_init 556 = .ok (.aload_n 0, 1) := by decide +kernel
theorem dX12_init_557 : decode cX12_init 557 = .ok (.bipush 64, 2) := by decide +kernel
theorem dX12_init_559 : decode cX12_init 559 = .ok (.newarray .long, 2) := by decide +kernel
theorem dX12_init_561 : decode cX12_init 561 = .ok (.putfield 201, 3) := by decide +kernel
theorem dX12_init_564 : decode cX12_init 564 = .ok (.aload_n 0, 1) := by decide +kernel
theorem dX12_init_565 : decode cX12_init 565 = .ok (.sipush 600, 3) := by decide +kernel
theorem dX12_init_568 : decode cX12_init 568 = .ok (.newarray .int, 2) := by decide +kernel
theorem dX12_init_570 : decode cX12_init 570 = .ok (.putfield 204, 3) := by decide +kernel
theorem dX12_init_573 : decode cX12_init 573 = .ok (.aload_n 0, 1) := by decide +kernel
theorem dX12_init_574 : decode cX12_init 574 = .ok (.bipush 80, 2) := by decide +kernel
theorem dX12_init_576 : decode cX12_init 576 = .ok (.newarray .int, 2) := by decide +kernel
theorem dX12_init_578 : decode cX12_init 578 = .ok (.putfield 207, 3) := by decide +kernel
theorem dX12_init_581 : decode cX12_init 581 = .ok (.aload_n 0, 1) := by decide +kernel
theorem dX12_init_582 : decode cX12_init 582 = .ok (.sipush 600, 3) := by decide +kernel
theorem dX12_init_585 : decode cX12_init 585 = .ok (.newarray .boolean, 2) := by decide +kernel
theorem dX12_init_587 : decode cX12_init 587 = .ok (.putfield 210, 3) := by decide +kernel
theorem dX12_init_590 : decode cX12_init 590 = .ok (.aload_n 0, 1) := by decide +kernel
theorem dX12_init_591 : decode cX12_init 591 = .ok (.sipush 600, 3) := by decide +kernel
theorem dX12_init_594 : decode cX12_init 594 = .ok (.newarray .long, 2) := by decide +kernel
theorem dX12_init_596 : decode cX12_init 596 = .ok (.putfield 213, 3) := by decide +kernel
theorem dX12_init_599 : decode cX12_init 599 = .ok (.aload_n 0, 1) := by decide +kernel
theorem dX12_init_600 : decode cX12_init 600 = .ok (.sipush 600, 3) := by decide +kernel
theorem dX12_init_603 : decode cX12_init 603 = .ok (.newarray .boolean, 2) := by decide +kernel
theorem dX12_init_605 : decode cX12_init 605 = .ok (.putfield 216, 3) := by decide +kernel
theorem dX12_init_608 : decode cX12_init 608 = .ok (.aload_n 0, 1) := by decide +kernel
theorem dX12_init_609 : decode cX12_init 609 = .ok (.sipush 600, 3) := by decide +kernel
theorem dX12_init_612 : decode cX12_init 612 = .ok (.newarray .long, 2) := by decide +kernel
theorem dX12_init_614 : decode cX12_init 614 = .ok (.putfield 219, 3) := by decide +kernel
theorem dX12_init_617 : decode cX12_init 617 = .ok (.aload_n 0, 1) := by decide +kernel
theorem dX12_init_618 : decode cX12_init 618 = .ok (.sipush 600, 3) := by decide +kernel
theorem dX12_init_621 : decode cX12_init 621 = .ok (.newarray .long, 2) := by decide +kernel
theorem dX12_init_623 : decode cX12_init 623 = .ok (.putfield 222, 3) := by decide +kernel
theorem dX12_init_626 : decode cX12_init 626 = .ok (.aload_n 0, 1) := by decide +kernel
theorem dX12_init_627 : decode cX12_init 627 = .ok (.sipush 300, 3) := by decide +kernel
theorem dX12_init_630 : decode cX12_init 630 = .ok (.newarray .long, 2) := by decide +kernel
theorem dX12_init_632 : decode cX12_init 632 = .ok (.putfield 225, 3) := by decide +kernel
theorem dX12_init_635 : decode cX12_init 635 = .ok (.aload_n 0, 1) := by decide +kernel
theorem dX12_init_636 : decode cX12_init 636 = .ok (.sipush 300, 3) := by decide +kernel
theorem dX12_init_639 : decode cX12_init 639 = .ok (.newarray .long, 2) := by decide +kernel
theorem dX12_init_641 : decode cX12_init 641 = .ok (.putfield 228, 3) := by decide +kernel
theorem dX12_init_644 : decode cX12_init 644 = .ok (.aload_n 0, 1) := by decide +kernel
theorem dX12_init_645 : decode cX12_init 645 = .ok (.sipush 600, 3) := by decide +kernel
theorem dX12_init_648 : decode cX12_init 648 = .ok (.newarray .int, 2) := by decide +kernel
theorem dX12_init_650 : decode cX12_init 650 = .ok (.putfield 231, 3) := by decide +kernel
theorem dX12_init_653 : decode cX12_init 653 = .ok (.aload_n 0, 1) := by decide +kernel
theorem dX12_init_654 : decode cX12_init 654 = .ok (.sipush 600, 3) := by decide +kernel
theorem dX12_init_657 : decode cX12_init 657 = .ok (.newarray .boolean, 2) := by decide +kernel
theorem dX12_init_659 : decode cX12_init 659 = .ok (.putfield 234, 3) := by decide +kernel
theorem dX12_init_662 : decode cX12_init 662 = .ok (.aload_n 0, 1) := by decide +kernel
theorem dX12_init_663 : decode cX12_init 663 = .ok (.sipush 600, 3) := by decide +kernel
theorem dX12_init_666 : decode cX12_init 666 = .ok (.newarray .int, 2) := by decide +kernel
theorem dX12_init_668 : decode cX12_init 668 = .ok (.putfield 237, 3) := by decide +kernel
theorem dX12_init_671 : decode cX12_init 671 = .ok (.aload_n 0, 1) := by decide +kernel
theorem dX12_init_672 : decode cX12_init 672 = .ok (.sipush 600, 3) := by decide +kernel
theorem dX12_init_675 : decode cX12_init 675 = .ok (.newarray .boolean, 2) := by decide +kernel
theorem dX12_init_677 : decode cX12_init 677 = .ok (.putfield 240, 3) := by decide +kernel
theorem dX12_init_680 : decode cX12_init 680 = .ok (.aload_n 0, 1) := by decide +kernel
theorem dX12_init_681 : decode cX12_init 681 = .ok (.sipush 600, 3) := by decide +kernel
theorem dX12_init_684 : decode cX12_init 684 = .ok (.newarray .long, 2) := by decide +kernel
theorem dX12_init_686 : decode cX12_init 686 = .ok (.putfield 243, 3) := by decide +kernel
theorem dX12_init_689 : decode cX12_init 689 = .ok (.aload_n 0, 1) := by decide +kernel
theorem dX12_init_690 : decode cX12_init 690 = .ok (.sipush 2600, 3) := by decide +kernel
theorem dX12_init_693 : decode cX12_init 693 = .ok (.newarray .boolean, 2) := by decide +kernel
theorem dX12_init_695 : decode cX12_init 695 = .ok (.putfield 246, 3) := by decide +kernel
theorem dX12_init_698 : decode cX12_init 698 = .ok (.aload_n 0, 1) := by decide +kernel
theorem dX12_init_699 : decode cX12_init 699 = .ok (.sipush 2600, 3) := by decide +kernel
theorem dX12_init_702 : decode cX12_init 702 = .ok (.newarray .long, 2) := by decide +kernel
theorem dX12_init_704 : decode cX12_init 704 = .ok (.putfield 249, 3) := by decide +kernel
theorem dX12_init_707 : decode cX12_init 707 = .ok (.aload_n 0, 1) := by decide +kernel
theorem dX12_init_708 : decode cX12_init 708 = .ok (.sipush 2600, 3) := by decide +kernel
theorem dX12_init_711 : decode cX12_init 711 = .ok (.newarray .boolean, 2) := by decide +kernel
theorem dX12_init_713 : decode cX12_init 713 = .ok (.putfield 252, 3) := by decide +kernel
theorem dX12_init_716 : decode cX12_init 716 = .ok (.aload_n 0, 1) := by decide +kernel
theorem dX12_init_717 : decode cX12_init 717 = .ok (.sipush 2500, 3) := by decide +kernel
theorem dX12_init_720 : decode cX12_init 720 = .ok (.newarray .int, 2) := by decide +kernel
theorem dX12_init_722 : decode cX12_init 722 = .ok (.putfield 255, 3) := by decide +kernel
theorem dX12_init_725 : decode cX12_init 725 = .ok (.aload_n 0, 1) := by decide +kernel
theorem dX12_init_726 : decode cX12_init 726 = .ok (.bipush (-2), 2) := by decide +kernel
theorem dX12_init_728 : decode cX12_init 728 = .ok (.putfield 258, 3) := by decide +kernel
theorem dX12_init_731 : decode cX12_init 731 = .ok (.aload_n 0, 1) := by decide +kernel
theorem dX12_init_732 : decode cX12_init 732 = .ok (.bipush 40, 2) := by decide +kernel
theorem dX12_init_734 : decode cX12_init 734 = .ok (.newarray .int, 2) := by decide +kernel
theorem dX12_init_736 : decode cX12_init 736 = .ok (.putfield 262, 3) := by decide +kernel
theorem dX12_init_739 : decode cX12_init 739 = .ok (.aload_n 0, 1) := by decide +kernel
theorem dX12_init_740 : decode cX12_init 740 = .ok (.bipush 6, 2) := by decide +kernel
theorem dX12_init_742 : decode cX12_init 742 = .ok (.newarray .long, 2) := by decide +kernel
theorem dX12_init_744 : decode cX12_init 744 = .ok (.putfield 265, 3) := by decide +kernel
theorem dX12_init_747 : decode cX12_init 747 = .ok (.aload_n 0, 1) := by decide +kernel
theorem dX12_init_748 : decode cX12_init 748 = .ok (.sipush 4000, 3) := by decide +kernel
theorem dX12_init_751 : decode cX12_init 751 = .ok (.newarray .int, 2) := by decide +kernel
theorem dX12_init_753 : decode cX12_init 753 = .ok (.putfield 268, 3) := by decide +kernel
theorem dX12_init_756 : decode cX12_init 756 = .ok (.aload_n 0, 1) := by decide +kernel
theorem dX12_init_757 : decode cX12_init 757 = .ok (.sipush 300, 3) := by decide +kernel
theorem dX12_init_760 : decode cX12_init 760 = .ok (.newarray .int, 2) := by decide +kernel
theorem dX12_init_762 : decode cX12_init 762 = .ok (.putfield 271, 3) := by decide +kernel
theorem dX12_init_765 : decode cX12_init 765 = .ok (.aload_n 0, 1) := by decide +kernel
theorem dX12_init_766 : decode cX12_init 766 = .ok (.sipush 8000, 3) := by decide +kernel
theorem dX12_init_769 : decode cX12_init 769 = .ok (.newarray .long, 2) := by decide +kernel
theorem dX12_init_771 : decode cX12_init 771 = .ok (.putfield 274, 3) := by decide +kernel
theorem dX12_init_774 : decode cX12_init 774 = .ok (.aload_n 0, 1) := by decide +kernel
theorem dX12_init_775 : decode cX12_init 775 = .ok (.sipush 1860, 3) := by decide +kernel
theorem dX12_init_778 : decode cX12_init 778 = .ok (.newarray .long, 2) := by decide +kernel
theorem dX12_init_780 : decode cX12_init 780 = .ok (.putfield 277, 3) := by decide +kernel
theorem dX12_init_783 : decode cX12_init 783 = .ok (.aload_n 0, 1) := by decide +kernel
theorem dX12_init_784 : decode cX12_init 784 = .ok (.bipush 31, 2) := by decide +kernel
theorem dX12_init_786 : decode cX12_init 786 = .ok (.newarray .int, 2) := by decide +kernel
theorem dX12_init_788 : decode cX12_init 788 = .ok (.putfield 280, 3) := by decide +kernel
theorem dX12_init_791 : decode cX12_init 791 = .ok (.aload_n 0, 1) := by decide +kernel
theorem dX12_init_792 : decode cX12_init 792 = .ok (.bipush 31, 2) := by decide +kernel
theorem dX12_init_794 : decode cX12_init 794 = .ok (.newarray .int, 2) := by decide +kernel
theorem dX12_init_796 : decode cX12_init 796 = .ok (.putfield 283, 3) := by decide +kernel
theorem dX12_init_799 : decode cX12_init 799 = .ok (.aload_n 0, 1) := by decide +kernel
theorem dX12_init_800 : decode cX12_init 800 = .ok (.sipush 2000, 3) := by decide +kernel
theorem dX12_init_803 : decode cX12_init 803 = .ok (.newarray .int, 2) := by decide +kernel
theorem dX12_init_805 : decode cX12_init 805 = .ok (.putfield 286, 3) := by decide +kernel
theorem dX12_init_808 : decode cX12_init 808 = .ok (.aload_n 0, 1) := by decide +kernel
theorem dX12_init_809 : decode cX12_init 809 = .ok (.sipush 2000, 3) := by decide +kernel
theorem dX12_init_812 : decode cX12_init 812 = .ok (.newarray .int, 2) := by decide +kernel
theorem dX12_init_814 : decode cX12_init 814 = .ok (.putfield 289, 3) := by decide +kernel
theorem dX12_init_817 : decode cX12_init 817 = .ok (.aload_n 0, 1) := by decide +kernel
theorem dX12_init_818 : decode cX12_init 818 = .ok (.sipush 2000, 3) := by decide +kernel
theorem dX12_init_821 : decode cX12_init 821 = .ok (.newarray .int, 2) := by decide +kernel
theorem dX12_init_823 : decode cX12_init 823 = .ok (.putfield 292, 3) := by decide +kernel
theorem dX12_init_826 : decode cX12_init 826 = .ok (.aload_n 0, 1) := by decide +kernel
theorem dX12_init_827 : decode cX12_init 827 = .ok (.sipush 2000, 3) := by decide +kernel
theorem dX12_init_830 : decode cX12_init 830 = .ok (.newarray .int, 2) := by decide +kernel
theorem dX12_init_832 : decode cX12_init 832 = .ok (.putfield 295, 3) := by decide +kernel
theorem dX12_init_835 : decode cX12_init 835 = .ok (.aload_n 0, 1) := by decide +kernel
theorem dX12_init_836 : decode cX12_init 836 = .ok (.sipush 2000, 3) := by decide +kernel
theorem dX12_init_839 : decode cX12_init 839 = .ok (.newarray .int, 2) := by decide +kernel
theorem dX12_init_841 : decode cX12_init 841 = .ok (.putfield 298, 3) := by decide +kernel
theorem dX12_init_844 : decode cX12_init 844 = .ok (.aload_n 0, 1) := by decide +kernel
theorem dX12_init_845 : decode cX12_init 845 = .ok (.sipush 2000, 3) := by decide +kernel
theorem dX12_init_848 : decode cX12_init 848 = .ok (.newarray .int, 2) := by decide +kernel
theorem dX12_init_850 : decode cX12_init 850 = .ok (.putfield 301, 3) := by decide +kernel
theorem dX12_init_853 : decode cX12_init 853 = .ok (.aload_n 0, 1) := by decide +kernel
theorem dX12_init_854 : decode cX12_init 854 = .ok (.sipush 2000, 3) := by decide +kernel
theorem dX12_init_857 : decode cX12_init 857 = .ok (.newarray .long, 2) := by decide +kernel
theorem dX12_init_859 : decode cX12_init 859 = .ok (.putfield 304, 3) := by decide +kernel
theorem dX12_init_862 : decode cX12_init 862 = .ok (.aload_n 0, 1) := by decide +kernel
theorem dX12_init_863 : decode cX12_init 863 = .ok (.sipush 200, 3) := by decide +kernel
theorem dX12_init_866 : decode cX12_init 866 = .ok (.newarray .long, 2) := by decide +kernel
theorem dX12_init_868 : decode cX12_init 868 = .ok (.putfield 307, 3) := by decide +kernel
theorem dX12_init_871 : decode cX12_init 871 = .ok (.return_, 1) := by decide +kernel
abbrev cX8_init : ByteArray := prog_10_method_1_code
def yX8_init : MethodName := ⟨RX8, "<init>", "(IIILPlainJava$Statement;J)V"⟩
theorem dX8_init_0 : decode cX8_init 0 = .ok (.aload_n 0, 1) := by decide +kernel
theorem dX8_init_1 : decode cX8_init 1 = .ok (.invokespecial 3, 3) := by decide +kernel
theorem dX8_init_4 : decode cX8_init 4 = .ok (.aload_n 0, 1) := by decide +kernel
theorem dX8_init_5 : decode cX8_init 5 = .ok (.iconst (-1), 1) := by decide +kernel
theorem dX8_init_6 : decode cX8_init 6 = .ok (.putfield 9, 3) := by decide +kernel
theorem dX8_init_9 : decode cX8_init 9 = .ok (.aload_n 0, 1) := by decide +kernel
theorem dX8_init_10 : decode cX8_init 10 = .ok (.ldc2_w 15, 3) := by decide +kernel
theorem dX8_init_13 : decode cX8_init 13 = .ok (.putfield 17, 3) := by decide +kernel
theorem dX8_init_16 : decode cX8_init 16 = .ok (.aload_n 0, 1) := by decide +kernel
theorem dX8_init_17 : decode cX8_init 17 = .ok (.ldc2_w 15, 3) := by decide +kernel
theorem dX8_init_20 : decode cX8_init 20 = .ok (.putfield 21, 3) := by decide +kernel
theorem dX8_init_23 : decode cX8_init 23 = .ok (.aload_n 0, 1) := by decide +kernel
theorem dX8_init_24 : decode cX8_init 24 = .ok (.iload_n 1, 1) := by decide +kernel
theorem dX8_init_25 : decode cX8_init 25 = .ok (.putfield 24, 3) := by decide +kernel
theorem dX8_init_28 : decode cX8_init 28 = .ok (.aload_n 0, 1) := by decide +kernel
theorem dX8_init_29 : decode cX8_init 29 = .ok (.iload_n 2, 1) := by decide +kernel
theorem dX8_init_30 : decode cX8_init 30 = .ok (.putfield 27, 3) := by decide +kernel
theorem dX8_init_33 : decode cX8_init 33 = .ok (.aload_n 0, 1) := by decide +kernel
theorem dX8_init_34 : decode cX8_init 34 = .ok (.iload_n 3, 1) := by decide +kernel
theorem dX8_init_35 : decode cX8_init 35 = .ok (.putfield 30, 3) := by decide +kernel
theorem dX8_init_38 : decode cX8_init 38 = .ok (.aload_n 0, 1) := by decide +kernel
theorem dX8_init_39 : decode cX8_init 39 = .ok (.aload 4, 2) := by decide +kernel
theorem dX8_init_41 : decode cX8_init 41 = .ok (.putfield 33, 3) := by decide +kernel
theorem dX8_init_44 : decode cX8_init 44 = .ok (.aload_n 0, 1) := by decide +kernel
theorem dX8_init_45 : decode cX8_init 45 = .ok (.lload 5, 2) := by decide +kernel
theorem dX8_init_47 : decode cX8_init 47 = .ok (.putfield 37, 3) := by decide +kernel
theorem dX8_init_50 : decode cX8_init 50 = .ok (.return_, 1) := by decide +kernel
abbrev cX5_init : ByteArray := prog_7_method_1_code
def yX5_init : MethodName := ⟨RX5, "<init>", "(IJII)V"⟩
theorem dX5_init_0 : decode cX5_init 0 = .ok (.aload_n 0, 1) := by decide +kernel
theorem dX5_init_1 : decode cX5_init 1 = .ok (.invokespecial 3, 3) := by decide +kernel
theorem dX5_init_4 : decode cX5_init 4 = .ok (.aload_n 0, 1) := by decide +kernel
theorem dX5_init_5 : decode cX5_init 5 = .ok (.bipush 6, 2) := by decide +kernel
theorem dX5_init_7 : decode cX5_init 7 = .ok (.newarray .int, 2) := by decide +kernel
theorem dX5_init_9 : decode cX5_init 9 = .ok (.putfield 9, 3) := by decide +kernel
theorem dX5_init_12 : decode cX5_init 12 = .ok (.aload_n 0, 1) := by decide +kernel
theorem dX5_init_13 : decode cX5_init 13 = .ok (.new 15, 3) := by decide +kernel
theorem dX5_init_16 : decode cX5_init 16 = .ok (.dup, 1) := by decide +kernel
theorem dX5_init_17 : decode cX5_init 17 = .ok (.bipush 92, 2) := by decide +kernel
theorem dX5_init_19 : decode cX5_init 19 = .ok (.iconst 0, 1) := by decide +kernel
theorem dX5_init_20 : decode cX5_init 20 = .ok (.iconst 0, 1) := by decide +kernel
theorem dX5_init_21 : decode cX5_init 21 = .ok (.aconst_null, 1) := by decide +kernel
theorem dX5_init_22 : decode cX5_init 22 = .ok (.lconst 0, 1) := by decide +kernel
theorem dX5_init_23 : decode cX5_init 23 = .ok (.invokespecial 17, 3) := by decide +kernel
theorem dX5_init_26 : decode cX5_init 26 = .ok (.putfield 20, 3) := by decide +kernel
theorem dX5_init_29 : decode cX5_init 29 = .ok (.aload_n 0, 1) := by decide +kernel
theorem dX5_init_30 : decode cX5_init 30 = .ok (.iload_n 1, 1) := by decide +kernel
theorem dX5_init_31 : decode cX5_init 31 = .ok (.putfield 24, 3) := by decide +kernel
theorem dX5_init_34 : decode cX5_init 34 = .ok (.aload_n 0, 1) := by decide +kernel
theorem dX5_init_35 : decode cX5_init 35 = .ok (.lload_n 2, 1) := by decide +kernel
theorem dX5_init_36 : decode cX5_init 36 = .ok (.putfield 28, 3) := by decide +kernel
theorem dX5_init_39 : decode cX5_init 39 = .ok (.aload_n 0, 1) := by decide +kernel
theorem dX5_init_40 : decode cX5_init 40 = .ok (.iload 4, 2) := by decide +kernel
theorem dX5_init_42 : decode cX5_init 42 = .ok (.putfield 32, 3) := by decide +kernel
theorem dX5_init_45 : decode cX5_init 45 = .ok (.aload_n 0, 1) := by decide +kernel
theorem dX5_init_46 : decode cX5_init 46 = .ok (.iload 5, 2) := by decide +kernel
theorem dX5_init_48 : decode cX5_init 48 = .ok (.putfield 35, 3) := by decide +kernel
theorem dX5_init_51 : decode cX5_init 51 = .ok (.return_, 1) := by decide +kernel
abbrev cX5_addParam : ByteArray := prog_7_method_2_code
def yX5_addParam : MethodName := ⟨RX5, "addParam", "(I)V"⟩
theorem dX5_addParam_0 : decode cX5_addParam 0 = .ok (.aload_n 0, 1) := by decide +kernel
theorem dX5_addParam_1 : decode cX5_addParam 1 = .ok (.getfield 38, 3) := by decide +kernel
theorem dX5_addParam_4 : decode cX5_addParam 4 = .ok (.bipush 6, 2) := by decide +kernel
theorem dX5_addParam_6 : decode cX5_addParam 6 = .ok (.if_icmp .ge 23, 3) := by decide +kernel
theorem dX5_addParam_9 : decode cX5_addParam 9 = .ok (.aload_n 0, 1) := by decide +kernel
theorem dX5_addParam_10 : decode cX5_addParam 10 = .ok (.getfield 9, 3) := by decide +kernel
theorem dX5_addParam_13 : decode cX5_addParam 13 = .ok (.aload_n 0, 1) := by decide +kernel
theorem dX5_addParam_14 : decode cX5_addParam 14 = .ok (.getfield 38, 3) := by decide +kernel
theorem dX5_addParam_17 : decode cX5_addParam 17 = .ok (.iload_n 1, 1) := by decide +kernel
theorem dX5_addParam_18 : decode cX5_addParam 18 = .ok (.iastore, 1) := by decide +kernel
theorem dX5_addParam_19 : decode cX5_addParam 19 = .ok (.aload_n 0, 1) := by decide +kernel
theorem dX5_addParam_20 : decode cX5_addParam 20 = .ok (.dup, 1) := by decide +kernel
theorem dX5_addParam_21 : decode cX5_addParam 21 = .ok (.getfield 38, 3) := by decide +kernel
theorem dX5_addParam_24 : decode cX5_addParam 24 = .ok (.iconst 1, 1) := by decide +kernel
theorem dX5_addParam_25 : decode cX5_addParam 25 = .ok (.iadd, 1) := by decide +kernel
theorem dX5_addParam_26 : decode cX5_addParam 26 = .ok (.putfield 38, 3) := by decide +kernel
theorem dX5_addParam_29 : decode cX5_addParam 29 = .ok (.return_, 1) := by decide +kernel
abbrev cX7_init : ByteArray := prog_9_method_1_code
def yX7_init : MethodName := ⟨RX7, "<init>", "(LPlainJava$Program;)V"⟩
theorem dX7_init_0 : decode cX7_init 0 = .ok (.aload_n 0, 1) := by decide +kernel
theorem dX7_init_1 : decode cX7_init 1 = .ok (.invokespecial 3, 3) := by decide +kernel
theorem dX7_init_4 : decode cX7_init 4 = .ok (.aload_n 0, 1) := by decide +kernel
theorem dX7_init_5 : decode cX7_init 5 = .ok (.aload_n 1, 1) := by decide +kernel
theorem dX7_init_6 : decode cX7_init 6 = .ok (.putfield 9, 3) := by decide +kernel
theorem dX7_init_9 : decode cX7_init 9 = .ok (.aload_n 0, 1) := by decide +kernel
theorem dX7_init_10 : decode cX7_init 10 = .ok (.aload_n 1, 1) := by decide +kernel
theorem dX7_init_11 : decode cX7_init 11 = .ok (.getfield 15, 3) := by decide +kernel
theorem dX7_init_14 : decode cX7_init 14 = .ok (.putfield 21, 3) := by decide +kernel
theorem dX7_init_17 : decode cX7_init 17 = .ok (.return_, 1) := by decide +kernel
abbrev cX2_init : ByteArray := prog_4_method_1_code
def yX2_init : MethodName := ⟨RX2, "<init>", "(LPlainJava$Program;)V"⟩
theorem dX2_init_0 : decode cX2_init 0 = .ok (.aload_n 0, 1) := by decide +kernel
theorem dX2_init_1 : decode cX2_init 1 = .ok (.invokespecial 3, 3) := by decide +kernel
theorem dX2_init_4 : decode cX2_init 4 = .ok (.aload_n 0, 1) := by decide +kernel
theorem dX2_init_5 : decode cX2_init 5 = .ok (.sipush 500, 3) := by decide +kernel
theorem dX2_init_8 : decode cX2_init 8 = .ok (.newarray .long, 2) := by decide +kernel
theorem dX2_init_10 : decode cX2_init 10 = .ok (.putfield 9, 3) := by decide +kernel
theorem dX2_init_13 : decode cX2_init 13 = .ok (.aload_n 0, 1) := by decide +kernel
theorem dX2_init_14 : decode cX2_init 14 = .ok (.aload_n 1, 1) := by decide +kernel
theorem dX2_init_15 : decode cX2_init 15 = .ok (.putfield 15, 3) := by decide +kernel
theorem dX2_init_18 : decode cX2_init 18 = .ok (.return_, 1) := by decide +kernel
abbrev cX3_init : ByteArray := prog_5_method_1_code
def yX3_init : MethodName := ⟨RX3, "<init>", "(LPlainJava$Program;)V"⟩
theorem dX3_init_0 : decode cX3_init 0 = .ok (.aload_n 0, 1) := by decide +kernel
theorem dX3_init_1 : decode cX3_init 1 = .ok (.invokespecial 3, 3) := by decide +kernel
theorem dX3_init_4 : decode cX3_init 4 = .ok (.aload_n 0, 1) := by decide +kernel
theorem dX3_init_5 : decode cX3_init 5 = .ok (.aload_n 1, 1) := by decide +kernel
theorem dX3_init_6 : decode cX3_init 6 = .ok (.putfield 9, 3) := by decide +kernel
theorem dX3_init_9 : decode cX3_init 9 = .ok (.aload_n 0, 1) := by decide +kernel
theorem dX3_init_10 : decode cX3_init 10 = .ok (.new 15, 3) := by decide +kernel
theorem dX3_init_13 : decode cX3_init 13 = .ok (.dup, 1) := by decide +kernel
theorem dX3_init_14 : decode cX3_init 14 = .ok (.aload_n 1, 1) := by decide +kernel
theorem dX3_init_15 : decode cX3_init 15 = .ok (.invokespecial 17, 3) := by decide +kernel
theorem dX3_init_18 : decode cX3_init 18 = .ok (.putfield 20, 3) := by decide +kernel
theorem dX3_init_21 : decode cX3_init 21 = .ok (.return_, 1) := by decide +kernel
abbrev cX0_init : ByteArray := prog_2_method_1_code
def yX0_init : MethodName := ⟨RX0, "<init>", "(LPlainJava$Program;)V"⟩
theorem dX0_init_0 : decode cX0_init 0 = .ok (.aload_n 0, 1) := by decide +kernel
theorem dX0_init_1 : decode cX0_init 1 = .ok (.invokespecial 3, 3) := by decide +kernel
theorem dX0_init_4 : decode cX0_init 4 = .ok (.aload_n 0, 1) := by decide +kernel
theorem dX0_init_5 : decode cX0_init 5 = .ok (.sipush 1000, 3) := by decide +kernel
theorem dX0_init_8 : decode cX0_init 8 = .ok (.newarray .int, 2) := by decide +kernel
theorem dX0_init_10 : decode cX0_init 10 = .ok (.putfield 11, 3) := by decide +kernel
theorem dX0_init_13 : decode cX0_init 13 = .ok (.aload_n 0, 1) := by decide +kernel
theorem dX0_init_14 : decode cX0_init 14 = .ok (.sipush 1000, 3) := by decide +kernel
theorem dX0_init_17 : decode cX0_init 17 = .ok (.newarray .int, 2) := by decide +kernel
theorem dX0_init_19 : decode cX0_init 19 = .ok (.putfield 15, 3) := by decide +kernel
theorem dX0_init_22 : decode cX0_init 22 = .ok (.aload_n 0, 1) := by decide +kernel
theorem dX0_init_23 : decode cX0_init 23 = .ok (.sipush 1000, 3) := by decide +kernel
theorem dX0_init_26 : decode cX0_init 26 = .ok (.anewarray 18, 3) := by decide +kernel
theorem dX0_init_29 : decode cX0_init 29 = .ok (.putfield 20, 3) := by decide +kernel
theorem dX0_init_32 : decode cX0_init 32 = .ok (.aload_n 0, 1) := by decide +kernel
theorem dX0_init_33 : decode cX0_init 33 = .ok (.sipush 1000, 3) := by decide +kernel
theorem dX0_init_36 : decode cX0_init 36 = .ok (.anewarray 24, 3) := by decide +kernel
theorem dX0_init_39 : decode cX0_init 39 = .ok (.putfield 26, 3) := by decide +kernel
theorem dX0_init_42 : decode cX0_init 42 = .ok (.aload_n 0, 1) := by decide +kernel
theorem dX0_init_43 : decode cX0_init 43 = .ok (.new 24, 3) := by decide +kernel
theorem dX0_init_46 : decode cX0_init 46 = .ok (.dup, 1) := by decide +kernel
theorem dX0_init_47 : decode cX0_init 47 = .ok (.bipush 92, 2) := by decide +kernel
theorem dX0_init_49 : decode cX0_init 49 = .ok (.iconst 0, 1) := by decide +kernel
theorem dX0_init_50 : decode cX0_init 50 = .ok (.iconst 0, 1) := by decide +kernel
theorem dX0_init_51 : decode cX0_init 51 = .ok (.aconst_null, 1) := by decide +kernel
theorem dX0_init_52 : decode cX0_init 52 = .ok (.lconst 0, 1) := by decide +kernel
theorem dX0_init_53 : decode cX0_init 53 = .ok (.invokespecial 30, 3) := by decide +kernel
theorem dX0_init_56 : decode cX0_init 56 = .ok (.putfield 33, 3) := by decide +kernel
theorem dX0_init_59 : decode cX0_init 59 = .ok (.aload_n 0, 1) := by decide +kernel
theorem dX0_init_60 : decode cX0_init 60 = .ok (.aload_n 1, 1) := by decide +kernel
theorem dX0_init_61 : decode cX0_init 61 = .ok (.putfield 37, 3) := by decide +kernel
theorem dX0_init_64 : decode cX0_init 64 = .ok (.return_, 1) := by decide +kernel
abbrev cX4_init : ByteArray := prog_6_method_1_code
def yX4_init : MethodName := ⟨RX4, "<init>", "(LPlainJava$Code;)V"⟩
theorem dX4_init_0 : decode cX4_init 0 = .ok (.aload_n 0, 1) := by decide +kernel
theorem dX4_init_1 : decode cX4_init 1 = .ok (.invokespecial 3, 3) := by decide +kernel
theorem dX4_init_4 : decode cX4_init 4 = .ok (.aload_n 0, 1) := by decide +kernel
theorem dX4_init_5 : decode cX4_init 5 = .ok (.sipush 1800, 3) := by decide +kernel
theorem dX4_init_8 : decode cX4_init 8 = .ok (.newarray .long, 2) := by decide +kernel
theorem dX4_init_10 : decode cX4_init 10 = .ok (.putfield 9, 3) := by decide +kernel
theorem dX4_init_13 : decode cX4_init 13 = .ok (.aload_n 0, 1) := by decide +kernel
theorem dX4_init_14 : decode cX4_init 14 = .ok (.sipush 7500, 3) := by decide +kernel
theorem dX4_init_17 : decode cX4_init 17 = .ok (.newarray .long, 2) := by decide +kernel
theorem dX4_init_19 : decode cX4_init 19 = .ok (.putfield 15, 3) := by decide +kernel
theorem dX4_init_22 : decode cX4_init 22 = .ok (.aload_n 0, 1) := by decide +kernel
theorem dX4_init_23 : decode cX4_init 23 = .ok (.bipush 31, 2) := by decide +kernel
theorem dX4_init_25 : decode cX4_init 25 = .ok (.newarray .int, 2) := by decide +kernel
theorem dX4_init_27 : decode cX4_init 27 = .ok (.putfield 18, 3) := by decide +kernel
theorem dX4_init_30 : decode cX4_init 30 = .ok (.aload_n 0, 1) := by decide +kernel
theorem dX4_init_31 : decode cX4_init 31 = .ok (.bipush 31, 2) := by decide +kernel
theorem dX4_init_33 : decode cX4_init 33 = .ok (.newarray .int, 2) := by decide +kernel
theorem dX4_init_35 : decode cX4_init 35 = .ok (.putfield 22, 3) := by decide +kernel
theorem dX4_init_38 : decode cX4_init 38 = .ok (.aload_n 0, 1) := by decide +kernel
theorem dX4_init_39 : decode cX4_init 39 = .ok (.sipush 630, 3) := by decide +kernel
theorem dX4_init_42 : decode cX4_init 42 = .ok (.newarray .int, 2) := by decide +kernel
theorem dX4_init_44 : decode cX4_init 44 = .ok (.putfield 25, 3) := by decide +kernel
theorem dX4_init_47 : decode cX4_init 47 = .ok (.aload_n 0, 1) := by decide +kernel
theorem dX4_init_48 : decode cX4_init 48 = .ok (.sipush 630, 3) := by decide +kernel
theorem dX4_init_51 : decode cX4_init 51 = .ok (.newarray .long, 2) := by decide +kernel
theorem dX4_init_53 : decode cX4_init 53 = .ok (.putfield 28, 3) := by decide +kernel
theorem dX4_init_56 : decode cX4_init 56 = .ok (.aload_n 0, 1) := by decide +kernel
theorem dX4_init_57 : decode cX4_init 57 = .ok (.sipush 630, 3) := by decide +kernel
theorem dX4_init_60 : decode cX4_init 60 = .ok (.anewarray 31, 3) := by decide +kernel
theorem dX4_init_63 : decode cX4_init 63 = .ok (.putfield 33, 3) := by decide +kernel
theorem dX4_init_66 : decode cX4_init 66 = .ok (.aload_n 0, 1) := by decide +kernel
theorem dX4_init_67 : decode cX4_init 67 = .ok (.sipush 200, 3) := by decide +kernel
theorem dX4_init_70 : decode cX4_init 70 = .ok (.newarray .long, 2) := by decide +kernel
theorem dX4_init_72 : decode cX4_init 72 = .ok (.putfield 37, 3) := by decide +kernel
theorem dX4_init_75 : decode cX4_init 75 = .ok (.aload_n 0, 1) := by decide +kernel
theorem dX4_init_76 : decode cX4_init 76 = .ok (.iconst 0, 1) := by decide +kernel
theorem dX4_init_77 : decode cX4_init 77 = .ok (.newarray .int, 2) := by decide +kernel
theorem dX4_init_79 : decode cX4_init 79 = .ok (.putfield 40, 3) := by decide +kernel
theorem dX4_init_82 : decode cX4_init 82 = .ok (.aload_n 0, 1) := by decide +kernel
theorem dX4_init_83 : decode cX4_init 83 = .ok (.aload_n 1, 1) := by decide +kernel
theorem dX4_init_84 : decode cX4_init 84 = .ok (.putfield 43, 3) := by decide +kernel
theorem dX4_init_87 : decode cX4_init 87 = .ok (.return_, 1) := by decide +kernel
abbrev cX9_init : ByteArray := prog_11_method_1_code
def yX9_init : MethodName := ⟨RX9, "<init>", "()V"⟩
theorem dX9_init_0 : decode cX9_init 0 = .ok (.aload_n 0, 1) := by decide +kernel
theorem dX9_init_1 : decode cX9_init 1 = .ok (.invokespecial 3, 3) := by decide +kernel
theorem dX9_init_4 : decode cX9_init 4 = .ok (.aload_n 0, 1) := by decide +kernel
theorem dX9_init_5 : decode cX9_init 5 = .ok (.sipush 503, 3) := by decide +kernel
theorem dX9_init_8 : decode cX9_init 8 = .ok (.newarray .int, 2) := by decide +kernel
theorem dX9_init_10 : decode cX9_init 10 = .ok (.putfield 11, 3) := by decide +kernel
theorem dX9_init_13 : decode cX9_init 13 = .ok (.aload_n 0, 1) := by decide +kernel
theorem dX9_init_14 : decode cX9_init 14 = .ok (.sipush 503, 3) := by decide +kernel
theorem dX9_init_17 : decode cX9_init 17 = .ok (.newarray .int, 2) := by decide +kernel
theorem dX9_init_19 : decode cX9_init 19 = .ok (.putfield 15, 3) := by decide +kernel
theorem dX9_init_22 : decode cX9_init 22 = .ok (.aload_n 0, 1) := by decide +kernel
theorem dX9_init_23 : decode cX9_init 23 = .ok (.sipush 503, 3) := by decide +kernel
theorem dX9_init_26 : decode cX9_init 26 = .ok (.newarray .int, 2) := by decide +kernel
theorem dX9_init_28 : decode cX9_init 28 = .ok (.putfield 18, 3) := by decide +kernel
theorem dX9_init_31 : decode cX9_init 31 = .ok (.aload_n 0, 1) := by decide +kernel
theorem dX9_init_32 : decode cX9_init 32 = .ok (.sipush 503, 3) := by decide +kernel
theorem dX9_init_35 : decode cX9_init 35 = .ok (.newarray .int, 2) := by decide +kernel
theorem dX9_init_37 : decode cX9_init 37 = .ok (.putfield 21, 3) := by decide +kernel
theorem dX9_init_40 : decode cX9_init 40 = .ok (.aload_n 0, 1) := by decide +kernel
theorem dX9_init_41 : decode cX9_init 41 = .ok (.sipush 503, 3) := by decide +kernel
theorem dX9_init_44 : decode cX9_init 44 = .ok (.newarray .long, 2) := by decide +kernel
theorem dX9_init_46 : decode cX9_init 46 = .ok (.putfield 24, 3) := by decide +kernel
theorem dX9_init_49 : decode cX9_init 49 = .ok (.aload_n 0, 1) := by decide +kernel
theorem dX9_init_50 : decode cX9_init 50 = .ok (.bipush 24, 2) := by decide +kernel
theorem dX9_init_52 : decode cX9_init 52 = .ok (.newarray .long, 2) := by decide +kernel
theorem dX9_init_54 : decode cX9_init 54 = .ok (.putfield 28, 3) := by decide +kernel
theorem dX9_init_57 : decode cX9_init 57 = .ok (.aload_n 0, 1) := by decide +kernel
theorem dX9_init_58 : decode cX9_init 58 = .ok (.iconst 0, 1) := by decide +kernel
theorem dX9_init_59 : decode cX9_init 59 = .ok (.newarray .byte, 2) := by decide +kernel
theorem dX9_init_61 : decode cX9_init 61 = .ok (.putfield 31, 3) := by decide +kernel
theorem dX9_init_64 : decode cX9_init 64 = .ok (.iconst 0, 1) := by decide +kernel
theorem dX9_init_65 : decode cX9_init 65 = .ok (.istore_n 1, 1) := by decide +kernel
theorem dX9_init_66 : decode cX9_init 66 = .ok (.iconst 0, 1) := by decide +kernel
theorem dX9_init_67 : decode cX9_init 67 = .ok (.istore_n 2, 1) := by decide +kernel
theorem dX9_init_68 : decode cX9_init 68 = .ok (.iload_n 2, 1) := by decide +kernel
theorem dX9_init_69 : decode cX9_init 69 = .ok (.ldc 35, 2) := by decide +kernel
theorem dX9_init_71 : decode cX9_init 71 = .ok (.invokevirtual 37, 3) := by decide +kernel
theorem dX9_init_74 : decode cX9_init 74 = .ok (.if_icmp .ge 50, 3) := by decide +kernel
theorem dX9_init_77 : decode cX9_init 77 = .ok (.ldc 35, 2) := by decide +kernel
theorem dX9_init_79 : decode cX9_init 79 = .ok (.iload_n 2, 1) := by decide +kernel
theorem dX9_init_80 : decode cX9_init 80 = .ok (.invokevirtual 43, 3) := by decide +kernel
theorem dX9_init_83 : decode cX9_init 83 = .ok (.istore_n 3, 1) := by decide +kernel
theorem dX9_init_84 : decode cX9_init 84 = .ok (.iload_n 3, 1) := by decide +kernel
theorem dX9_init_85 : decode cX9_init 85 = .ok (.bipush 32, 2) := by decide +kernel
theorem dX9_init_87 : decode cX9_init 87 = .ok (.if_icmp .ne 9, 3) := by decide +kernel
theorem dX9_init_90 : decode cX9_init 90 = .ok (.iinc 1 1, 3) := by decide +kernel
theorem dX9_init_93 : decode cX9_init 93 = .ok (.goto 25, 3) := by decide +kernel
theorem dX9_init_96 : decode cX9_init 96 = .ok (.iload_n 1, 1) := by decide +kernel
theorem dX9_init_97 : decode cX9_init 97 = .ok (.bipush 24, 2) := by decide +kernel
theorem dX9_init_99 : decode cX9_init 99 = .ok (.if_icmp .ge 19, 3) := by decide +kernel
theorem dX9_init_102 : decode cX9_init 102 = .ok (.aload_n 0, 1) := by decide +kernel
theorem dX9_init_103 : decode cX9_init 103 = .ok (.getfield 28, 3) := by decide +kernel
theorem dX9_init_106 : decode cX9_init 106 = .ok (.iload_n 1, 1) := by decide +kernel
theorem dX9_init_107 : decode cX9_init 107 = .ok (.aload_n 0, 1) := by decide +kernel
theorem dX9_init_108 : decode cX9_init 108 = .ok (.getfield 28, 3) := by decide +kernel
theorem dX9_init_111 : decode cX9_init 111 = .ok (.iload_n 1, 1) := by decide +kernel
theorem dX9_init_112 : decode cX9_init 112 = .ok (.laload, 1) := by decide +kernel
theorem dX9_init_113 : decode cX9_init 113 = .ok (.iload_n 3, 1) := by decide +kernel
theorem dX9_init_114 : decode cX9_init 114 = .ok (.invokestatic 47, 3) := by decide +kernel
theorem dX9_init_117 : decode cX9_init 117 = .ok (.lastore, 1) := by decide +kernel
theorem dX9_init_118 : decode cX9_init 118 = .ok (.iinc 2 1, 3) := by decide +kernel
theorem dX9_init_121 : decode cX9_init 121 = .ok (.goto (-53), 3) := by decide +kernel
theorem dX9_init_124 : decode cX9_init 124 = .ok (.return_, 1) := by decide +kernel
abbrev cX9_longerKey : ByteArray := prog_11_method_2_code
def yX9_longerKey : MethodName := ⟨RX9, "longerKey", "(JI)J"⟩
theorem dX9_longerKey_0 : decode cX9_longerKey 0 = .ok (.iload_n 2, 1) := by decide +kernel
theorem dX9_longerKey_1 : decode cX9_longerKey 1 = .ok (.bipush 97, 2) := by decide +kernel
theorem dX9_longerKey_3 : decode cX9_longerKey 3 = .ok (.if_icmp .lt 13, 3) := by decide +kernel
theorem dX9_longerKey_6 : decode cX9_longerKey 6 = .ok (.iload_n 2, 1) := by decide +kernel
theorem dX9_longerKey_7 : decode cX9_longerKey 7 = .ok (.bipush 97, 2) := by decide +kernel
theorem dX9_longerKey_9 : decode cX9_longerKey 9 = .ok (.isub, 1) := by decide +kernel
theorem dX9_longerKey_10 : decode cX9_longerKey 10 = .ok (.bipush 37, 2) := by decide +kernel
theorem dX9_longerKey_12 : decode cX9_longerKey 12 = .ok (.iadd, 1) := by decide +kernel
theorem dX9_longerKey_13 : decode cX9_longerKey 13 = .ok (.goto 25, 3) := by decide +kernel
theorem dX9_longerKey_16 : decode cX9_longerKey 16 = .ok (.iload_n 2, 1) := by decide +kernel
theorem dX9_longerKey_17 : decode cX9_longerKey 17 = .ok (.bipush 65, 2) := by decide +kernel
theorem dX9_longerKey_19 : decode cX9_longerKey 19 = .ok (.if_icmp .lt 13, 3) := by decide +kernel
theorem dX9_longerKey_22 : decode cX9_longerKey 22 = .ok (.iload_n 2, 1) := by decide +kernel
theorem dX9_longerKey_23 : decode cX9_longerKey 23 = .ok (.bipush 65, 2) := by decide +kernel
theorem dX9_longerKey_25 : decode cX9_longerKey 25 = .ok (.isub, 1) := by decide +kernel
theorem dX9_longerKey_26 : decode cX9_longerKey 26 = .ok (.bipush 11, 2) := by decide +kernel
theorem dX9_longerKey_28 : decode cX9_longerKey 28 = .ok (.iadd, 1) := by decide +kernel
theorem dX9_longerKey_29 : decode cX9_longerKey 29 = .ok (.goto 9, 3) := by decide +kernel
theorem dX9_longerKey_32 : decode cX9_longerKey 32 = .ok (.iload_n 2, 1) := by decide +kernel
theorem dX9_longerKey_33 : decode cX9_longerKey 33 = .ok (.bipush 48, 2) := by decide +kernel
theorem dX9_longerKey_35 : decode cX9_longerKey 35 = .ok (.isub, 1) := by decide +kernel
theorem dX9_longerKey_36 : decode cX9_longerKey 36 = .ok (.iconst 1, 1) := by decide +kernel
theorem dX9_longerKey_37 : decode cX9_longerKey 37 = .ok (.iadd, 1) := by decide +kernel
theorem dX9_longerKey_38 : decode cX9_longerKey 38 = .ok (.istore_n 3, 1) := by decide +kernel
theorem dX9_longerKey_39 : decode cX9_longerKey 39 = .ok (.lload_n 0, 1) := by decide +kernel
theorem dX9_longerKey_40 : decode cX9_longerKey 40 = .ok (.bipush 6, 2) := by decide +kernel
theorem dX9_longerKey_42 : decode cX9_longerKey 42 = .ok (.lshl, 1) := by decide +kernel
theorem dX9_longerKey_43 : decode cX9_longerKey 43 = .ok (.iload_n 3, 1) := by decide +kernel
theorem dX9_longerKey_44 : decode cX9_longerKey 44 = .ok (.i2l, 1) := by decide +kernel
theorem dX9_longerKey_45 : decode cX9_longerKey 45 = .ok (.lor, 1) := by decide +kernel
theorem dX9_longerKey_46 : decode cX9_longerKey 46 = .ok (.lreturn, 1) := by decide +kernel
abbrev cX9_keyOf : ByteArray := prog_11_method_3_code
def yX9_keyOf : MethodName := ⟨RX9, "keyOf", "(Ljava/lang/String;)J"⟩
theorem dX9_keyOf_0 : decode cX9_keyOf 0 = .ok (.lconst 0, 1) := by decide +kernel
theorem dX9_keyOf_1 : decode cX9_keyOf 1 = .ok (.lstore_n 1, 1) := by decide +kernel
theorem dX9_keyOf_2 : decode cX9_keyOf 2 = .ok (.iconst 0, 1) := by decide +kernel
theorem dX9_keyOf_3 : decode cX9_keyOf 3 = .ok (.istore_n 3, 1) := by decide +kernel
theorem dX9_keyOf_4 : decode cX9_keyOf 4 = .ok (.iload_n 3, 1) := by decide +kernel
theorem dX9_keyOf_5 : decode cX9_keyOf 5 = .ok (.aload_n 0, 1) := by decide +kernel
theorem dX9_keyOf_6 : decode cX9_keyOf 6 = .ok (.invokevirtual 37, 3) := by decide +kernel
theorem dX9_keyOf_9 : decode cX9_keyOf 9 = .ok (.if_icmp .ge 19, 3) := by decide +kernel
theorem dX9_keyOf_12 : decode cX9_keyOf 12 = .ok (.lload_n 1, 1) := by decide +kernel
theorem dX9_keyOf_13 : decode cX9_keyOf 13 = .ok (.aload_n 0, 1) := by decide +kernel
theorem dX9_keyOf_14 : decode cX9_keyOf 14 = .ok (.iload_n 3, 1) := by decide +kernel
theorem dX9_keyOf_15 : decode cX9_keyOf 15 = .ok (.invokevirtual 43, 3) := by decide +kernel
theorem dX9_keyOf_18 : decode cX9_keyOf 18 = .ok (.invokestatic 47, 3) := by decide +kernel
theorem dX9_keyOf_21 : decode cX9_keyOf 21 = .ok (.lstore_n 1, 1) := by decide +kernel
theorem dX9_keyOf_22 : decode cX9_keyOf 22 = .ok (.iinc 3 1, 3) := by decide +kernel
theorem dX9_keyOf_25 : decode cX9_keyOf 25 = .ok (.goto (-21), 3) := by decide +kernel
theorem dX9_keyOf_28 : decode cX9_keyOf 28 = .ok (.lload_n 1, 1) := by decide +kernel
theorem dX9_keyOf_29 : decode cX9_keyOf 29 = .ok (.lreturn, 1) := by decide +kernel
abbrev cX6_init : ByteArray := prog_8_method_1_code
def yX6_init : MethodName := ⟨RX6, "<init>", "()V"⟩
theorem dX6_init_0 : decode cX6_init 0 = .ok (.aload_n 0, 1) := by decide +kernel
theorem dX6_init_1 : decode cX6_init 1 = .ok (.invokespecial 3, 3) := by decide +kernel
theorem dX6_init_4 : decode cX6_init 4 = .ok (.aload_n 0, 1) := by decide +kernel
theorem dX6_init_5 : decode cX6_init 5 = .ok (.new 9, 3) := by decide +kernel
theorem dX6_init_8 : decode cX6_init 8 = .ok (.dup, 1) := by decide +kernel
theorem dX6_init_9 : decode cX6_init 9 = .ok (.invokespecial 11, 3) := by decide +kernel
theorem dX6_init_12 : decode cX6_init 12 = .ok (.putfield 12, 3) := by decide +kernel
theorem dX6_init_15 : decode cX6_init 15 = .ok (.aload_n 0, 1) := by decide +kernel
theorem dX6_init_16 : decode cX6_init 16 = .ok (.new 18, 3) := by decide +kernel
theorem dX6_init_19 : decode cX6_init 19 = .ok (.dup, 1) := by decide +kernel
theorem dX6_init_20 : decode cX6_init 20 = .ok (.invokespecial 20, 3) := by decide +kernel
theorem dX6_init_23 : decode cX6_init 23 = .ok (.putfield 21, 3) := by decide +kernel
theorem dX6_init_26 : decode cX6_init 26 = .ok (.aload_n 0, 1) := by decide +kernel
theorem dX6_init_27 : decode cX6_init 27 = .ok (.new 18, 3) := by decide +kernel
theorem dX6_init_30 : decode cX6_init 30 = .ok (.dup, 1) := by decide +kernel
theorem dX6_init_31 : decode cX6_init 31 = .ok (.invokespecial 20, 3) := by decide +kernel
theorem dX6_init_34 : decode cX6_init 34 = .ok (.putfield 25, 3) := by decide +kernel
theorem dX6_init_37 : decode cX6_init 37 = .ok (.aload_n 0, 1) := by decide +kernel
theorem dX6_init_38 : decode cX6_init 38 = .ok (.new 18, 3) := by decide +kernel
theorem dX6_init_41 : decode cX6_init 41 = .ok (.dup, 1) := by decide +kernel
theorem dX6_init_42 : decode cX6_init 42 = .ok (.invokespecial 20, 3) := by decide +kernel
theorem dX6_init_45 : decode cX6_init 45 = .ok (.putfield 28, 3) := by decide +kernel
theorem dX6_init_48 : decode cX6_init 48 = .ok (.aload_n 0, 1) := by decide +kernel
theorem dX6_init_49 : decode cX6_init 49 = .ok (.new 18, 3) := by decide +kernel
theorem dX6_init_52 : decode cX6_init 52 = .ok (.dup, 1) := by decide +kernel
theorem dX6_init_53 : decode cX6_init 53 = .ok (.invokespecial 20, 3) := by decide +kernel
theorem dX6_init_56 : decode cX6_init 56 = .ok (.putfield 31, 3) := by decide +kernel
theorem dX6_init_59 : decode cX6_init 59 = .ok (.aload_n 0, 1) := by decide +kernel
theorem dX6_init_60 : decode cX6_init 60 = .ok (.new 34, 3) := by decide +kernel
theorem dX6_init_63 : decode cX6_init 63 = .ok (.dup, 1) := by decide +kernel
theorem dX6_init_64 : decode cX6_init 64 = .ok (.iconst (-1), 1) := by decide +kernel
theorem dX6_init_65 : decode cX6_init 65 = .ok (.ldc 36, 2) := by decide +kernel
theorem dX6_init_67 : decode cX6_init 67 = .ok (.invokestatic 38, 3) := by decide +kernel
theorem dX6_init_70 : decode cX6_init 70 = .ok (.iconst 5, 1) := by decide +kernel
theorem dX6_init_71 : decode cX6_init 71 = .ok (.iconst 0, 1) := by decide +kernel
theorem dX6_init_72 : decode cX6_init 72 = .ok (.invokespecial 42, 3) := by decide +kernel
theorem dX6_init_75 : decode cX6_init 75 = .ok (.putfield 45, 3) := by decide +kernel
theorem dX6_init_78 : decode cX6_init 78 = .ok (.aload_n 0, 1) := by decide +kernel
theorem dX6_init_79 : decode cX6_init 79 = .ok (.new 34, 3) := by decide +kernel
theorem dX6_init_82 : decode cX6_init 82 = .ok (.dup, 1) := by decide +kernel
theorem dX6_init_83 : decode cX6_init 83 = .ok (.iconst (-1), 1) := by decide +kernel
theorem dX6_init_84 : decode cX6_init 84 = .ok (.ldc 48, 2) := by decide +kernel
theorem dX6_init_86 : decode cX6_init 86 = .ok (.invokestatic 38, 3) := by decide +kernel
theorem dX6_init_89 : decode cX6_init 89 = .ok (.iconst 3, 1) := by decide +kernel
theorem dX6_init_90 : decode cX6_init 90 = .ok (.iconst 0, 1) := by decide +kernel
theorem dX6_init_91 : decode cX6_init 91 = .ok (.invokespecial 42, 3) := by decide +kernel
theorem dX6_init_94 : decode cX6_init 94 = .ok (.putfield 50, 3) := by decide +kernel
theorem dX6_init_97 : decode cX6_init 97 = .ok (.aload_n 0, 1) := by decide +kernel
theorem dX6_init_98 : decode cX6_init 98 = .ok (.getfield 45, 3) := by decide +kernel
theorem dX6_init_101 : decode cX6_init 101 = .ok (.iconst 4, 1) := by decide +kernel
theorem dX6_init_102 : decode cX6_init 102 = .ok (.invokevirtual 52, 3) := by decide +kernel
theorem dX6_init_105 : decode cX6_init 105 = .ok (.return_, 1) := by decide +kernel
abbrev cX11_init : ByteArray := prog_1_method_1_code
def yX11_init : MethodName := ⟨RX11, "<init>", "()V"⟩
theorem dX11_init_0 : decode cX11_init 0 = .ok (.aload_n 0, 1) := by decide +kernel
theorem dX11_init_1 : decode cX11_init 1 = .ok (.invokespecial 1, 3) := by decide +kernel
theorem dX11_init_4 : decode cX11_init 4 = .ok (.aload_n 0, 1) := by decide +kernel
theorem dX11_init_5 : decode cX11_init 5 = .ok (.sipush 2500, 3) := by decide +kernel
theorem dX11_init_8 : decode cX11_init 8 = .ok (.newarray .byte, 2) := by decide +kernel
theorem dX11_init_10 : decode cX11_init 10 = .ok (.putfield 9, 3) := by decide +kernel
theorem dX11_init_13 : decode cX11_init 13 = .ok (.aload_n 0, 1) := by decide +kernel
theorem dX11_init_14 : decode cX11_init 14 = .ok (.bipush 40, 2) := by decide +kernel
theorem dX11_init_16 : decode cX11_init 16 = .ok (.newarray .int, 2) := by decide +kernel
theorem dX11_init_18 : decode cX11_init 18 = .ok (.putfield 13, 3) := by decide +kernel
theorem dX11_init_21 : decode cX11_init 21 = .ok (.aload_n 0, 1) := by decide +kernel
theorem dX11_init_22 : decode cX11_init 22 = .ok (.bipush 6, 2) := by decide +kernel
theorem dX11_init_24 : decode cX11_init 24 = .ok (.newarray .long, 2) := by decide +kernel
theorem dX11_init_26 : decode cX11_init 26 = .ok (.putfield 17, 3) := by decide +kernel
theorem dX11_init_29 : decode cX11_init 29 = .ok (.aload_n 0, 1) := by decide +kernel
theorem dX11_init_30 : decode cX11_init 30 = .ok (.new 21, 3) := by decide +kernel
theorem dX11_init_33 : decode cX11_init 33 = .ok (.dup, 1) := by decide +kernel
theorem dX11_init_34 : decode cX11_init 34 = .ok (.invokespecial 23, 3) := by decide +kernel
theorem dX11_init_37 : decode cX11_init 37 = .ok (.putfield 24, 3) := by decide +kernel
theorem dX11_init_40 : decode cX11_init 40 = .ok (.aload_n 0, 1) := by decide +kernel
theorem dX11_init_41 : decode cX11_init 41 = .ok (.new 21, 3) := by decide +kernel
theorem dX11_init_44 : decode cX11_init 44 = .ok (.dup, 1) := by decide +kernel
theorem dX11_init_45 : decode cX11_init 45 = .ok (.invokespecial 23, 3) := by decide +kernel
theorem dX11_init_48 : decode cX11_init 48 = .ok (.putfield 28, 3) := by decide +kernel
theorem dX11_init_51 : decode cX11_init 51 = .ok (.aload_n 0, 1) := by decide +kernel
theorem dX11_init_52 : decode cX11_init 52 = .ok (.new 31, 3) := by decide +kernel
theorem dX11_init_55 : decode cX11_init 55 = .ok (.dup, 1) := by decide +kernel
theorem dX11_init_56 : decode cX11_init 56 = .ok (.aload_n 0, 1) := by decide +kernel
theorem dX11_init_57 : decode cX11_init 57 = .ok (.getfield 28, 3) := by decide +kernel
theorem dX11_init_60 : decode cX11_init 60 = .ok (.invokespecial 33, 3) := by decide +kernel
theorem dX11_init_63 : decode cX11_init 63 = .ok (.putfield 36, 3) := by decide +kernel
theorem dX11_init_66 : decode cX11_init 66 = .ok (.aload_n 0, 1) := by decide +kernel
theorem dX11_init_67 : decode cX11_init 67 = .ok (.new 40, 3) := by decide +kernel
theorem dX11_init_70 : decode cX11_init 70 = .ok (.dup, 1) := by decide +kernel
theorem dX11_init_71 : decode cX11_init 71 = .ok (.aload_n 0, 1) := by decide +kernel
theorem dX11_init_72 : decode cX11_init 72 = .ok (.getfield 24, 3) := by decide +kernel
theorem dX11_init_75 : decode cX11_init 75 = .ok (.invokespecial 42, 3) := by decide +kernel
theorem dX11_init_78 : decode cX11_init 78 = .ok (.putfield 43, 3) := by decide +kernel
theorem dX11_init_81 : decode cX11_init 81 = .ok (.aload_n 0, 1) := by decide +kernel
theorem dX11_init_82 : decode cX11_init 82 = .ok (.new 47, 3) := by decide +kernel
theorem dX11_init_85 : decode cX11_init 85 = .ok (.dup, 1) := by decide +kernel
theorem dX11_init_86 : decode cX11_init 86 = .ok (.aload_n 0, 1) := by decide +kernel
theorem dX11_init_87 : decode cX11_init 87 = .ok (.getfield 24, 3) := by decide +kernel
theorem dX11_init_90 : decode cX11_init 90 = .ok (.invokespecial 49, 3) := by decide +kernel
theorem dX11_init_93 : decode cX11_init 93 = .ok (.putfield 50, 3) := by decide +kernel
theorem dX11_init_96 : decode cX11_init 96 = .ok (.aload_n 0, 1) := by decide +kernel
theorem dX11_init_97 : decode cX11_init 97 = .ok (.new 54, 3) := by decide +kernel
theorem dX11_init_100 : decode cX11_init 100 = .ok (.dup, 1) := by decide +kernel
theorem dX11_init_101 : decode cX11_init 101 = .ok (.aload_n 0, 1) := by decide +kernel
theorem dX11_init_102 : decode cX11_init 102 = .ok (.getfield 50, 3) := by decide +kernel
theorem dX11_init_105 : decode cX11_init 105 = .ok (.invokespecial 56, 3) := by decide +kernel
theorem dX11_init_108 : decode cX11_init 108 = .ok (.putfield 59, 3) := by decide +kernel
theorem dX11_init_111 : decode cX11_init 111 = .ok (.aload_n 0, 1) := by decide +kernel
theorem dX11_init_112 : decode cX11_init 112 = .ok (.bipush (-2), 2) := by decide +kernel
theorem dX11_init_114 : decode cX11_init 114 = .ok (.putfield 63, 3) := by decide +kernel
theorem dX11_init_117 : decode cX11_init 117 = .ok (.return_, 1) := by decide +kernel
def RJ0 : String := "java/lang/String"
def TJ0 : u_T := fun k => match k with
  | _ => ("", "", "", false)
def tyJ0 : Nat → FieldType := fun k => match k with
  | _ => .int
abbrev wsJ00 : List Cond := u_ws RJ0 TJ0 0
theorem nmJ0 : ∀ a, a < 0 → ∀ b, b < 0 → a ≠ b → (TJ0 a).2.1 ≠ (TJ0 b).2.1 := by decide +kernel
theorem tyJ0_ok : ∀ k, k < 0 → parseFieldDescriptor (TJ0 k).2.2.1 = some (tyJ0 k) := by decide +kernel
abbrev cJ0_length_8abf5 : ByteArray := prog_19_method_54_code
def yJ0_length_8abf5 : MethodName := ⟨RJ0, "length", "()I"⟩
theorem dJ0_length_8abf5_0 : decode cJ0_length_8abf5 0 = .ok (.aload_n 0, 1) := by decide +kernel
theorem dJ0_length_8abf5_1 : decode cJ0_length_8abf5 1 = .ok (.getfield 9, 3) := by decide +kernel
theorem dJ0_length_8abf5_4 : decode cJ0_length_8abf5 4 = .ok (.arraylength, 1) := by decide +kernel
theorem dJ0_length_8abf5_5 : decode cJ0_length_8abf5 5 = .ok (.aload_n 0, 1) := by decide +kernel
theorem dJ0_length_8abf5_6 : decode cJ0_length_8abf5 6 = .ok (.invokevirtual 335, 3) := by decide +kernel
theorem dJ0_length_8abf5_9 : decode cJ0_length_8abf5 9 = .ok (.ishr, 1) := by decide +kernel
theorem dJ0_length_8abf5_10 : decode cJ0_length_8abf5 10 = .ok (.ireturn, 1) := by decide +kernel
abbrev cJ0_charAt_5068e : ByteArray := prog_19_method_56_code
def yJ0_charAt_5068e : MethodName := ⟨RJ0, "charAt", "(I)C"⟩
theorem dJ0_charAt_5068e_0 : decode cJ0_charAt_5068e 0 = .ok (.aload_n 0, 1) := by decide +kernel
theorem dJ0_charAt_5068e_1 : decode cJ0_charAt_5068e 1 = .ok (.invokevirtual 492, 3) := by decide +kernel
theorem dJ0_charAt_5068e_4 : decode cJ0_charAt_5068e 4 = .ok (.ifCond .eq 12, 3) := by decide +kernel
theorem dJ0_charAt_5068e_7 : decode cJ0_charAt_5068e 7 = .ok (.aload_n 0, 1) := by decide +kernel
theorem dJ0_charAt_5068e_8 : decode cJ0_charAt_5068e 8 = .ok (.getfield 9, 3) := by decide +kernel
theorem dJ0_charAt_5068e_11 : decode cJ0_charAt_5068e 11 = .ok (.iload_n 1, 1) := by decide +kernel
theorem dJ0_charAt_5068e_12 : decode cJ0_charAt_5068e 12 = .ok (.invokestatic 495, 3) := by decide +kernel
theorem dJ0_charAt_5068e_15 : decode cJ0_charAt_5068e 15 = .ok (.ireturn, 1) := by decide +kernel
theorem dJ0_charAt_5068e_16 : decode cJ0_charAt_5068e 16 = .ok (.aload_n 0, 1) := by decide +kernel
theorem dJ0_charAt_5068e_17 : decode cJ0_charAt_5068e 17 = .ok (.getfield 9, 3) := by decide +kernel
theorem dJ0_charAt_5068e_20 : decode cJ0_charAt_5068e 20 = .ok (.iload_n 1, 1) := by decide +kernel
theorem dJ0_charAt_5068e_21 : decode cJ0_charAt_5068e 21 = .ok (.invokestatic 498, 3) := by decide +kernel
theorem dJ0_charAt_5068e_24 : decode cJ0_charAt_5068e 24 = .ok (.ireturn, 1) := by decide +kernel
abbrev cJ0_coder_7d493 : ByteArray := prog_19_method_152_code
def yJ0_coder_7d493 : MethodName := ⟨RJ0, "coder", "()B"⟩
theorem dJ0_coder_7d493_0 : decode cJ0_coder_7d493 0 = .ok (.getstatic 38, 3) := by decide +kernel
theorem dJ0_coder_7d493_3 : decode cJ0_coder_7d493 3 = .ok (.ifCond .eq 10, 3) := by decide +kernel
theorem dJ0_coder_7d493_6 : decode cJ0_coder_7d493 6 = .ok (.aload_n 0, 1) := by decide +kernel
theorem dJ0_coder_7d493_7 : decode cJ0_coder_7d493 7 = .ok (.getfield 15, 3) := by decide +kernel
theorem dJ0_coder_7d493_10 : decode cJ0_coder_7d493 10 = .ok (.goto 4, 3) := by decide +kernel
theorem dJ0_coder_7d493_13 : decode cJ0_coder_7d493 13 = .ok (.iconst 1, 1) := by decide +kernel
theorem dJ0_coder_7d493_14 : decode cJ0_coder_7d493 14 = .ok (.ireturn, 1) := by decide +kernel
abbrev cJ0_isLatin1_aae02 : ByteArray := prog_19_method_154_code
def yJ0_isLatin1_aae02 : MethodName := ⟨RJ0, "isLatin1", "()Z"⟩
theorem dJ0_isLatin1_aae02_0 : decode cJ0_isLatin1_aae02 0 = .ok (.getstatic 38, 3) := by decide +kernel
theorem dJ0_isLatin1_aae02_3 : decode cJ0_isLatin1_aae02 3 = .ok (.ifCond .eq 14, 3) := by decide +kernel
theorem dJ0_isLatin1_aae02_6 : decode cJ0_isLatin1_aae02 6 = .ok (.aload_n 0, 1) := by decide +kernel
theorem dJ0_isLatin1_aae02_7 : decode cJ0_isLatin1_aae02 7 = .ok (.getfield 15, 3) := by decide +kernel
theorem dJ0_isLatin1_aae02_10 : decode cJ0_isLatin1_aae02 10 = .ok (.ifCond .ne 7, 3) := by decide +kernel
theorem dJ0_isLatin1_aae02_13 : decode cJ0_isLatin1_aae02 13 = .ok (.iconst 1, 1) := by decide +kernel
theorem dJ0_isLatin1_aae02_14 : decode cJ0_isLatin1_aae02 14 = .ok (.goto 4, 3) := by decide +kernel
theorem dJ0_isLatin1_aae02_17 : decode cJ0_isLatin1_aae02 17 = .ok (.iconst 0, 1) := by decide +kernel
theorem dJ0_isLatin1_aae02_18 : decode cJ0_isLatin1_aae02 18 = .ok (.ireturn, 1) := by decide +kernel
abbrev cJ0_checkIndex_df160 : ByteArray := prog_19_method_155_code
def yJ0_checkIndex_df160 : MethodName := ⟨RJ0, "checkIndex", "(II)V"⟩
theorem dJ0_checkIndex_df160_0 : decode cJ0_checkIndex_df160 0 = .ok (.iload_n 0, 1) := by decide +kernel
theorem dJ0_checkIndex_df160_1 : decode cJ0_checkIndex_df160 1 = .ok (.iload_n 1, 1) := by decide +kernel
theorem dJ0_checkIndex_df160_2 : decode cJ0_checkIndex_df160 2 = .ok (.getstatic 1053, 3) := by decide +kernel
theorem dJ0_checkIndex_df160_5 : decode cJ0_checkIndex_df160 5 = .ok (.invokestatic 1059, 3) := by decide +kernel
theorem dJ0_checkIndex_df160_8 : decode cJ0_checkIndex_df160 8 = .ok (.pop, 1) := by decide +kernel
theorem dJ0_checkIndex_df160_9 : decode cJ0_checkIndex_df160 9 = .ok (.return_, 1) := by decide +kernel
def RJ1 : String := "java/lang/StringLatin1"
def TJ1 : u_T := fun k => match k with
  | _ => ("", "", "", false)
def tyJ1 : Nat → FieldType := fun k => match k with
  | _ => .int
abbrev wsJ10 : List Cond := u_ws RJ1 TJ1 0
theorem nmJ1 : ∀ a, a < 0 → ∀ b, b < 0 → a ≠ b → (TJ1 a).2.1 ≠ (TJ1 b).2.1 := by decide +kernel
theorem tyJ1_ok : ∀ k, k < 0 → parseFieldDescriptor (TJ1 k).2.2.1 = some (tyJ1 k) := by decide +kernel
abbrev cJ1_charAt_3b067 : ByteArray := prog_20_method_2_code
def yJ1_charAt_3b067 : MethodName := ⟨RJ1, "charAt", "([BI)C"⟩
theorem dJ1_charAt_3b067_0 : decode cJ1_charAt_3b067 0 = .ok (.iload_n 1, 1) := by decide +kernel
theorem dJ1_charAt_3b067_1 : decode cJ1_charAt_3b067 1 = .ok (.aload_n 0, 1) := by decide +kernel
theorem dJ1_charAt_3b067_2 : decode cJ1_charAt_3b067 2 = .ok (.arraylength, 1) := by decide +kernel
theorem dJ1_charAt_3b067_3 : decode cJ1_charAt_3b067 3 = .ok (.invokestatic 9, 3) := by decide +kernel
theorem dJ1_charAt_3b067_6 : decode cJ1_charAt_3b067 6 = .ok (.aload_n 0, 1) := by decide +kernel
theorem dJ1_charAt_3b067_7 : decode cJ1_charAt_3b067 7 = .ok (.iload_n 1, 1) := by decide +kernel
theorem dJ1_charAt_3b067_8 : decode cJ1_charAt_3b067 8 = .ok (.baload, 1) := by decide +kernel
theorem dJ1_charAt_3b067_9 : decode cJ1_charAt_3b067 9 = .ok (.sipush 255, 3) := by decide +kernel
theorem dJ1_charAt_3b067_12 : decode cJ1_charAt_3b067 12 = .ok (.iand, 1) := by decide +kernel
theorem dJ1_charAt_3b067_13 : decode cJ1_charAt_3b067 13 = .ok (.i2c, 1) := by decide +kernel
theorem dJ1_charAt_3b067_14 : decode cJ1_charAt_3b067 14 = .ok (.ireturn, 1) := by decide +kernel
def RJ3 : String := "jdk/internal/util/Preconditions"
def TJ3 : u_T := fun k => match k with
  | _ => ("", "", "", false)
def tyJ3 : Nat → FieldType := fun k => match k with
  | _ => .int
abbrev wsJ30 : List Cond := u_ws RJ3 TJ3 0
theorem nmJ3 : ∀ a, a < 0 → ∀ b, b < 0 → a ≠ b → (TJ3 a).2.1 ≠ (TJ3 b).2.1 := by decide +kernel
theorem tyJ3_ok : ∀ k, k < 0 → parseFieldDescriptor (TJ3 k).2.2.1 = some (tyJ3 k) := by decide +kernel
abbrev cJ3_checkIndex_8e157 : ByteArray := prog_33_method_11_code
def yJ3_checkIndex_8e157 : MethodName := ⟨RJ3, "checkIndex", "(IILjava/util/function/BiFunction;)I"⟩
theorem dJ3_checkIndex_8e157_0 : decode cJ3_checkIndex_8e157 0 = .ok (.iload_n 0, 1) := by decide +kernel
theorem dJ3_checkIndex_8e157_1 : decode cJ3_checkIndex_8e157 1 = .ok (.ifCond .lt 8, 3) := by decide +kernel
theorem dJ3_checkIndex_8e157_4 : decode cJ3_checkIndex_8e157 4 = .ok (.iload_n 0, 1) := by decide +kernel
theorem dJ3_checkIndex_8e157_5 : decode cJ3_checkIndex_8e157 5 = .ok (.iload_n 1, 1) := by decide +kernel
theorem dJ3_checkIndex_8e157_6 : decode cJ3_checkIndex_8e157 6 = .ok (.if_icmp .lt 10, 3) := by decide +kernel
theorem dJ3_checkIndex_8e157_9 : decode cJ3_checkIndex_8e157 9 = .ok (.aload_n 2, 1) := by decide +kernel
theorem dJ3_checkIndex_8e157_10 : decode cJ3_checkIndex_8e157 10 = .ok (.iload_n 0, 1) := by decide +kernel
theorem dJ3_checkIndex_8e157_11 : decode cJ3_checkIndex_8e157 11 = .ok (.iload_n 1, 1) := by decide +kernel
theorem dJ3_checkIndex_8e157_12 : decode cJ3_checkIndex_8e157 12 = .ok (.invokestatic 95, 3) := by decide +kernel
theorem dJ3_checkIndex_8e157_15 : decode cJ3_checkIndex_8e157 15 = .ok (.athrow, 1) := by decide +kernel
theorem dJ3_checkIndex_8e157_16 : decode cJ3_checkIndex_8e157 16 = .ok (.iload_n 0, 1) := by decide +kernel
theorem dJ3_checkIndex_8e157_17 : decode cJ3_checkIndex_8e157 17 = .ok (.ireturn, 1) := by decide +kernel
def RJxa1e45 : String := "java/util/AbstractCollection"
def TJxa1e45 : u_T := fun k => match k with
  | _ => ("", "", "", false)
def tyJxa1e45 : Nat → FieldType := fun k => match k with
  | _ => .int
abbrev wsJxa1e450 : List Cond := u_ws RJxa1e45 TJxa1e45 0
theorem nmJxa1e45 : ∀ a, a < 0 → ∀ b, b < 0 → a ≠ b → (TJxa1e45 a).2.1 ≠ (TJxa1e45 b).2.1 := by decide +kernel
theorem tyJxa1e45_ok : ∀ k, k < 0 → parseFieldDescriptor (TJxa1e45 k).2.2.1 = some (tyJxa1e45 k) := by decide +kernel
abbrev cJxa1e45_init_da8c8 : ByteArray := prog_23_method_1_code
def yJxa1e45_init_da8c8 : MethodName := ⟨RJxa1e45, "<init>", "()V"⟩
theorem dJxa1e45_init_da8c8_0 : decode cJxa1e45_init_da8c8 0 = .ok (.aload_n 0, 1) := by decide +kernel
theorem dJxa1e45_init_da8c8_1 : decode cJxa1e45_init_da8c8 1 = .ok (.invokespecial 1, 3) := by decide +kernel
theorem dJxa1e45_init_da8c8_4 : decode cJxa1e45_init_da8c8 4 = .ok (.return_, 1) := by decide +kernel
def RJxc12de : String := "java/util/AbstractList"
def TJxc12de : u_T := fun k => match k with
  | _ => ("", "", "", false)
def tyJxc12de : Nat → FieldType := fun k => match k with
  | _ => .int
abbrev wsJxc12de0 : List Cond := u_ws RJxc12de TJxc12de 0
theorem nmJxc12de : ∀ a, a < 0 → ∀ b, b < 0 → a ≠ b → (TJxc12de a).2.1 ≠ (TJxc12de b).2.1 := by decide +kernel
theorem tyJxc12de_ok : ∀ k, k < 0 → parseFieldDescriptor (TJxc12de k).2.2.1 = some (tyJxc12de k) := by decide +kernel
abbrev cJxc12de_init_da8c8 : ByteArray := prog_24_method_1_code
def yJxc12de_init_da8c8 : MethodName := ⟨RJxc12de, "<init>", "()V"⟩
theorem dJxc12de_init_da8c8_0 : decode cJxc12de_init_da8c8 0 = .ok (.aload_n 0, 1) := by decide +kernel
theorem dJxc12de_init_da8c8_1 : decode cJxc12de_init_da8c8 1 = .ok (.invokespecial 1, 3) := by decide +kernel
theorem dJxc12de_init_da8c8_4 : decode cJxc12de_init_da8c8 4 = .ok (.aload_n 0, 1) := by decide +kernel
theorem dJxc12de_init_da8c8_5 : decode cJxc12de_init_da8c8 5 = .ok (.iconst 0, 1) := by decide +kernel
theorem dJxc12de_init_da8c8_6 : decode cJxc12de_init_da8c8 6 = .ok (.putfield 7, 3) := by decide +kernel
theorem dJxc12de_init_da8c8_9 : decode cJxc12de_init_da8c8 9 = .ok (.return_, 1) := by decide +kernel
abbrev cJx4a65c_init_da8c8 : ByteArray := prog_25_method_2_code
def yJx4a65c_init_da8c8 : MethodName := ⟨RJx4a65c, "<init>", "()V"⟩
theorem dJx4a65c_init_da8c8_0 : decode cJx4a65c_init_da8c8 0 = .ok (.aload_n 0, 1) := by decide +kernel
theorem dJx4a65c_init_da8c8_1 : decode cJx4a65c_init_da8c8 1 = .ok (.invokespecial 1, 3) := by decide +kernel
theorem dJx4a65c_init_da8c8_4 : decode cJx4a65c_init_da8c8 4 = .ok (.aload_n 0, 1) := by decide +kernel
theorem dJx4a65c_init_da8c8_5 : decode cJx4a65c_init_da8c8 5 = .ok (.getstatic 39, 3) := by decide +kernel
theorem dJx4a65c_init_da8c8_8 : decode cJx4a65c_init_da8c8 8 = .ok (.putfield 9, 3) := by decide +kernel
theorem dJx4a65c_init_da8c8_11 : decode cJx4a65c_init_da8c8 11 = .ok (.return_, 1) := by decide +kernel
abbrev cJx4a65c_size_8abf5 : ByteArray := prog_25_method_8_code
def yJx4a65c_size_8abf5 : MethodName := ⟨RJx4a65c, "size", "()I"⟩
theorem dJx4a65c_size_8abf5_0 : decode cJx4a65c_size_8abf5 0 = .ok (.aload_n 0, 1) := by decide +kernel
theorem dJx4a65c_size_8abf5_1 : decode cJx4a65c_size_8abf5 1 = .ok (.getfield 48, 3) := by decide +kernel
theorem dJx4a65c_size_8abf5_4 : decode cJx4a65c_size_8abf5 4 = .ok (.ireturn, 1) := by decide +kernel
abbrev cJx4a65c_clear_da8c8 : ByteArray := prog_25_method_40_code
def yJx4a65c_clear_da8c8 : MethodName := ⟨RJx4a65c, "clear", "()V"⟩
theorem dJx4a65c_clear_da8c8_0 : decode cJx4a65c_clear_da8c8 0 = .ok (.aload_n 0, 1) := by decide +kernel
theorem dJx4a65c_clear_da8c8_1 : decode cJx4a65c_clear_da8c8 1 = .ok (.dup, 1) := by decide +kernel
theorem dJx4a65c_clear_da8c8_2 : decode cJx4a65c_clear_da8c8 2 = .ok (.getfield 63, 3) := by decide +kernel
theorem dJx4a65c_clear_da8c8_5 : decode cJx4a65c_clear_da8c8 5 = .ok (.iconst 1, 1) := by decide +kernel
theorem dJx4a65c_clear_da8c8_6 : decode cJx4a65c_clear_da8c8 6 = .ok (.iadd, 1) := by decide +kernel
theorem dJx4a65c_clear_da8c8_7 : decode cJx4a65c_clear_da8c8 7 = .ok (.putfield 63, 3) := by decide +kernel
theorem dJx4a65c_clear_da8c8_10 : decode cJx4a65c_clear_da8c8 10 = .ok (.aload_n 0, 1) := by decide +kernel
theorem dJx4a65c_clear_da8c8_11 : decode cJx4a65c_clear_da8c8 11 = .ok (.getfield 9, 3) := by decide +kernel
theorem dJx4a65c_clear_da8c8_14 : decode cJx4a65c_clear_da8c8 14 = .ok (.astore_n 1, 1) := by decide +kernel
theorem dJx4a65c_clear_da8c8_15 : decode cJx4a65c_clear_da8c8 15 = .ok (.aload_n 0, 1) := by decide +kernel
theorem dJx4a65c_clear_da8c8_16 : decode cJx4a65c_clear_da8c8 16 = .ok (.getfield 48, 3) := by decide +kernel
theorem dJx4a65c_clear_da8c8_19 : decode cJx4a65c_clear_da8c8 19 = .ok (.istore_n 2, 1) := by decide +kernel
theorem dJx4a65c_clear_da8c8_20 : decode cJx4a65c_clear_da8c8 20 = .ok (.aload_n 0, 1) := by decide +kernel
theorem dJx4a65c_clear_da8c8_21 : decode cJx4a65c_clear_da8c8 21 = .ok (.iconst 0, 1) := by decide +kernel
theorem dJx4a65c_clear_da8c8_22 : decode cJx4a65c_clear_da8c8 22 = .ok (.dup_x1, 1) := by decide +kernel
theorem dJx4a65c_clear_da8c8_23 : decode cJx4a65c_clear_da8c8 23 = .ok (.putfield 48, 3) := by decide +kernel
theorem dJx4a65c_clear_da8c8_26 : decode cJx4a65c_clear_da8c8 26 = .ok (.istore_n 3, 1) := by decide +kernel
theorem dJx4a65c_clear_da8c8_27 : decode cJx4a65c_clear_da8c8 27 = .ok (.iload_n 3, 1) := by decide +kernel
theorem dJx4a65c_clear_da8c8_28 : decode cJx4a65c_clear_da8c8 28 = .ok (.iload_n 2, 1) := by decide +kernel
theorem dJx4a65c_clear_da8c8_29 : decode cJx4a65c_clear_da8c8 29 = .ok (.if_icmp .ge 13, 3) := by decide +kernel
theorem dJx4a65c_clear_da8c8_32 : decode cJx4a65c_clear_da8c8 32 = .ok (.aload_n 1, 1) := by decide +kernel
theorem dJx4a65c_clear_da8c8_33 : decode cJx4a65c_clear_da8c8 33 = .ok (.iload_n 3, 1) := by decide +kernel
theorem dJx4a65c_clear_da8c8_34 : decode cJx4a65c_clear_da8c8 34 = .ok (.aconst_null, 1) := by decide +kernel
theorem dJx4a65c_clear_da8c8_35 : decode cJx4a65c_clear_da8c8 35 = .ok (.aastore, 1) := by decide +kernel
theorem dJx4a65c_clear_da8c8_36 : decode cJx4a65c_clear_da8c8 36 = .ok (.iinc 3 1, 3) := by decide +kernel
theorem dJx4a65c_clear_da8c8_39 : decode cJx4a65c_clear_da8c8 39 = .ok (.goto (-12), 3) := by decide +kernel
theorem dJx4a65c_clear_da8c8_42 : decode cJx4a65c_clear_da8c8 42 = .ok (.return_, 1) := by decide +kernel
