/-! ===== BEGIN words of one list among another's, by their places ===== -/
theorem goodIn_r {big : List Cond} (ws : List Cond) (ps : List Nat) (hp : ws = ps.filterMap (fun i => big[i]?)) (h : ws.all goodWord = true) : GoodIn big ws := by
  intro w hw
  have h1 := List.all_eq_true.mp h w hw
  rw [hp] at hw
  obtain ⟨i, -, hi⟩ := List.mem_filterMap.mp hw
  have hm : w ∈ big := by first | exact List.mem_of_getElem? hi | exact List.getElem?_mem hi
  exact ⟨hm, good_of_word h1⟩
theorem goodIn_app {big a b : List Cond} (ha : GoodIn big a) (hb : GoodIn big b) : GoodIn big (a ++ b) := fun w h => (List.mem_append.mp h).elim (ha w) (hb w)
theorem goodIn_ca {big a b : List Cond} {c : Cond} (ha : GoodIn big (c :: a)) (hb : GoodIn big b) : GoodIn big (c :: (a ++ b)) := fun w h => (List.mem_cons.mp h).elim (fun e => ha w (List.mem_cons.mpr (Or.inl e))) (fun h => (List.mem_append.mp h).elim (fun h => ha w (List.mem_cons.mpr (Or.inr h))) (hb w))
theorem goodIn_sub {big ws : List Cond} (hm : ∀ w ∈ ws, w ∈ big) (h : ws.all goodWord = true) : GoodIn big ws := fun w hw => ⟨hm w hw, good_of_word (List.all_eq_true.mp h w hw)⟩
/-! ===== END ===== -/

def RJx4a65c : String := "java/util/ArrayList"
def TJx4a65c : u_T := fun k => match k with
  | 0 => ("java/util/AbstractList", "modCount", "I", false)
  | 1 => ("java/util/ArrayList", "elementData", "[Ljava/lang/Object;", false)
  | _ => ("java/util/ArrayList", "size", "I", false)
def tyJx4a65c : Nat → FieldType := fun k => match k with
  | 0 => .int
  | 1 => .array (.object "java/lang/Object")
  | _ => .int
abbrev wsJx4a65c0 : List Cond := u_ws RJx4a65c TJx4a65c 3
theorem nmJx4a65c : ∀ a, a < 3 → ∀ b, b < 3 → a ≠ b → (TJx4a65c a).2.1 ≠ (TJx4a65c b).2.1 := by decide +kernel
theorem tyJx4a65c_ok : ∀ k, k < 3 → parseFieldDescriptor (TJx4a65c k).2.2.1 = some (tyJx4a65c k) := by decide +kernel
def RX0 : String := "PlainJava$Code"
def TX0 : u_T := fun k => match k with
  | 0 => ("PlainJava$Code", "order", "[I", true)
  | 1 => ("PlainJava$Code", "target", "[I", true)
  | 2 => ("PlainJava$Code", "exp", "[LPlainJava$Exp;", true)
  | 3 => ("PlainJava$Code", "owner", "[LPlainJava$Statement;", true)
  | 4 => ("PlainJava$Code", "size", "I", false)
  | 5 => ("PlainJava$Code", "program", "LPlainJava$Program;", false)
  | _ => ("PlainJava$Code", "current", "LPlainJava$Statement;", false)
def tyX0 : Nat → FieldType := fun k => match k with
  | 0 => .array .int
  | 1 => .array .int
  | 2 => .array (.object "PlainJava$Exp")
  | 3 => .array (.object "PlainJava$Statement")
  | 4 => .int
  | 5 => .object "PlainJava$Program"
  | _ => .object "PlainJava$Statement"
abbrev wsX00 : List Cond := u_ws RX0 TX0 7
theorem nmX0 : ∀ a, a < 7 → ∀ b, b < 7 → a ≠ b → (TX0 a).2.1 ≠ (TX0 b).2.1 := by decide +kernel
theorem tyX0_ok : ∀ k, k < 7 → parseFieldDescriptor (TX0 k).2.2.1 = some (tyX0 k) := by decide +kernel
def RX1 : String := "PlainJava$Exp"
def TX1 : u_T := fun k => match k with
  | 0 => ("PlainJava$Exp", "kind", "I", true)
  | 1 => ("PlainJava$Exp", "sign", "I", true)
  | 2 => ("PlainJava$Exp", "first", "I", true)
  | 3 => ("PlainJava$Exp", "start", "I", true)
  | 4 => ("PlainJava$Exp", "last", "I", false)
  | 5 => ("PlainJava$Exp", "number", "I", false)
  | 6 => ("PlainJava$Exp", "name", "I", false)
  | 7 => ("PlainJava$Exp", "link", "I", false)
  | 8 => ("PlainJava$Exp", "type", "I", false)
  | 9 => ("PlainJava$Exp", "work", "I", false)
  | 10 => ("PlainJava$Exp", "isConstant", "Z", false)
  | 11 => ("PlainJava$Exp", "value", "J", false)
  | 12 => ("PlainJava$Exp", "a", "LPlainJava$Exp;", false)
  | 13 => ("PlainJava$Exp", "b", "LPlainJava$Exp;", false)
  | 14 => ("PlainJava$Exp", "c", "LPlainJava$Exp;", false)
  | 15 => ("PlainJava$Exp", "next", "LPlainJava$Exp;", false)
  | 16 => ("PlainJava$Exp", "mark", "LPlainJava$Exp;", false)
  | _ => ("PlainJava$Exp", "address", "I", false)
def tyX1 : Nat → FieldType := fun k => match k with
  | 0 => .int
  | 1 => .int
  | 2 => .int
  | 3 => .int
  | 4 => .int
  | 5 => .int
  | 6 => .int
  | 7 => .int
  | 8 => .int
  | 9 => .int
  | 10 => .boolean
  | 11 => .long
  | 12 => .object "PlainJava$Exp"
  | 13 => .object "PlainJava$Exp"
  | 14 => .object "PlainJava$Exp"
  | 15 => .object "PlainJava$Exp"
  | 16 => .object "PlainJava$Exp"
  | _ => .int
abbrev wsX10 : List Cond := u_ws RX1 TX1 18
theorem nmX1 : ∀ a, a < 18 → ∀ b, b < 18 → a ≠ b → (TX1 a).2.1 ≠ (TX1 b).2.1 := by decide +kernel
theorem tyX1_ok : ∀ k, k < 18 → parseFieldDescriptor (TX1 k).2.2.1 = some (tyX1 k) := by decide +kernel
def RX2 : String := "PlainJava$Flow"
def TX2 : u_T := fun k => match k with
  | 0 => ("PlainJava$Flow", "program", "LPlainJava$Program;", false)
  | 1 => ("PlainJava$Flow", "whenTrue", "J", false)
  | 2 => ("PlainJava$Flow", "whenFalse", "J", false)
  | 3 => ("PlainJava$Flow", "aside", "[J", true)
  | _ => ("PlainJava$Flow", "asideCount", "I", false)
def tyX2 : Nat → FieldType := fun k => match k with
  | 0 => .object "PlainJava$Program"
  | 1 => .long
  | 2 => .long
  | 3 => .array .long
  | _ => .int
abbrev wsX20 : List Cond := u_ws RX2 TX2 5
theorem nmX2 : ∀ a, a < 5 → ∀ b, b < 5 → a ≠ b → (TX2 a).2.1 ≠ (TX2 b).2.1 := by decide +kernel
theorem tyX2_ok : ∀ k, k < 5 → parseFieldDescriptor (TX2 k).2.2.1 = some (tyX2 k) := by decide +kernel
def RX3 : String := "PlainJava$Judge"
def TX3 : u_T := fun k => match k with
  | 0 => ("PlainJava$Judge", "flow", "LPlainJava$Flow;", true)
  | _ => ("PlainJava$Judge", "program", "LPlainJava$Program;", false)
def tyX3 : Nat → FieldType := fun k => match k with
  | 0 => .object "PlainJava$Flow"
  | _ => .object "PlainJava$Program"
abbrev wsX30 : List Cond := u_ws RX3 TX3 2
theorem nmX3 : ∀ a, a < 2 → ∀ b, b < 2 → a ≠ b → (TX3 a).2.1 ≠ (TX3 b).2.1 := by decide +kernel
theorem tyX3_ok : ∀ k, k < 2 → parseFieldDescriptor (TX3 k).2.2.1 = some (tyX3 k) := by decide +kernel
def RX4 : String := "PlainJava$Machine"
def TX4 : u_T := fun k => match k with
  | 0 => ("PlainJava$Machine", "values", "[J", true)
  | 1 => ("PlainJava$Machine", "stack", "[J", true)
  | 2 => ("PlainJava$Machine", "floors", "[I", true)
  | 3 => ("PlainJava$Machine", "returns", "[I", true)
  | 4 => ("PlainJava$Machine", "ways", "[I", true)
  | 5 => ("PlainJava$Machine", "carried", "[J", true)
  | 6 => ("PlainJava$Machine", "goals", "[LPlainJava$Statement;", true)
  | 7 => ("PlainJava$Machine", "numbers", "[J", true)
  | 8 => ("PlainJava$Machine", "code", "LPlainJava$Code;", true)
  | 9 => ("PlainJava$Machine", "inputs", "[I", false)
  | 10 => ("PlainJava$Machine", "inputCount", "I", false)
  | 11 => ("PlainJava$Machine", "at", "I", false)
  | 12 => ("PlainJava$Machine", "top", "I", false)
  | 13 => ("PlainJava$Machine", "calls", "I", false)
  | 14 => ("PlainJava$Machine", "limit", "I", false)
  | 15 => ("PlainJava$Machine", "steps", "I", false)
  | 16 => ("PlainJava$Machine", "told", "I", false)
  | 17 => ("PlainJava$Machine", "taken", "I", false)
  | 18 => ("PlainJava$Machine", "latest", "I", false)
  | 19 => ("PlainJava$Machine", "outcome", "I", false)
  | _ => ("PlainJava$Machine", "result", "J", false)
def tyX4 : Nat → FieldType := fun k => match k with
  | 0 => .array .long
  | 1 => .array .long
  | 2 => .array .int
  | 3 => .array .int
  | 4 => .array .int
  | 5 => .array .long
  | 6 => .array (.object "PlainJava$Statement")
  | 7 => .array .long
  | 8 => .object "PlainJava$Code"
  | 9 => .array .int
  | 10 => .int
  | 11 => .int
  | 12 => .int
  | 13 => .int
  | 14 => .int
  | 15 => .int
  | 16 => .int
  | 17 => .int
  | 18 => .int
  | 19 => .int
  | _ => .long
abbrev wsX40 : List Cond := u_ws RX4 TX4 21
theorem nmX4 : ∀ a, a < 21 → ∀ b, b < 21 → a ≠ b → (TX4 a).2.1 ≠ (TX4 b).2.1 := by decide +kernel
theorem tyX4_ok : ∀ k, k < 21 → parseFieldDescriptor (TX4 k).2.2.1 = some (tyX4 k) := by decide +kernel
def RX5 : String := "PlainJava$Method"
def TX5 : u_T := fun k => match k with
  | 0 => ("PlainJava$Method", "name", "I", true)
  | 1 => ("PlainJava$Method", "key", "J", true)
  | 2 => ("PlainJava$Method", "type", "I", true)
  | 3 => ("PlainJava$Method", "paramTypes", "[I", true)
  | 4 => ("PlainJava$Method", "firstVariable", "I", true)
  | 5 => ("PlainJava$Method", "params", "I", false)
  | _ => ("PlainJava$Method", "body", "LPlainJava$Statement;", false)
def tyX5 : Nat → FieldType := fun k => match k with
  | 0 => .int
  | 1 => .long
  | 2 => .int
  | 3 => .array .int
  | 4 => .int
  | 5 => .int
  | _ => .object "PlainJava$Statement"
abbrev wsX50 : List Cond := u_ws RX5 TX5 7
theorem nmX5 : ∀ a, a < 7 → ∀ b, b < 7 → a ≠ b → (TX5 a).2.1 ≠ (TX5 b).2.1 := by decide +kernel
theorem tyX5_ok : ∀ k, k < 7 → parseFieldDescriptor (TX5 k).2.2.1 = some (tyX5 k) := by decide +kernel
def RX6 : String := "PlainJava$Program"
def TX6 : u_T := fun k => match k with
  | 0 => ("PlainJava$Program", "tokens", "LPlainJava$Tokens;", true)
  | 1 => ("PlainJava$Program", "methods", "Ljava/util/ArrayList;", true)
  | 2 => ("PlainJava$Program", "variables", "Ljava/util/ArrayList;", true)
  | 3 => ("PlainJava$Program", "exps", "Ljava/util/ArrayList;", true)
  | 4 => ("PlainJava$Program", "statements", "Ljava/util/ArrayList;", true)
  | 5 => ("PlainJava$Program", "out", "LPlainJava$Method;", true)
  | 6 => ("PlainJava$Program", "in", "LPlainJava$Method;", true)
  | 7 => ("PlainJava$Program", "error", "I", false)
  | _ => ("PlainJava$Program", "errorPlace", "I", false)
def tyX6 : Nat → FieldType := fun k => match k with
  | 0 => .object "PlainJava$Tokens"
  | 1 => .object "java/util/ArrayList"
  | 2 => .object "java/util/ArrayList"
  | 3 => .object "java/util/ArrayList"
  | 4 => .object "java/util/ArrayList"
  | 5 => .object "PlainJava$Method"
  | 6 => .object "PlainJava$Method"
  | 7 => .int
  | _ => .int
abbrev wsX60 : List Cond := u_ws RX6 TX6 9
theorem nmX6 : ∀ a, a < 9 → ∀ b, b < 9 → a ≠ b → (TX6 a).2.1 ≠ (TX6 b).2.1 := by decide +kernel
theorem tyX6_ok : ∀ k, k < 9 → parseFieldDescriptor (TX6 k).2.2.1 = some (tyX6 k) := by decide +kernel
def RX7 : String := "PlainJava$Reader"
def TX7 : u_T := fun k => match k with
  | 0 => ("PlainJava$Reader", "program", "LPlainJava$Program;", false)
  | 1 => ("PlainJava$Reader", "tokens", "LPlainJava$Tokens;", false)
  | 2 => ("PlainJava$Reader", "at", "I", false)
  | 3 => ("PlainJava$Reader", "fault", "I", false)
  | 4 => ("PlainJava$Reader", "place", "I", false)
  | 5 => ("PlainJava$Reader", "known", "J", false)
  | _ => ("PlainJava$Reader", "around", "LPlainJava$Statement;", false)
def tyX7 : Nat → FieldType := fun k => match k with
  | 0 => .object "PlainJava$Program"
  | 1 => .object "PlainJava$Tokens"
  | 2 => .int
  | 3 => .int
  | 4 => .int
  | 5 => .long
  | _ => .object "PlainJava$Statement"
abbrev wsX70 : List Cond := u_ws RX7 TX7 7
theorem nmX7 : ∀ a, a < 7 → ∀ b, b < 7 → a ≠ b → (TX7 a).2.1 ≠ (TX7 b).2.1 := by decide +kernel
theorem tyX7_ok : ∀ k, k < 7 → parseFieldDescriptor (TX7 k).2.2.1 = some (tyX7 k) := by decide +kernel
def RX8 : String := "PlainJava$Statement"
def TX8 : u_T := fun k => match k with
  | 0 => ("PlainJava$Statement", "kind", "I", true)
  | 1 => ("PlainJava$Statement", "first", "I", true)
  | 2 => ("PlainJava$Statement", "level", "I", true)
  | 3 => ("PlainJava$Statement", "parent", "LPlainJava$Statement;", true)
  | 4 => ("PlainJava$Statement", "known", "J", true)
  | 5 => ("PlainJava$Statement", "next", "LPlainJava$Statement;", false)
  | 6 => ("PlainJava$Statement", "body", "LPlainJava$Statement;", false)
  | 7 => ("PlainJava$Statement", "other", "LPlainJava$Statement;", false)
  | 8 => ("PlainJava$Statement", "last", "LPlainJava$Statement;", false)
  | 9 => ("PlainJava$Statement", "exp", "LPlainJava$Exp;", false)
  | 10 => ("PlainJava$Statement", "link", "I", false)
  | 11 => ("PlainJava$Statement", "target", "LPlainJava$Statement;", false)
  | 12 => ("PlainJava$Statement", "ends", "Z", false)
  | 13 => ("PlainJava$Statement", "broken", "Z", false)
  | 14 => ("PlainJava$Statement", "continued", "Z", false)
  | 15 => ("PlainJava$Statement", "before", "J", false)
  | 16 => ("PlainJava$Statement", "behind", "J", false)
  | 17 => ("PlainJava$Statement", "breaks", "J", false)
  | 18 => ("PlainJava$Statement", "continues", "J", false)
  | 19 => ("PlainJava$Statement", "entry", "I", false)
  | _ => ("PlainJava$Statement", "exit", "I", false)
def tyX8 : Nat → FieldType := fun k => match k with
  | 0 => .int
  | 1 => .int
  | 2 => .int
  | 3 => .object "PlainJava$Statement"
  | 4 => .long
  | 5 => .object "PlainJava$Statement"
  | 6 => .object "PlainJava$Statement"
  | 7 => .object "PlainJava$Statement"
  | 8 => .object "PlainJava$Statement"
  | 9 => .object "PlainJava$Exp"
  | 10 => .int
  | 11 => .object "PlainJava$Statement"
  | 12 => .boolean
  | 13 => .boolean
  | 14 => .boolean
  | 15 => .long
  | 16 => .long
  | 17 => .long
  | 18 => .long
  | 19 => .int
  | _ => .int
abbrev wsX80 : List Cond := u_ws RX8 TX8 21
theorem nmX8 : ∀ a, a < 21 → ∀ b, b < 21 → a ≠ b → (TX8 a).2.1 ≠ (TX8 b).2.1 := by decide +kernel
theorem tyX8_ok : ∀ k, k < 21 → parseFieldDescriptor (TX8 k).2.2.1 = some (tyX8 k) := by decide +kernel
def RX9 : String := "PlainJava$Tokens"
def TX9 : u_T := fun k => match k with
  | 0 => ("PlainJava$Tokens", "place", "[I", true)
  | 1 => ("PlainJava$Tokens", "size", "[I", true)
  | 2 => ("PlainJava$Tokens", "code", "[I", true)
  | 3 => ("PlainJava$Tokens", "meaning", "[I", true)
  | 4 => ("PlainJava$Tokens", "worth", "[J", true)
  | 5 => ("PlainJava$Tokens", "count", "I", false)
  | 6 => ("PlainJava$Tokens", "words", "[J", true)
  | 7 => ("PlainJava$Tokens", "text", "[B", false)
  | _ => ("PlainJava$Tokens", "length", "I", false)
def tyX9 : Nat → FieldType := fun k => match k with
  | 0 => .array .int
  | 1 => .array .int
  | 2 => .array .int
  | 3 => .array .int
  | 4 => .array .long
  | 5 => .int
  | 6 => .array .long
  | 7 => .array .byte
  | _ => .int
abbrev wsX90 : List Cond := u_ws RX9 TX9 9
theorem nmX9 : ∀ a, a < 9 → ∀ b, b < 9 → a ≠ b → (TX9 a).2.1 ≠ (TX9 b).2.1 := by decide +kernel
theorem tyX9_ok : ∀ k, k < 9 → parseFieldDescriptor (TX9 k).2.2.1 = some (tyX9 k) := by decide +kernel
def RX10 : String := "PlainJava$Variable"
def TX10 : u_T := fun k => match k with
  | 0 => ("PlainJava$Variable", "name", "I", true)
  | 1 => ("PlainJava$Variable", "type", "I", true)
  | 2 => ("PlainJava$Variable", "isFinal", "Z", true)
  | 3 => ("PlainJava$Variable", "method", "I", true)
  | 4 => ("PlainJava$Variable", "clashes", "Z", false)
  | 5 => ("PlainJava$Variable", "isConstant", "Z", false)
  | _ => ("PlainJava$Variable", "value", "J", false)
def tyX10 : Nat → FieldType := fun k => match k with
  | 0 => .int
  | 1 => .int
  | 2 => .boolean
  | 3 => .int
  | 4 => .boolean
  | 5 => .boolean
  | _ => .long
abbrev wsX100 : List Cond := u_ws RX10 TX10 7
theorem nmX10 : ∀ a, a < 7 → ∀ b, b < 7 → a ≠ b → (TX10 a).2.1 ≠ (TX10 b).2.1 := by decide +kernel
theorem tyX10_ok : ∀ k, k < 7 → parseFieldDescriptor (TX10 k).2.2.1 = some (tyX10 k) := by decide +kernel
def RX11 : String := "PlainJava"
def TX11 : u_T := fun k => match k with
  | 0 => ("PlainJava", "tape", "[B", true)
  | 1 => ("PlainJava", "inputs", "[I", true)
  | 2 => ("PlainJava", "arguments", "[J", true)
  | 3 => ("PlainJava", "program", "LPlainJava$Program;", false)
  | 4 => ("PlainJava", "spare", "LPlainJava$Program;", false)
  | 5 => ("PlainJava", "reader", "LPlainJava$Reader;", true)
  | 6 => ("PlainJava", "judge", "LPlainJava$Judge;", true)
  | 7 => ("PlainJava", "code", "LPlainJava$Code;", true)
  | 8 => ("PlainJava", "machine", "LPlainJava$Machine;", true)
  | 9 => ("PlainJava", "length", "I", false)
  | 10 => ("PlainJava", "inputCount", "I", false)
  | 11 => ("PlainJava", "place", "I", false)
  | _ => ("PlainJava", "hasRun", "Z", false)
def tyX11 : Nat → FieldType := fun k => match k with
  | 0 => .array .byte
  | 1 => .array .int
  | 2 => .array .long
  | 3 => .object "PlainJava$Program"
  | 4 => .object "PlainJava$Program"
  | 5 => .object "PlainJava$Reader"
  | 6 => .object "PlainJava$Judge"
  | 7 => .object "PlainJava$Code"
  | 8 => .object "PlainJava$Machine"
  | 9 => .int
  | 10 => .int
  | 11 => .int
  | _ => .boolean
abbrev wsX110 : List Cond := u_ws RX11 TX11 13
theorem nmX11 : ∀ a, a < 13 → ∀ b, b < 13 → a ≠ b → (TX11 a).2.1 ≠ (TX11 b).2.1 := by decide +kernel
theorem tyX11_ok : ∀ k, k < 13 → parseFieldDescriptor (TX11 k).2.2.1 = some (tyX11 k) := by decide +kernel
def RX12 : String := "PlainJavaModel"
def TX12 : u_T := fun k => match k with
  | 0 => ("PlainJavaModel", "tape", "[I", true)
  | 1 => ("PlainJavaModel", "taped", "I", false)
  | 2 => ("PlainJavaModel", "count", "I", false)
  | 3 => ("PlainJavaModel", "tKind", "[I", true)
  | 4 => ("PlainJavaModel", "tAt", "[I", true)
  | 5 => ("PlainJavaModel", "tSize", "[I", true)
  | 6 => ("PlainJavaModel", "tWhat", "[I", true)
  | 7 => ("PlainJavaModel", "tHigh", "[J", true)
  | 8 => ("PlainJavaModel", "tLow", "[I", true)
  | 9 => ("PlainJavaModel", "tValue", "[J", true)
  | 10 => ("PlainJavaModel", "tLong", "[Z", true)
  | 11 => ("PlainJavaModel", "tGreat", "[I", true)
  | 12 => ("PlainJavaModel", "end", "I", false)
  | 13 => ("PlainJavaModel", "scan", "I", false)
  | 14 => ("PlainJavaModel", "pos", "I", false)
  | 15 => ("PlainJavaModel", "fault", "I", false)
  | 16 => ("PlainJavaModel", "faultAt", "I", false)
  | 17 => ("PlainJavaModel", "deep", "I", false)
  | 18 => ("PlainJavaModel", "codes", "I", false)
  | 19 => ("PlainJavaModel", "cOp", "[I", true)
  | 20 => ("PlainJavaModel", "cA", "[I", true)
  | 21 => ("PlainJavaModel", "cB", "[I", true)
  | 22 => ("PlainJavaModel", "cTok", "[I", true)
  | 23 => ("PlainJavaModel", "cFirst", "[I", true)
  | 24 => ("PlainJavaModel", "cLast", "[I", true)
  | 25 => ("PlainJavaModel", "oSort", "[I", true)
  | 26 => ("PlainJavaModel", "oSign", "[I", true)
  | 27 => ("PlainJavaModel", "oToken", "[I", true)
  | 28 => ("PlainJavaModel", "oArgs", "[I", true)
  | 29 => ("PlainJavaModel", "opens", "I", false)
  | 30 => ("PlainJavaModel", "vFirst", "[I", true)
  | 31 => ("PlainJavaModel", "wholes", "I", false)
  | 32 => ("PlainJavaModel", "lastToken", "I", false)
  | 33 => ("PlainJavaModel", "rootOp", "I", false)
  | 34 => ("PlainJavaModel", "waiting", "Z", false)
  | 35 => ("PlainJavaModel", "beginsNext", "Z", false)
  | 36 => ("PlainJavaModel", "methods", "I", false)
  | 37 => ("PlainJavaModel", "mToken", "[I", true)
  | 38 => ("PlainJavaModel", "mType", "[I", true)
  | 39 => ("PlainJavaModel", "mParams", "[I", true)
  | 40 => ("PlainJavaModel", "mFirst", "[I", true)
  | 41 => ("PlainJavaModel", "mCode", "[I", true)
  | 42 => ("PlainJavaModel", "variables", "I", false)
  | 43 => ("PlainJavaModel", "vToken", "[I", true)
  | 44 => ("PlainJavaModel", "vType", "[I", true)
  | 45 => ("PlainJavaModel", "vFinal", "[Z", true)
  | 46 => ("PlainJavaModel", "vMethod", "[I", true)
  | 47 => ("PlainJavaModel", "vFrame", "[I", true)
  | 48 => ("PlainJavaModel", "vEnd", "[I", true)
  | 49 => ("PlainJavaModel", "things", "I", false)
  | 50 => ("PlainJavaModel", "kSort", "[I", true)
  | 51 => ("PlainJavaModel", "kFrom", "[I", true)
  | 52 => ("PlainJavaModel", "kCond", "[I", true)
  | 53 => ("PlainJavaModel", "kUpdate", "[I", true)
  | 54 => ("PlainJavaModel", "kBody", "[I", true)
  | 55 => ("PlainJavaModel", "kEnd", "[I", true)
  | 56 => ("PlainJavaModel", "kElse", "[I", true)
  | 57 => ("PlainJavaModel", "kCatch", "[I", true)
  | 58 => ("PlainJavaModel", "kFinally", "[I", true)
  | 59 => ("PlainJavaModel", "kDefault", "[I", true)
  | 60 => ("PlainJavaModel", "kToken", "[I", true)
  | 61 => ("PlainJavaModel", "kVariable", "[I", true)
  | 62 => ("PlainJavaModel", "frames", "I", false)
  | 63 => ("PlainJavaModel", "fSort", "[I", true)
  | 64 => ("PlainJavaModel", "fThing", "[I", true)
  | 65 => ("PlainJavaModel", "fStep", "[I", true)
  | 66 => ("PlainJavaModel", "error", "I", false)
  | 67 => ("PlainJavaModel", "errorAt", "I", false)
  | 68 => ("PlainJavaModel", "judged", "Z", false)
  | 69 => ("PlainJavaModel", "lies", "I", false)
  | 70 => ("PlainJavaModel", "sType", "[I", true)
  | 71 => ("PlainJavaModel", "sSure", "[Z", true)
  | 72 => ("PlainJavaModel", "sValue", "[J", true)
  | 73 => ("PlainJavaModel", "sFirst", "[I", true)
  | 74 => ("PlainJavaModel", "exps0", "I", false)
  | 75 => ("PlainJavaModel", "xFirst", "[I", true)
  | 76 => ("PlainJavaModel", "xLast", "[I", true)
  | 77 => ("PlainJavaModel", "xType", "[I", true)
  | 78 => ("PlainJavaModel", "xSure", "[Z", true)
  | 79 => ("PlainJavaModel", "xValue", "[J", true)
  | 80 => ("PlainJavaModel", "tMean", "[I", true)
  | 81 => ("PlainJavaModel", "cType", "[I", true)
  | 82 => ("PlainJavaModel", "cWork", "[I", true)
  | 83 => ("PlainJavaModel", "cWhat", "[I", true)
  | 84 => ("PlainJavaModel", "cSure", "[Z", true)
  | 85 => ("PlainJavaModel", "cValue", "[J", true)
  | 86 => ("PlainJavaModel", "vSure", "[Z", true)
  | 87 => ("PlainJavaModel", "vValue", "[J", true)
  | 88 => ("PlainJavaModel", "kType", "[I", true)
  | 89 => ("PlainJavaModel", "inMethod", "I", false)
  | 90 => ("PlainJavaModel", "labels", "[I", true)
  | 91 => ("PlainJavaModel", "labelCount", "I", false)
  | 92 => ("PlainJavaModel", "alive", "Z", false)
  | 93 => ("PlainJavaModel", "whenTrue", "J", false)
  | 94 => ("PlainJavaModel", "whenFalse", "J", false)
  | 95 => ("PlainJavaModel", "kAlive", "[Z", true)
  | 96 => ("PlainJavaModel", "kBits", "[J", true)
  | 97 => ("PlainJavaModel", "kOther", "[Z", true)
  | 98 => ("PlainJavaModel", "kOtherBits", "[J", true)
  | 99 => ("PlainJavaModel", "kBefore", "[J", true)
  | 100 => ("PlainJavaModel", "opened", "I", false)
  | 101 => ("PlainJavaModel", "openTrue", "[J", true)
  | 102 => ("PlainJavaModel", "openFalse", "[J", true)
  | 103 => ("PlainJavaModel", "jumps", "I", false)
  | 104 => ("PlainJavaModel", "jTo", "[I", true)
  | 105 => ("PlainJavaModel", "jOn", "[Z", true)
  | 106 => ("PlainJavaModel", "jFrom", "[I", true)
  | 107 => ("PlainJavaModel", "jAlive", "[Z", true)
  | 108 => ("PlainJavaModel", "jBits", "[J", true)
  | 109 => ("PlainJavaModel", "isS", "[Z", true)
  | 110 => ("PlainJavaModel", "sBits", "[J", true)
  | 111 => ("PlainJavaModel", "sEnds", "[Z", true)
  | 112 => ("PlainJavaModel", "late", "I", false)
  | 113 => ("PlainJavaModel", "lateAt", "I", false)
  | 114 => ("PlainJavaModel", "unset", "I", false)
  | 115 => ("PlainJavaModel", "unsetAt", "I", false)
  | 116 => ("PlainJavaModel", "comes", "Z", false)
  | 117 => ("PlainJavaModel", "deadStep", "I", false)
  | 118 => ("PlainJavaModel", "kept", "[I", true)
  | 119 => ("PlainJavaModel", "keptSize", "I", false)
  | 120 => ("PlainJavaModel", "placed", "I", false)
  | 121 => ("PlainJavaModel", "ran", "Z", false)
  | 122 => ("PlainJavaModel", "input", "[I", true)
  | 123 => ("PlainJavaModel", "inputs", "I", false)
  | 124 => ("PlainJavaModel", "argument", "[J", true)
  | 125 => ("PlainJavaModel", "cLink", "[I", true)
  | 126 => ("PlainJavaModel", "linked", "[I", true)
  | 127 => ("PlainJavaModel", "pile", "[J", true)
  | 128 => ("PlainJavaModel", "height", "I", false)
  | 129 => ("PlainJavaModel", "calls", "I", false)
  | 130 => ("PlainJavaModel", "own", "[J", true)
  | 131 => ("PlainJavaModel", "backTo", "[I", true)
  | 132 => ("PlainJavaModel", "callOf", "[I", true)
  | 133 => ("PlainJavaModel", "tries", "I", false)
  | 134 => ("PlainJavaModel", "yThing", "[I", true)
  | 135 => ("PlainJavaModel", "yCall", "[I", true)
  | 136 => ("PlainJavaModel", "yHeight", "[I", true)
  | 137 => ("PlainJavaModel", "yState", "[I", true)
  | 138 => ("PlainJavaModel", "yKind", "[I", true)
  | 139 => ("PlainJavaModel", "yTo", "[I", true)
  | 140 => ("PlainJavaModel", "yValue", "[J", true)
  | 141 => ("PlainJavaModel", "pc", "I", false)
  | 142 => ("PlainJavaModel", "stopped", "I", false)
  | 143 => ("PlainJavaModel", "ranValue", "J", false)
  | 144 => ("PlainJavaModel", "steps", "I", false)
  | 145 => ("PlainJavaModel", "most", "I", false)
  | 146 => ("PlainJavaModel", "taken", "I", false)
  | 147 => ("PlainJavaModel", "latest", "I", false)
  | 148 => ("PlainJavaModel", "tolds", "I", false)
  | _ => ("PlainJavaModel", "toldNumber", "[J", true)
def tyX12 : Nat → FieldType := fun k => match k with
  | 0 => .array .int
  | 1 => .int
  | 2 => .int
  | 3 => .array .int
  | 4 => .array .int
  | 5 => .array .int
  | 6 => .array .int
  | 7 => .array .long
  | 8 => .array .int
  | 9 => .array .long
  | 10 => .array .boolean
  | 11 => .array .int
  | 12 => .int
  | 13 => .int
  | 14 => .int
  | 15 => .int
  | 16 => .int
  | 17 => .int
  | 18 => .int
  | 19 => .array .int
  | 20 => .array .int
  | 21 => .array .int
  | 22 => .array .int
  | 23 => .array .int
  | 24 => .array .int
  | 25 => .array .int
  | 26 => .array .int
  | 27 => .array .int
  | 28 => .array .int
  | 29 => .int
  | 30 => .array .int
  | 31 => .int
  | 32 => .int
  | 33 => .int
  | 34 => .boolean
  | 35 => .boolean
  | 36 => .int
  | 37 => .array .int
  | 38 => .array .int
  | 39 => .array .int
  | 40 => .array .int
  | 41 => .array .int
  | 42 => .int
  | 43 => .array .int
  | 44 => .array .int
  | 45 => .array .boolean
  | 46 => .array .int
  | 47 => .array .int
  | 48 => .array .int
  | 49 => .int
  | 50 => .array .int
  | 51 => .array .int
  | 52 => .array .int
  | 53 => .array .int
  | 54 => .array .int
  | 55 => .array .int
  | 56 => .array .int
  | 57 => .array .int
  | 58 => .array .int
  | 59 => .array .int
  | 60 => .array .int
  | 61 => .array .int
  | 62 => .int
  | 63 => .array .int
  | 64 => .array .int
  | 65 => .array .int
  | 66 => .int
  | 67 => .int
  | 68 => .boolean
  | 69 => .int
  | 70 => .array .int
  | 71 => .array .boolean
  | 72 => .array .long
  | 73 => .array .int
  | 74 => .int
  | 75 => .array .int
  | 76 => .array .int
  | 77 => .array .int
  | 78 => .array .boolean
  | 79 => .array .long
  | 80 => .array .int
  | 81 => .array .int
  | 82 => .array .int
  | 83 => .array .int
  | 84 => .array .boolean
  | 85 => .array .long
  | 86 => .array .boolean
  | 87 => .array .long
  | 88 => .array .int
  | 89 => .int
  | 90 => .array .int
  | 91 => .int
  | 92 => .boolean
  | 93 => .long
  | 94 => .long
  | 95 => .array .boolean
  | 96 => .array .long
  | 97 => .array .boolean
  | 98 => .array .long
  | 99 => .array .long
  | 100 => .int
  | 101 => .array .long
  | 102 => .array .long
  | 103 => .int
  | 104 => .array .int
  | 105 => .array .boolean
  | 106 => .array .int
  | 107 => .array .boolean
  | 108 => .array .long
  | 109 => .array .boolean
  | 110 => .array .long
  | 111 => .array .boolean
  | 112 => .int
  | 113 => .int
  | 114 => .int
  | 115 => .int
  | 116 => .boolean
  | 117 => .int
  | 118 => .array .int
  | 119 => .int
  | 120 => .int
  | 121 => .boolean
  | 122 => .array .int
  | 123 => .int
  | 124 => .array .long
  | 125 => .array .int
  | 126 => .array .int
  | 127 => .array .long
  | 128 => .int
  | 129 => .int
  | 130 => .array .long
  | 131 => .array .int
  | 132 => .array .int
  | 133 => .int
  | 134 => .array .int
  | 135 => .array .int
  | 136 => .array .int
  | 137 => .array .int
  | 138 => .array .int
  | 139 => .array .int
  | 140 => .array .long
  | 141 => .int
  | 142 => .int
  | 143 => .long
  | 144 => .int
  | 145 => .int
  | 146 => .int
  | 147 => .int
  | 148 => .int
  | _ => .array .long
abbrev wsX120 : List Cond := u_ws RX12 TX12 150
theorem nmX12 : ∀ a, a < 150 → ∀ b, b < 150 → a ≠ b → (TX12 a).2.1 ≠ (TX12 b).2.1 := by decide +kernel
theorem tyX12_ok : ∀ k, k < 150 → parseFieldDescriptor (TX12 k).2.2.1 = some (tyX12 k) := by decide +kernel
abbrev vwCl : List vw_C := [(RJx4a65c, TJx4a65c, 3), (RX0, TX0, 7), (RX1, TX1, 18), (RX2, TX2, 5), (RX3, TX3, 2), (RX4, TX4, 21), (RX5, TX5, 7), (RX6, TX6, 9), (RX7, TX7, 7), (RX8, TX8, 21), (RX9, TX9, 9), (RX10, TX10, 7), (RX11, TX11, 13), (RX12, TX12, 150)]
abbrev cX12_init : ByteArray := prog_14_method_1_code
def yX12_init : MethodName := ⟨RX12, "<init>", "()V"⟩
theorem dX12_init_0 : decode cX12_init 0 = .ok (.aload_n 0, 1) := by decide +kernel
theorem dX12_init_1 : decode cX12_init 1 = .ok (.invokespecial 1, 3) := by decide +kernel
theorem dX12_init_4 : decode cX12_init 4 = .ok (.aload_n 0, 1) := by decide +kernel
theorem dX12_init_5 : decode cX12_init 5 = .ok (.sipush 2500, 3) := by decide +kernel
theorem dX12_init_8 : decode cX12_init 8 = .ok (.newarray .int, 2) := by decide +kernel
theorem dX12_init_10 : decode cX12_init 10 = .ok (.putfield 7, 3) := by decide +kernel
theorem dX12_init_13 : decode cX12_init 13 = .ok (.aload_n 0, 1) := by decide +kernel
theorem dX12_init_14 : decode cX12_init 14 = .ok (.sipush 2600, 3) := by decide +kernel
theorem dX12_init_17 : decode cX12_init 17 = .ok (.newarray .int, 2) := by decide +kernel
theorem dX12_init_19 : decode cX12_init 19 = .ok (.putfield 13, 3) := by decide +kernel
theorem dX12_init_22 : decode cX12_init 22 = .ok (.aload_n 0, 1) := by decide +kernel
theorem dX12_init_23 : decode cX12_init 23 = .ok (.sipush 2600, 3) := by decide +kernel
theorem dX12_init_26 : decode cX12_init 26 = .ok (.newarray .int, 2) := by decide +kernel
theorem dX12_init_28 : decode cX12_init 28 = .ok (.putfield 16, 3) := by decide +kernel
theorem dX12_init_31 : decode cX12_init 31 = .ok (.aload_n 0, 1) := by decide +kernel
theorem dX12_init_32 : decode cX12_init 32 = .ok (.sipush 2600, 3) := by decide +kernel
theorem dX12_init_35 : decode cX12_init 35 = .ok (.newarray .int, 2) := by decide +kernel
theorem dX12_init_37 : decode cX12_init 37 = .ok (.putfield 19, 3) := by decide +kernel
theorem dX12_init_40 : decode cX12_init 40 = .ok (.aload_n 0, 1) := by decide +kernel
theorem dX12_init_41 : decode cX12_init 41 = .ok (.sipush 2600, 3) := by decide +kernel
theorem dX12_init_44 : decode cX12_init 44 = .ok (.newarray .int, 2) := by decide +kernel
theorem dX12_init_46 : decode cX12_init 46 = .ok (.putfield 22, 3) := by decide +kernel
theorem dX12_init_49 : decode cX12_init 49 = .ok (.aload_n 0, 1) := by decide +kernel
theorem dX12_init_50 : decode cX12_init 50 = .ok (.sipush 2600, 3) := by decide +kernel
theorem dX12_init_53 : decode cX12_init 53 = .ok (.newarray .long, 2) := by decide +kernel
theorem dX12_init_55 : decode cX12_init 55 = .ok (.putfield 25, 3) := by decide +kernel
theorem dX12_init_58 : decode cX12_init 58 = .ok (.aload_n 0, 1) := by decide +kernel
theorem dX12_init_59 : decode cX12_init 59 = .ok (.sipush 2600, 3) := by decide +kernel
theorem dX12_init_62 : decode cX12_init 62 = .ok (.newarray .int, 2) := by decide +kernel
theorem dX12_init_64 : decode cX12_init 64 = .ok (.putfield 29, 3) := by decide +kernel
theorem dX12_init_67 : decode cX12_init 67 = .ok (.aload_n 0, 1) := by decide +kernel
theorem dX12_init_68 : decode cX12_init 68 = .ok (.sipush 2600, 3) := by decide +kernel
theorem dX12_init_71 : decode cX12_init 71 = .ok (.newarray .long, 2) := by decide +kernel
theorem dX12_init_73 : decode cX12_init 73 = .ok (.putfield 32, 3) := by decide +kernel
theorem dX12_init_76 : decode cX12_init 76 = .ok (.aload_n 0, 1) := by decide +kernel
theorem dX12_init_77 : decode cX12_init 77 = .ok (.sipush 2600, 3) := by decide +kernel
theorem dX12_init_80 : decode cX12_init 80 = .ok (.newarray .boolean, 2) := by decide +kernel
theorem dX12_init_82 : decode cX12_init 82 = .ok (.putfield 35, 3) := by decide +kernel
theorem dX12_init_85 : decode cX12_init 85 = .ok (.aload_n 0, 1) := by decide +kernel
theorem dX12_init_86 : decode cX12_init 86 = .ok (.sipush 2600, 3) := by decide +kernel
theorem dX12_init_89 : decode cX12_init 89 = .ok (.newarray .int, 2) := by decide +kernel
theorem dX12_init_91 : decode cX12_init 91 = .ok (.putfield 39, 3) := by decide +kernel
theorem dX12_init_94 : decode cX12_init 94 = .ok (.aload_n 0, 1) := by decide +kernel
theorem dX12_init_95 : decode cX12_init 95 = .ok (.sipush 4000, 3) := by decide +kernel
theorem dX12_init_98 : decode cX12_init 98 = .ok (.newarray .int, 2) := by decide +kernel
theorem dX12_init_100 : decode cX12_init 100 = .ok (.putfield 42, 3) := by decide +kernel
theorem dX12_init_103 : decode cX12_init 103 = .ok (.aload_n 0, 1) := by decide +kernel
theorem dX12_init_104 : decode cX12_init 104 = .ok (.sipush 4000, 3) := by decide +kernel
theorem dX12_init_107 : decode cX12_init 107 = .ok (.newarray .int, 2) := by decide +kernel
theorem dX12_init_109 : decode cX12_init 109 = .ok (.putfield 45, 3) := by decide +kernel
theorem dX12_init_112 : decode cX12_init 112 = .ok (.aload_n 0, 1) := by decide +kernel
theorem dX12_init_113 : decode cX12_init 113 = .ok (.sipush 4000, 3) := by decide +kernel
theorem dX12_init_116 : decode cX12_init 116 = .ok (.newarray .int, 2) := by decide +kernel
theorem dX12_init_118 : decode cX12_init 118 = .ok (.putfield 48, 3) := by decide +kernel
theorem dX12_init_121 : decode cX12_init 121 = .ok (.aload_n 0, 1) := by decide +kernel
theorem dX12_init_122 : decode cX12_init 122 = .ok (.sipush 4000, 3) := by decide +kernel
theorem dX12_init_125 : decode cX12_init 125 = .ok (.newarray .int, 2) := by decide +kernel
theorem dX12_init_127 : decode cX12_init 127 = .ok (.putfield 51, 3) := by decide +kernel
theorem dX12_init_130 : decode cX12_init 130 = .ok (.aload_n 0, 1) := by decide +kernel
theorem dX12_init_131 : decode cX12_init 131 = .ok (.sipush 4000, 3) := by decide +kernel
theorem dX12_init_134 : decode cX12_init 134 = .ok (.newarray .int, 2) := by decide +kernel
theorem dX12_init_136 : decode cX12_init 136 = .ok (.putfield 54, 3) := by decide +kernel
theorem dX12_init_139 : decode cX12_init 139 = .ok (.aload_n 0, 1) := by decide +kernel
theorem dX12_init_140 : decode cX12_init 140 = .ok (.sipush 4000, 3) := by decide +kernel
theorem dX12_init_143 : decode cX12_init 143 = .ok (.newarray .int, 2) := by decide +kernel
theorem dX12_init_145 : decode cX12_init 145 = .ok (.putfield 57, 3) := by decide +kernel
theorem dX12_init_148 : decode cX12_init 148 = .ok (.aload_n 0, 1) := by decide +kernel
theorem dX12_init_149 : decode cX12_init 149 = .ok (.sipush 600, 3) := by decide +kernel
theorem dX12_init_152 : decode cX12_init 152 = .ok (.newarray .int, 2) := by decide +kernel
theorem dX12_init_154 : decode cX12_init 154 = .ok (.putfield 60, 3) := by decide +kernel
theorem dX12_init_157 : decode cX12_init 157 = .ok (.aload_n 0, 1) := by decide +kernel
theorem dX12_init_158 : decode cX12_init 158 = .ok (.sipush 600, 3) := by decide +kernel
theorem dX12_init_161 : decode cX12_init 161 = .ok (.newarray .int, 2) := by decide +kernel
theorem dX12_init_163 : decode cX12_init 163 = .ok (.putfield 63, 3) := by decide +kernel
theorem dX12_init_166 : decode cX12_init 166 = .ok (.aload_n 0, 1) := by decide +kernel
theorem dX12_init_167 : decode cX12_init 167 = .ok (.sipush 600, 3) := by decide +kernel
theorem dX12_init_170 : decode cX12_init 170 = .ok (.newarray .int, 2) := by decide +kernel
theorem dX12_init_172 : decode cX12_init 172 = .ok (.putfield 66, 3) := by decide +kernel
theorem dX12_init_175 : decode cX12_init 175 = .ok (.aload_n 0, 1) := by decide +kernel
theorem dX12_init_176 : decode cX12_init 176 = .ok (.sipush 600, 3) := by decide +kernel
theorem dX12_init_179 : decode cX12_init 179 = .ok (.newarray .int, 2) := by decide +kernel
theorem dX12_init_181 : decode cX12_init 181 = .ok (.putfield 69, 3) := by decide +kernel
theorem dX12_init_184 : decode cX12_init 184 = .ok (.aload_n 0, 1) := by decide +kernel
theorem dX12_init_185 : decode cX12_init 185 = .ok (.sipush 600, 3) := by decide +kernel
theorem dX12_init_188 : decode cX12_init 188 = .ok (.newarray .int, 2) := by decide +kernel
theorem dX12_init_190 : decode cX12_init 190 = .ok (.putfield 72, 3) := by decide +kernel
theorem dX12_init_193 : decode cX12_init 193 = .ok (.aload_n 0, 1) := by decide +kernel
theorem dX12_init_194 : decode cX12_init 194 = .ok (.bipush 16, 2) := by decide +kernel
theorem dX12_init_196 : decode cX12_init 196 = .ok (.newarray .int, 2) := by decide +kernel
theorem dX12_init_198 : decode cX12_init 198 = .ok (.putfield 75, 3) := by decide +kernel
theorem dX12_init_201 : decode cX12_init 201 = .ok (.aload_n 0, 1) := by decide +kernel
theorem dX12_init_202 : decode cX12_init 202 = .ok (.bipush 16, 2) := by decide +kernel
theorem dX12_init_204 : decode cX12_init 204 = .ok (.newarray .int, 2) := by decide +kernel
theorem dX12_init_206 : decode cX12_init 206 = .ok (.putfield 78, 3) := by decide +kernel
theorem dX12_init_209 : decode cX12_init 209 = .ok (.aload_n 0, 1) := by decide +kernel
theorem dX12_init_210 : decode cX12_init 210 = .ok (.bipush 16, 2) := by decide +kernel
theorem dX12_init_212 : decode cX12_init 212 = .ok (.newarray .int, 2) := by decide +kernel
theorem dX12_init_214 : decode cX12_init 214 = .ok (.putfield 81, 3) := by decide +kernel
theorem dX12_init_217 : decode cX12_init 217 = .ok (.aload_n 0, 1) := by decide +kernel
theorem dX12_init_218 : decode cX12_init 218 = .ok (.bipush 16, 2) := by decide +kernel
theorem dX12_init_220 : decode cX12_init 220 = .ok (.newarray .int, 2) := by decide +kernel
theorem dX12_init_222 : decode cX12_init 222 = .ok (.putfield 84, 3) := by decide +kernel
theorem dX12_init_225 : decode cX12_init 225 = .ok (.aload_n 0, 1) := by decide +kernel
theorem dX12_init_226 : decode cX12_init 226 = .ok (.bipush 16, 2) := by decide +kernel
theorem dX12_init_228 : decode cX12_init 228 = .ok (.newarray .int, 2) := by decide +kernel
theorem dX12_init_230 : decode cX12_init 230 = .ok (.putfield 87, 3) := by decide +kernel
theorem dX12_init_233 : decode cX12_init 233 = .ok (.aload_n 0, 1) := by decide +kernel
theorem dX12_init_234 : decode cX12_init 234 = .ok (.bipush 64, 2) := by decide +kernel
theorem dX12_init_236 : decode cX12_init 236 = .ok (.newarray .int, 2) := by decide +kernel
theorem dX12_init_238 : decode cX12_init 238 = .ok (.putfield 90, 3) := by decide +kernel
theorem dX12_init_241 : decode cX12_init 241 = .ok (.aload_n 0, 1) := by decide +kernel
theorem dX12_init_242 : decode cX12_init 242 = .ok (.bipush 64, 2) := by decide +kernel
theorem dX12_init_244 : decode cX12_init 244 = .ok (.newarray .int, 2) := by decide +kernel
theorem dX12_init_246 : decode cX12_init 246 = .ok (.putfield 93, 3) := by decide +kernel
theorem dX12_init_249 : decode cX12_init 249 = .ok (.aload_n 0, 1) := by decide +kernel
theorem dX12_init_250 : decode cX12_init 250 = .ok (.bipush 64, 2) := by decide +kernel
theorem dX12_init_252 : decode cX12_init 252 = .ok (.newarray .boolean, 2) := by decide +kernel
theorem dX12_init_254 : decode cX12_init 254 = .ok (.putfield 96, 3) := by decide +kernel
theorem dX12_init_257 : decode cX12_init 257 = .ok (.aload_n 0, 1) := by decide +kernel
theorem dX12_init_258 : decode cX12_init 258 = .ok (.bipush 64, 2) := by decide +kernel
theorem dX12_init_260 : decode cX12_init 260 = .ok (.newarray .int, 2) := by decide +kernel
theorem dX12_init_262 : decode cX12_init 262 = .ok (.putfield 99, 3) := by decide +kernel
theorem dX12_init_265 : decode cX12_init 265 = .ok (.aload_n 0, 1) := by decide +kernel
theorem dX12_init_266 : decode cX12_init 266 = .ok (.bipush 64, 2) := by decide +kernel
theorem dX12_init_268 : decode cX12_init 268 = .ok (.newarray .int, 2) := by decide +kernel
theorem dX12_init_270 : decode cX12_init 270 = .ok (.putfield 102, 3) := by decide +kernel
theorem dX12_init_273 : decode cX12_init 273 = .ok (.aload_n 0, 1) := by decide +kernel
theorem dX12_init_274 : decode cX12_init 274 = .ok (.bipush 64, 2) := by decide +kernel
theorem dX12_init_276 : decode cX12_init 276 = .ok (.newarray .int, 2) := by decide +kernel
theorem dX12_init_278 : decode cX12_init 278 = .ok (.putfield 105, 3) := by decide +kernel
theorem dX12_init_281 : decode cX12_init 281 = .ok (.aload_n 0, 1) := by decide +kernel
theorem dX12_init_282 : decode cX12_init 282 = .ok (.sipush 600, 3) := by decide +kernel
theorem dX12_init_285 : decode cX12_init 285 = .ok (.newarray .int, 2) := by decide +kernel
theorem dX12_init_287 : decode cX12_init 287 = .ok (.putfield 108, 3) := by decide +kernel
theorem dX12_init_290 : decode cX12_init 290 = .ok (.aload_n 0, 1) := by decide +kernel
theorem dX12_init_291 : decode cX12_init 291 = .ok (.sipush 600, 3) := by decide +kernel
theorem dX12_init_294 : decode cX12_init 294 = .ok (.newarray .int, 2) := by decide +kernel
theorem dX12_init_296 : decode cX12_init 296 = .ok (.putfield 111, 3) := by decide +kernel
theorem dX12_init_299 : decode cX12_init 299 = .ok (.aload_n 0, 1) := by decide +kernel
theorem dX12_init_300 : decode cX12_init 300 = .ok (.sipush 600, 3) := by decide +kernel
theorem dX12_init_303 : decode cX12_init 303 = .ok (.newarray .int, 2) := by decide +kernel
theorem dX12_init_305 : decode cX12_init 305 = .ok (.putfield 114, 3) := by decide +kernel
theorem dX12_init_308 : decode cX12_init 308 = .ok (.aload_n 0, 1) := by decide +kernel
theorem dX12_init_309 : decode cX12_init 309 = .ok (.sipush 600, 3) := by decide +kernel
theorem dX12_init_312 : decode cX12_init 312 = .ok (.newarray .int, 2) := by decide +kernel
theorem dX12_init_314 : decode cX12_init 314 = .ok (.putfield 117, 3) := by decide +kernel
theorem dX12_init_317 : decode cX12_init 317 = .ok (.aload_n 0, 1) := by decide +kernel
theorem dX12_init_318 : decode cX12_init 318 = .ok (.sipush 600, 3) := by decide +kernel
theorem dX12_init_321 : decode cX12_init 321 = .ok (.newarray .int, 2) := by decide +kernel
theorem dX12_init_323 : decode cX12_init 323 = .ok (.putfield 120, 3) := by decide +kernel
theorem dX12_init_326 : decode cX12_init 326 = .ok (.aload_n 0, 1) := by decide +kernel
theorem dX12_init_327 : decode cX12_init 327 = .ok (.sipush 600, 3) := by decide +kernel
theorem dX12_init_330 : decode cX12_init 330 = .ok (.newarray .int, 2) := by decide +kernel
theorem dX12_init_332 : decode cX12_init 332 = .ok (.putfield 123, 3) := by decide +kernel
theorem dX12_init_335 : decode cX12_init 335 = .ok (.aload_n 0, 1) := by decide +kernel
theorem dX12_init_336 : decode cX12_init 336 = .ok (.sipush 600, 3) := by decide +kernel
theorem dX12_init_339 : decode cX12_init 339 = .ok (.newarray .int, 2) := by decide +kernel
theorem dX12_init_341 : decode cX12_init 341 = .ok (.putfield 126, 3) := by decide +kernel
theorem dX12_init_344 : decode cX12_init 344 = .ok (.aload_n 0, 1) := by decide +kernel
theorem dX12_init_345 : decode cX12_init 345 = .ok (.sipush 600, 3) := by decide +kernel
theorem dX12_init_348 : decode cX12_init 348 = .ok (.newarray .int, 2) := by decide +kernel
theorem dX12_init_350 : decode cX12_init 350 = .ok (.putfield 129, 3) := by decide +kernel
theorem dX12_init_353 : decode cX12_init 353 = .ok (.aload_n 0, 1) := by decide +kernel
theorem dX12_init_354 : decode cX12_init 354 = .ok (.sipush 600, 3) := by decide +kernel
theorem dX12_init_357 : decode cX12_init 357 = .ok (.newarray .int, 2) := by decide +kernel
theorem dX12_init_359 : decode cX12_init 359 = .ok (.putfield 132, 3) := by decide +kernel
theorem dX12_init_362 : decode cX12_init 362 = .ok (.aload_n 0, 1) := by decide +kernel
theorem dX12_init_363 : decode cX12_init 363 = .ok (.sipush 600, 3) := by decide +kernel
theorem dX12_init_366 : decode cX12_init 366 = .ok (.newarray .int, 2) := by decide +kernel
theorem dX12_init_368 : decode cX12_init 368 = .ok (.putfield 135, 3) := by decide +kernel
theorem dX12_init_371 : decode cX12_init 371 = .ok (.aload_n 0, 1) := by decide +kernel
theorem dX12_init_372 : decode cX12_init 372 = .ok (.sipush 600, 3) := by decide +kernel
theorem dX12_init_375 : decode cX12_init 375 = .ok (.newarray .int, 2) := by decide +kernel
theorem dX12_init_377 : decode cX12_init 377 = .ok (.putfield 138, 3) := by decide +kernel
theorem dX12_init_380 : decode cX12_init 380 = .ok (.aload_n 0, 1) := by decide +kernel
theorem dX12_init_381 : decode cX12_init 381 = .ok (.sipush 600, 3) := by decide +kernel
theorem dX12_init_384 : decode cX12_init 384 = .ok (.newarray .int, 2) := by decide +kernel
theorem dX12_init_386 : decode cX12_init 386 = .ok (.putfield 141, 3) := by decide +kernel
theorem dX12_init_389 : decode cX12_init 389 = .ok (.aload_n 0, 1) := by decide +kernel
theorem dX12_init_390 : decode cX12_init 390 = .ok (.bipush 80, 2) := by decide +kernel
theorem dX12_init_392 : decode cX12_init 392 = .ok (.newarray .int, 2) := by decide +kernel
theorem dX12_init_394 : decode cX12_init 394 = .ok (.putfield 144, 3) := by decide +kernel
theorem dX12_init_397 : decode cX12_init 397 = .ok (.aload_n 0, 1) := by decide +kernel
theorem dX12_init_398 : decode cX12_init 398 = .ok (.bipush 80, 2) := by decide +kernel
theorem dX12_init_400 : decode cX12_init 400 = .ok (.newarray .int, 2) := by decide +kernel
theorem dX12_init_402 : decode cX12_init 402 = .ok (.putfield 147, 3) := by decide +kernel
theorem dX12_init_405 : decode cX12_init 405 = .ok (.aload_n 0, 1) := by decide +kernel
theorem dX12_init_406 : decode cX12_init 406 = .ok (.bipush 80, 2) := by decide +kernel
theorem dX12_init_408 : decode cX12_init 408 = .ok (.newarray .int, 2) := by decide +kernel
theorem dX12_init_410 : decode cX12_init 410 = .ok (.putfield 150, 3) := by decide +kernel
theorem dX12_init_413 : decode cX12_init 413 = .ok (.aload_n 0, 1) := by decide +kernel
theorem dX12_init_414 : decode cX12_init 414 = .ok (.sipush 700, 3) := by decide +kernel
theorem dX12_init_417 : decode cX12_init 417 = .ok (.newarray .int, 2) := by decide +kernel
theorem dX12_init_419 : decode cX12_init 419 = .ok (.putfield 153, 3) := by decide +kernel
theorem dX12_init_422 : decode cX12_init 422 = .ok (.aload_n 0, 1) := by decide +kernel
theorem dX12_init_423 : decode cX12_init 423 = .ok (.sipush 700, 3) := by decide +kernel
theorem dX12_init_426 : decode cX12_init 426 = .ok (.newarray .boolean, 2) := by decide +kernel
theorem dX12_init_428 : decode cX12_init 428 = .ok (.putfield 156, 3) := by decide +kernel
theorem dX12_init_431 : decode cX12_init 431 = .ok (.aload_n 0, 1) := by decide +kernel
theorem dX12_init_432 : decode cX12_init 432 = .ok (.sipush 700, 3) := by decide +kernel
theorem dX12_init_435 : decode cX12_init 435 = .ok (.newarray .long, 2) := by decide +kernel
theorem dX12_init_437 : decode cX12_init 437 = .ok (.putfield 159, 3) := by decide +kernel
theorem dX12_init_440 : decode cX12_init 440 = .ok (.aload_n 0, 1) := by decide +kernel
theorem dX12_init_441 : decode cX12_init 441 = .ok (.sipush 700, 3) := by decide +kernel
theorem dX12_init_444 : decode cX12_init 444 = .ok (.newarray .int, 2) := by decide +kernel
theorem dX12_init_446 : decode cX12_init 446 = .ok (.putfield 162, 3) := by decide +kernel
theorem dX12_init_449 : decode cX12_init 449 = .ok (.aload_n 0, 1) := by decide +kernel
theorem dX12_init_450 : decode cX12_init 450 = .ok (.sipush 2000, 3) := by decide +kernel
theorem dX12_init_453 : decode cX12_init 453 = .ok (.newarray .int, 2) := by decide +kernel
theorem dX12_init_455 : decode cX12_init 455 = .ok (.putfield 165, 3) := by decide +kernel
theorem dX12_init_458 : decode cX12_init 458 = .ok (.aload_n 0, 1) := by decide +kernel
theorem dX12_init_459 : decode cX12_init 459 = .ok (.sipush 2000, 3) := by decide +kernel
theorem dX12_init_462 : decode cX12_init 462 = .ok (.newarray .int, 2) := by decide +kernel
theorem dX12_init_464 : decode cX12_init 464 = .ok (.putfield 168, 3) := by decide +kernel
theorem dX12_init_467 : decode cX12_init 467 = .ok (.aload_n 0, 1) := by decide +kernel
theorem dX12_init_468 : decode cX12_init 468 = .ok (.sipush 2000, 3) := by decide +kernel
theorem dX12_init_471 : decode cX12_init 471 = .ok (.newarray .int, 2) := by decide +kernel
theorem dX12_init_473 : decode cX12_init 473 = .ok (.putfield 171, 3) := by decide +kernel
theorem dX12_init_476 : decode cX12_init 476 = .ok (.aload_n 0, 1) := by decide +kernel
theorem dX12_init_477 : decode cX12_init 477 = .ok (.sipush 2000, 3) := by decide +kernel
theorem dX12_init_480 : decode cX12_init 480 = .ok (.newarray .boolean, 2) := by decide +kernel
theorem dX12_init_482 : decode cX12_init 482 = .ok (.putfield 174, 3) := by decide +kernel
theorem dX12_init_485 : decode cX12_init 485 = .ok (.aload_n 0, 1) := by decide +kernel
theorem dX12_init_486 : decode cX12_init 486 = .ok (.sipush 2000, 3) := by decide +kernel
theorem dX12_init_489 : decode cX12_init 489 = .ok (.newarray .long, 2) := by decide +kernel
theorem dX12_init_491 : decode cX12_init 491 = .ok (.putfield 177, 3) := by decide +kernel
theorem dX12_init_494 : decode cX12_init 494 = .ok (.aload_n 0, 1) := by decide +kernel
theorem dX12_init_495 : decode cX12_init 495 = .ok (.sipush 2600, 3) := by decide +kernel
theorem dX12_init_498 : decode cX12_init 498 = .ok (.newarray .int, 2) := by decide +kernel
theorem dX12_init_500 : decode cX12_init 500 = .ok (.putfield 180, 3) := by decide +kernel
theorem dX12_init_503 : decode cX12_init 503 = .ok (.aload_n 0, 1) := by decide +kernel
theorem dX12_init_504 : decode cX12_init 504 = .ok (.sipush 4000, 3) := by decide +kernel
theorem dX12_init_507 : decode cX12_init 507 = .ok (.newarray .int, 2) := by decide +kernel
theorem dX12_init_509 : decode cX12_init 509 = .ok (.putfield 183, 3) := by decide +kernel
theorem dX12_init_512 : decode cX12_init 512 = .ok (.aload_n 0, 1) := by decide +kernel
theorem dX12_init_513 : decode cX12_init 513 = .ok (.sipush 4000, 3) := by decide +kernel
theorem dX12_init_516 : decode cX12_init 516 = .ok (.newarray .int, 2) := by decide +kernel
theorem dX12_init_518 : decode cX12_init 518 = .ok (.putfield 186, 3) := by decide +kernel
theorem dX12_init_521 : decode cX12_init 521 = .ok (.aload_n 0, 1) := by decide +kernel
theorem dX12_init_522 : decode cX12_init 522 = .ok (.sipush 4000, 3) := by decide +kernel
theorem dX12_init_525 : decode cX12_init 525 = .ok (.newarray .int, 2) := by decide +kernel
theorem dX12_init_527 : decode cX12_init 527 = .ok (.putfield 189, 3) := by decide +kernel
theorem dX12_init_530 : decode cX12_init 530 = .ok (.aload_n 0, 1) := by decide +kernel
theorem dX12_init_531 : decode cX12_init 531 = .ok (.sipush 4000, 3) := by decide +kernel
theorem dX12_init_534 : decode cX12_init 534 = .ok (.newarray .boolean, 2) := by decide +kernel
theorem dX12_init_536 : decode cX12_init 536 = .ok (.putfield 192, 3) := by decide +kernel
theorem dX12_init_539 : decode cX12_init 539 = .ok (.aload_n 0, 1) := by decide +kernel
theorem dX12_init_540 : decode cX12_init 540 = .ok (.sipush 4000, 3) := by decide +kernel
theorem dX12_init_543 : decode cX12_init 543 = .ok (.newarray .long, 2) := by decide +kernel
theorem dX12_init_545 : decode cX12_init 545 = .ok (.putfield 195, 3) := by decide +kernel
theorem dX12_init_548 : decode cX12_init 548 = .ok (.aload_n 0, 1) := by decide +kernel
theorem dX12_init_549 : decode cX12_init 549 = .ok (.bipush 64, 2) := by decide +kernel
theorem dX12_init_551 : decode cX12_init 551 = .ok (.newarray .boolean, 2) := by decide +kernel
theorem dX12_init_553 : decode cX12_init 553 = .ok (.putfield 198, 3) := by decide +kernel
theorem dX12_init_556 : decode cX12_init 556 = .ok (.aload_n 0, 1) := by decide +kernel
theorem dX12_init_557 : decode cX12_init 557 = .ok (.bipush 64, 2) := by decide +kernel
theorem dX12_init_559 : decode cX12_init 559 = .ok (.newarray .long, 2) := by decide +kernel
theorem dX12_init_561 : decode cX12_init 561 = .ok (.putfield 201, 3) := by decide +kernel
theorem dX12_init_564 : decode cX12_init 564 = .ok (.aload_n 0, 1) := by decide +kernel
theorem dX12_init_565 : decode cX12_init 565 = .ok (.sipush 600, 3) := by decide +kernel
theorem dX12_init_568 : decode cX12_init 568 = .ok (.newarray .int, 2) := by decide +kernel
theorem dX12_init_570 : decode cX12_init 570 = .ok (.putfield 204, 3) := by decide +kernel
theorem dX12_init_573 : decode cX12_init 573 = .ok (.aload_n 0, 1) := by decide +kernel
theorem dX12_init_574 : decode cX12_init 574 = .ok (.bipush 80, 2) := by decide +kernel
theorem dX12_init_576 : decode cX12_init 576 = .ok (.newarray .int, 2) := by decide +kernel
theorem dX12_init_578 : decode cX12_init 578 = .ok (.putfield 207, 3) := by decide +kernel
theorem dX12_init_581 : decode cX12_init 581 = .ok (.aload_n 0, 1) := by decide +kernel
theorem dX12_init_582 : decode cX12_init 582 = .ok (.sipush 600, 3) := by decide +kernel
theorem dX12_init_585 : decode cX12_init 585 = .ok (.newarray .boolean, 2) := by decide +kernel
theorem dX12_init_587 : decode cX12_init 587 = .ok (.putfield 210, 3) := by decide +kernel
theorem dX12_init_590 : decode cX12_init 590 = .ok (.aload_n 0, 1) := by decide +kernel
theorem dX12_init_591 : decode cX12_init 591 = .ok (.sipush 600, 3) := by decide +kernel
theorem dX12_init_594 : decode cX12_init 594 = .ok (.newarray .long, 2) := by decide +kernel
theorem dX12_init_596 : decode cX12_init 596 = .ok (.putfield 213, 3) := by decide +kernel
theorem dX12_init_599 : decode cX12_init 599 = .ok (.aload_n 0, 1) := by decide +kernel
theorem dX12_init_600 : decode cX12_init 600 = .ok (.sipush 600, 3) := by decide +kernel
theorem dX12_init_603 : decode cX12_init 603 = .ok (.newarray .boolean, 2) := by decide +kernel
theorem dX12_init_605 : decode cX12_init 605 = .ok (.putfield 216, 3) := by decide +kernel
theorem dX12_init_608 : decode cX12_init 608 = .ok (.aload_n 0, 1) := by decide +kernel
theorem dX12_init_609 : decode cX12_init 609 = .ok (.sipush 600, 3) := by decide +kernel
theorem dX12_init_612 : decode cX12_init 612 = .ok (.newarray .long, 2) := by decide +kernel
theorem dX12_init_614 : decode cX12_init 614 = .ok (.putfield 219, 3) := by decide +kernel
theorem dX12_init_617 : decode cX12_init 617 = .ok (.aload_n 0, 1) := by decide +kernel
theorem dX12_init_618 : decode cX12_init 618 = .ok (.sipush 600, 3) := by decide +kernel
theorem dX12_init_621 : decode cX12_init 621 = .ok (.newarray .long, 2) := by decide +kernel
theorem dX12_init_623 : decode cX12_init 623 = .ok (.putfield 222, 3) := by decide +kernel
theorem dX12_init_626 : decode cX12_init 626 = .ok (.aload_n 0, 1) := by decide +kernel
theorem dX12_init_627 : decode cX12_init 627 = .ok (.sipush 300, 3) := by decide +kernel
theorem dX12_init_630 : decode cX12_init 630 = .ok (.newarray .long, 2) := by decide +kernel
theorem dX12_init_632 : decode cX12_init 632 = .ok (.putfield 225, 3) := by decide +kernel
theorem dX12_init_635 : decode cX12_init 635 = .ok (.aload_n 0, 1) := by decide +kernel
theorem dX12_init_636 : decode cX12_init 636 = .ok (.sipush 300, 3) := by decide +kernel
theorem dX12_init_639 : decode cX12_init 639 = .ok (.newarray .long, 2) := by decide +kernel
theorem dX12_init_641 : decode cX12_init 641 = .ok (.putfield 228, 3) := by decide +kernel
theorem dX12_init_644 : decode cX12_init 644 = .ok (.aload_n 0, 1) := by decide +kernel
theorem dX12_init_645 : decode cX12_init 645 = .ok (.sipush 600, 3) := by decide +kernel
theorem dX12_init_648 : decode cX12_init 648 = .ok (.newarray .int, 2) := by decide +kernel
theorem dX12_init_650 : decode cX12_init 650 = .ok (.putfield 231, 3) := by decide +kernel
theorem dX12_init_653 : decode cX12_init 653 = .ok (.aload_n 0, 1) := by decide +kernel
theorem dX12_init_654 : decode cX12_init 654 = .ok (.sipush 600, 3) := by decide +kernel
theorem dX12_init_657 : decode cX12_init 657 = .ok (.newarray .boolean, 2) := by decide +kernel
theorem dX12_init_659 : decode cX12_init 659 = .ok (.putfield 234, 3) := by decide +kernel
theorem dX12_init_662 : decode cX12_init 662 = .ok (.aload_n 0, 1) := by decide +kernel
theorem dX12_init_663 : decode cX12_init 663 = .ok (.sipush 600, 3) := by decide +kernel
theorem dX12_init_666 : decode cX12_init 666 = .ok (.newarray .int, 2) := by decide +kernel
theorem dX12_init_668 : decode cX12_init 668 = .ok (.putfield 237, 3) := by decide +kernel
theorem dX12_init_671 : decode cX12_init 671 = .ok (.aload_n 0, 1) := by decide +kernel
theorem dX12_init_672 : decode cX12_init 672 = .ok (.sipush 600, 3) := by decide +kernel
theorem dX12_init_675 : decode cX12_init 675 = .ok (.newarray .boolean, 2) := by decide +kernel
theorem dX12_init_677 : decode cX12_init 677 = .ok (.putfield 240, 3) := by decide +kernel
theorem dX12_init_680 : decode cX12_init 680 = .ok (.aload_n 0, 1) := by decide +kernel
theorem dX12_init_681 : decode cX12_init 681 = .ok (.sipush 600, 3) := by decide +kernel
theorem dX12_init_684 : decode cX12_init 684 = .ok (.newarray .long, 2) := by decide +kernel
theorem dX12_init_686 : decode cX12_init 686 = .ok (.putfield 243, 3) := by decide +kernel
theorem dX12_init_689 : decode cX12_init 689 = .ok (.aload_n 0, 1) := by decide +kernel
theorem dX12_init_690 : decode cX12_init 690 = .ok (.sipush 2600, 3) := by decide +kernel
theorem dX12_init_693 : decode cX12_init 693 = .ok (.newarray .boolean, 2) := by decide +kernel
theorem dX12_init_695 : decode cX12_init 695 = .ok (.putfield 246, 3) := by decide +kernel
theorem dX12_init_698 : decode cX12_init 698 = .ok (.aload_n 0, 1) := by decide +kernel
theorem dX12_init_699 : decode cX12_init 699 = .ok (.sipush 2600, 3) := by decide +kernel
theorem dX12_init_702 : decode cX12_init 702 = .ok (.newarray .long, 2) := by decide +kernel
theorem dX12_init_704 : decode cX12_init 704 = .ok (.putfield 249, 3) := by decide +kernel
theorem dX12_init_707 : decode cX12_init 707 = .ok (.aload_n 0, 1) := by decide +kernel
theorem dX12_init_708 : decode cX12_init 708 = .ok (.sipush 2600, 3) := by decide +kernel
theorem dX12_init_711 : decode cX12_init 711 = .ok (.newarray .boolean, 2) := by decide +kernel
theorem dX12_init_713 : decode cX12_init 713 = .ok (.putfield 252, 3) := by decide +kernel
theorem dX12_init_716 : decode cX12_init 716 = .ok (.aload_n 0, 1) := by decide +kernel
theorem dX12_init_717 : decode cX12_init 717 = .ok (.sipush 2500, 3) := by decide +kernel
theorem dX12_init_720 : decode cX12_init 720 = .ok (.newarray .int, 2) := by decide +kernel
theorem dX12_init_722 : decode cX12_init 722 = .ok (.putfield 255, 3) := by decide +kernel
theorem dX12_init_725 : decode cX12_init 725 = .ok (.aload_n 0, 1) := by decide +kernel
theorem dX12_init_726 : decode cX12_init 726 = .ok (.bipush (-2), 2) := by decide +kernel
theorem dX12_init_728 : decode cX12_init 728 = .ok (.putfield 258, 3) := by decide +kernel
theorem dX12_init_731 : decode cX12_init 731 = .ok (.aload_n 0, 1) := by decide +kernel
theorem dX12_init_732 : decode cX12_init 732 = .ok (.bipush 40, 2) := by decide +kernel
theorem dX12_init_734 : decode cX12_init 734 = .ok (.newarray .int, 2) := by decide +kernel
theorem dX12_init_736 : decode cX12_init 736 = .ok (.putfield 262, 3) := by decide +kernel
theorem dX12_init_739 : decode cX12_init 739 = .ok (.aload_n 0, 1) := by decide +kernel
theorem dX12_init_740 : decode cX12_init 740 = .ok (.bipush 6, 2) := by decide +kernel
theorem dX12_init_742 : decode cX12_init 742 = .ok (.newarray .long, 2) := by decide +kernel
theorem dX12_init_744 : decode cX12_init 744 = .ok (.putfield 265, 3) := by decide +kernel
theorem dX12_init_747 : decode cX12_init 747 = .ok (.aload_n 0, 1) := by decide +kernel
theorem dX12_init_748 : decode cX12_init 748 = .ok (.sipush 4000, 3) := by decide +kernel
theorem dX12_init_751 : decode cX12_init 751 = .ok (.newarray .int, 2) := by decide +kernel
theorem dX12_init_753 : decode cX12_init 753 = .ok (.putfield 268, 3) := by decide +kernel
theorem dX12_init_756 : decode cX12_init 756 = .ok (.aload_n 0, 1) := by decide +kernel
theorem dX12_init_757 : decode cX12_init 757 = .ok (.sipush 300, 3) := by decide +kernel
theorem dX12_init_760 : decode cX12_init 760 = .ok (.newarray .int, 2) := by decide +kernel
theorem dX12_init_762 : decode cX12_init 762 = .ok (.putfield 271, 3) := by decide +kernel
theorem dX12_init_765 : decode cX12_init 765 = .ok (.aload_n 0, 1) := by decide +kernel
theorem dX12_init_766 : decode cX12_init 766 = .ok (.sipush 8000, 3) := by decide +kernel
theorem dX12_init_769 : decode cX12_init 769 = .ok (.newarray .long, 2) := by decide +kernel
theorem dX12_init_771 : decode cX12_init 771 = .ok (.putfield 274, 3) := by decide +kernel
theorem dX12_init_774 : decode cX12_init 774 = .ok (.aload_n 0, 1) := by decide +kernel
theorem dX12_init_775 : decode cX12_init 775 = .ok (.sipush 1860, 3) := by decide +kernel
theorem dX12_init_778 : decode cX12_init 778 = .ok (.newarray .long, 2) := by decide +kernel
theorem dX12_init_780 : decode cX12_init 780 = .ok (.putfield 277, 3) := by decide +kernel
theorem dX12_init_783 : decode cX12_init 783 = .ok (.aload_n 0, 1) := by decide +kernel
theorem dX12_init_784 : decode cX12_init 784 = .ok (.bipush 31, 2) := by decide +kernel
theorem dX12_init_786 : decode cX12_init 786 = .ok (.newarray .int, 2) := by decide +kernel
theorem dX12_init_788 : decode cX12_init 788 = .ok (.putfield 280, 3) := by decide +kernel
theorem dX12_init_791 : decode cX12_init 791 = .ok (.aload_n 0, 1) := by decide +kernel
theorem dX12_init_792 : decode cX12_init 792 = .ok (.bipush 31, 2) := by decide +kernel
theorem dX12_init_794 : decode cX12_init 794 = .ok (.newarray .int, 2) := by decide +kernel
theorem dX12_init_796 : decode cX12_init 796 = .ok (.putfield 283, 3) := by decide +kernel
theorem dX12_init_799 : decode cX12_init 799 = .ok (.aload_n 0, 1) := by decide +kernel
theorem dX12_init_800 : decode cX12_init 800 = .ok (.sipush 2000, 3) := by decide +kernel
theorem dX12_init_803 : decode cX12_init 803 = .ok (.newarray .int, 2) := by decide +kernel
theorem dX12_init_805 : decode cX12_init 805 = .ok (.putfield 286, 3) := by decide +kernel
theorem dX12_init_808 : decode cX12_init 808 = .ok (.aload_n 0, 1) := by decide +kernel
theorem dX12_init_809 : decode cX12_init 809 = .ok (.sipush 2000, 3) := by decide +kernel
theorem dX12_init_812 : decode cX12_init 812 = .ok (.newarray .int, 2) := by decide +kernel
theorem dX12_init_814 : decode cX12_init 814 = .ok (.putfield 289, 3) := by decide +kernel
theorem dX12_init_817 : decode cX12_init 817 = .ok (.aload_n 0, 1) := by decide +kernel
theorem dX12_init_818 : decode cX12_init 818 = .ok (.sipush 2000, 3) := by decide +kernel
theorem dX12_init_821 : decode cX12_init 821 = .ok (.newarray .int, 2) := by decide +kernel
theorem dX12_init_823 : decode cX12_init 823 = .ok (.putfield 292, 3) := by decide +kernel
theorem dX12_init_826 : decode cX12_init 826 = .ok (.aload_n 0, 1) := by decide +kernel
theorem dX12_init_827 : decode cX12_init 827 = .ok (.sipush 2000, 3) := by decide +kernel
theorem dX12_init_830 : decode cX12_init 830 = .ok (.newarray .int, 2) := by decide +kernel
theorem dX12_init_832 : decode cX12_init 832 = .ok (.putfield 295, 3) := by decide +kernel
theorem dX12_init_835 : decode cX12_init 835 = .ok (.aload_n 0, 1) := by decide +kernel
theorem dX12_init_836 : decode cX12_init 836 = .ok (.sipush 2000, 3) := by decide +kernel
theorem dX12_init_839 : decode cX12_init 839 = .ok (.newarray .int, 2) := by decide +kernel
theorem dX12_init_841 : decode cX12_init 841 = .ok (.putfield 298, 3) := by decide +kernel
theorem dX12_init_844 : decode cX12_init 844 = .ok (.aload_n 0, 1) := by decide +kernel
theorem dX12_init_845 : decode cX12_init 845 = .ok (.sipush 2000, 3) := by decide +kernel
theorem dX12_init_848 : decode cX12_init 848 = .ok (.newarray .int, 2) := by decide +kernel
theorem dX12_init_850 : decode cX12_init 850 = .ok (.putfield 301, 3) := by decide +kernel
theorem dX12_init_853 : decode cX12_init 853 = .ok (.aload_n 0, 1) := by decide +kernel
theorem dX12_init_854 : decode cX12_init 854 = .ok (.sipush 2000, 3) := by decide +kernel
theorem dX12_init_857 : decode cX12_init 857 = .ok (.newarray .long, 2) := by decide +kernel
theorem dX12_init_859 : decode cX12_init 859 = .ok (.putfield 304, 3) := by decide +kernel
theorem dX12_init_862 : decode cX12_init 862 = .ok (.aload_n 0, 1) := by decide +kernel
theorem dX12_init_863 : decode cX12_init 863 = .ok (.sipush 200, 3) := by decide +kernel
theorem dX12_init_866 : decode cX12_init 866 = .ok (.newarray .long, 2) := by decide +kernel
theorem dX12_init_868 : decode cX12_init 868 = .ok (.putfield 307, 3) := by decide +kernel
theorem dX12_init_871 : decode cX12_init 871 = .ok (.return_, 1) := by decide +kernel
abbrev cX8_init : ByteArray := prog_10_method_1_code
def yX8_init : MethodName := ⟨RX8, "<init>", "(IIILPlainJava$Statement;J)V"⟩
theorem dX8_init_0 : decode cX8_init 0 = .ok (.aload_n 0, 1) := by decide +kernel
theorem dX8_init_1 : decode cX8_init 1 = .ok (.invokespecial 3, 3) := by decide +kernel
theorem dX8_init_4 : decode cX8_init 4 = .ok (.aload_n 0, 1) := by decide +kernel
theorem dX8_init_5 : decode cX8_init 5 = .ok (.iconst (-1), 1) := by decide +kernel
theorem dX8_init_6 : decode cX8_init 6 = .ok (.putfield 9, 3) := by decide +kernel
theorem dX8_init_9 : decode cX8_init 9 = .ok (.aload_n 0, 1) := by decide +kernel
theorem dX8_init_10 : decode cX8_init 10 = .ok (.ldc2_w 15, 3) := by decide +kernel
theorem dX8_init_13 : decode cX8_init 13 = .ok (.putfield 17, 3) := by decide +kernel
theorem dX8_init_16 : decode cX8_init 16 = .ok (.aload_n 0, 1) := by decide +kernel
theorem dX8_init_17 : decode cX8_init 17 = .ok (.ldc2_w 15, 3) := by decide +kernel
theorem dX8_init_20 : decode cX8_init 20 = .ok (.putfield 21, 3) := by decide +kernel
theorem dX8_init_23 : decode cX8_init 23 = .ok (.aload_n 0, 1) := by decide +kernel
theorem dX8_init_24 : decode cX8_init 24 = .ok (.iload_n 1, 1) := by decide +kernel
theorem dX8_init_25 : decode cX8_init 25 = .ok (.putfield 24, 3) := by decide +kernel
theorem dX8_init_28 : decode cX8_init 28 = .ok (.aload_n 0, 1) := by decide +kernel
theorem dX8_init_29 : decode cX8_init 29 = .ok (.iload_n 2, 1) := by decide +kernel
theorem dX8_init_30 : decode cX8_init 30 = .ok (.putfield 27, 3) := by decide +kernel
theorem dX8_init_33 : decode cX8_init 33 = .ok (.aload_n 0, 1) := by decide +kernel
theorem dX8_init_34 : decode cX8_init 34 = .ok (.iload_n 3, 1) := by decide +kernel
theorem dX8_init_35 : decode cX8_init 35 = .ok (.putfield 30, 3) := by decide +kernel
theorem dX8_init_38 : decode cX8_init 38 = .ok (.aload_n 0, 1) := by decide +kernel
theorem dX8_init_39 : decode cX8_init 39 = .ok (.aload 4, 2) := by decide +kernel
theorem dX8_init_41 : decode cX8_init 41 = .ok (.putfield 33, 3) := by decide +kernel
theorem dX8_init_44 : decode cX8_init 44 = .ok (.aload_n 0, 1) := by decide +kernel
theorem dX8_init_45 : decode cX8_init 45 = .ok (.lload 5, 2) := by decide +kernel
theorem dX8_init_47 : decode cX8_init 47 = .ok (.putfield 37, 3) := by decide +kernel
theorem dX8_init_50 : decode cX8_init 50 = .ok (.return_, 1) := by decide +kernel
abbrev cX5_init : ByteArray := prog_7_method_1_code
def yX5_init : MethodName := ⟨RX5, "<init>", "(IJII)V"⟩
theorem dX5_init_0 : decode cX5_init 0 = .ok (.aload_n 0, 1) := by decide +kernel
theorem dX5_init_1 : decode cX5_init 1 = .ok (.invokespecial 3, 3) := by decide +kernel
theorem dX5_init_4 : decode cX5_init 4 = .ok (.aload_n 0, 1) := by decide +kernel
theorem dX5_init_5 : decode cX5_init 5 = .ok (.bipush 6, 2) := by decide +kernel
theorem dX5_init_7 : decode cX5_init 7 = .ok (.newarray .int, 2) := by decide +kernel
theorem dX5_init_9 : decode cX5_init 9 = .ok (.putfield 9, 3) := by decide +kernel
theorem dX5_init_12 : decode cX5_init 12 = .ok (.aload_n 0, 1) := by decide +kernel
theorem dX5_init_13 : decode cX5_init 13 = .ok (.new 15, 3) := by decide +kernel
theorem dX5_init_16 : decode cX5_init 16 = .ok (.dup, 1) := by decide +kernel
theorem dX5_init_17 : decode cX5_init 17 = .ok (.bipush 92, 2) := by decide +kernel
theorem dX5_init_19 : decode cX5_init 19 = .ok (.iconst 0, 1) := by decide +kernel
theorem dX5_init_20 : decode cX5_init 20 = .ok (.iconst 0, 1) := by decide +kernel
theorem dX5_init_21 : decode cX5_init 21 = .ok (.aconst_null, 1) := by decide +kernel
theorem dX5_init_22 : decode cX5_init 22 = .ok (.lconst 0, 1) := by decide +kernel
theorem dX5_init_23 : decode cX5_init 23 = .ok (.invokespecial 17, 3) := by decide +kernel
theorem dX5_init_26 : decode cX5_init 26 = .ok (.putfield 20, 3) := by decide +kernel
theorem dX5_init_29 : decode cX5_init 29 = .ok (.aload_n 0, 1) := by decide +kernel
theorem dX5_init_30 : decode cX5_init 30 = .ok (.iload_n 1, 1) := by decide +kernel
theorem dX5_init_31 : decode cX5_init 31 = .ok (.putfield 24, 3) := by decide +kernel
theorem dX5_init_34 : decode cX5_init 34 = .ok (.aload_n 0, 1) := by decide +kernel
theorem dX5_init_35 : decode cX5_init 35 = .ok (.lload_n 2, 1) := by decide +kernel
theorem dX5_init_36 : decode cX5_init 36 = .ok (.putfield 28, 3) := by decide +kernel
theorem dX5_init_39 : decode cX5_init 39 = .ok (.aload_n 0, 1) := by decide +kernel
theorem dX5_init_40 : decode cX5_init 40 = .ok (.iload 4, 2) := by decide +kernel
theorem dX5_init_42 : decode cX5_init 42 = .ok (.putfield 32, 3) := by decide +kernel
theorem dX5_init_45 : decode cX5_init 45 = .ok (.aload_n 0, 1) := by decide +kernel
theorem dX5_init_46 : decode cX5_init 46 = .ok (.iload 5, 2) := by decide +kernel
theorem dX5_init_48 : decode cX5_init 48 = .ok (.putfield 35, 3) := by decide +kernel
theorem dX5_init_51 : decode cX5_init 51 = .ok (.return_, 1) := by decide +kernel
abbrev cX5_addParam : ByteArray := prog_7_method_2_code
def yX5_addParam : MethodName := ⟨RX5, "addParam", "(I)V"⟩
theorem dX5_addParam_0 : decode cX5_addParam 0 = .ok (.aload_n 0, 1) := by decide +kernel
theorem dX5_addParam_1 : decode cX5_addParam 1 = .ok (.getfield 38, 3) := by decide +kernel
theorem dX5_addParam_4 : decode cX5_addParam 4 = .ok (.bipush 6, 2) := by decide +kernel
theorem dX5_addParam_6 : decode cX5_addParam 6 = .ok (.if_icmp .ge 23, 3) := by decide +kernel
theorem dX5_addParam_9 : decode cX5_addParam 9 = .ok (.aload_n 0, 1) := by decide +kernel
theorem dX5_addParam_10 : decode cX5_addParam 10 = .ok (.getfield 9, 3) := by decide +kernel
theorem dX5_addParam_13 : decode cX5_addParam 13 = .ok (.aload_n 0, 1) := by decide +kernel
theorem dX5_addParam_14 : decode cX5_addParam 14 = .ok (.getfield 38, 3) := by decide +kernel
theorem dX5_addParam_17 : decode cX5_addParam 17 = .ok (.iload_n 1, 1) := by decide +kernel
theorem dX5_addParam_18 : decode cX5_addParam 18 = .ok (.iastore, 1) := by decide +kernel
theorem dX5_addParam_19 : decode cX5_addParam 19 = .ok (.aload_n 0, 1) := by decide +kernel
theorem dX5_addParam_20 : decode cX5_addParam 20 = .ok (.dup, 1) := by decide +kernel
theorem dX5_addParam_21 : decode cX5_addParam 21 = .ok (.getfield 38, 3) := by decide +kernel
theorem dX5_addParam_24 : decode cX5_addParam 24 = .ok (.iconst 1, 1) := by decide +kernel
theorem dX5_addParam_25 : decode cX5_addParam 25 = .ok (.iadd, 1) := by decide +kernel
theorem dX5_addParam_26 : decode cX5_addParam 26 = .ok (.putfield 38, 3) := by decide +kernel
theorem dX5_addParam_29 : decode cX5_addParam 29 = .ok (.return_, 1) := by decide +kernel
abbrev cX7_init : ByteArray := prog_9_method_1_code
def yX7_init : MethodName := ⟨RX7, "<init>", "(LPlainJava$Program;)V"⟩
theorem dX7_init_0 : decode cX7_init 0 = .ok (.aload_n 0, 1) := by decide +kernel
theorem dX7_init_1 : decode cX7_init 1 = .ok (.invokespecial 3, 3) := by decide +kernel
theorem dX7_init_4 : decode cX7_init 4 = .ok (.aload_n 0, 1) := by decide +kernel
theorem dX7_init_5 : decode cX7_init 5 = .ok (.aload_n 1, 1) := by decide +kernel
theorem dX7_init_6 : decode cX7_init 6 = .ok (.putfield 9, 3) := by decide +kernel
theorem dX7_init_9 : decode cX7_init 9 = .ok (.aload_n 0, 1) := by decide +kernel
theorem dX7_init_10 : decode cX7_init 10 = .ok (.aload_n 1, 1) := by decide +kernel
theorem dX7_init_11 : decode cX7_init 11 = .ok (.getfield 15, 3) := by decide +kernel
theorem dX7_init_14 : decode cX7_init 14 = .ok (.putfield 21, 3) := by decide +kernel
theorem dX7_init_17 : decode cX7_init 17 = .ok (.return_, 1) := by decide +kernel
abbrev cX2_init : ByteArray := prog_4_method_1_code
def yX2_init : MethodName := ⟨RX2, "<init>", "(LPlainJava$Program;)V"⟩
theorem dX2_init_0 : decode cX2_init 0 = .ok (.aload_n 0, 1) := by decide +kernel
theorem dX2_init_1 : decode cX2_init 1 = .ok (.invokespecial 3, 3) := by decide +kernel
theorem dX2_init_4 : decode cX2_init 4 = .ok (.aload_n 0, 1) := by decide +kernel
theorem dX2_init_5 : decode cX2_init 5 = .ok (.sipush 500, 3) := by decide +kernel
theorem dX2_init_8 : decode cX2_init 8 = .ok (.newarray .long, 2) := by decide +kernel
theorem dX2_init_10 : decode cX2_init 10 = .ok (.putfield 9, 3) := by decide +kernel
theorem dX2_init_13 : decode cX2_init 13 = .ok (.aload_n 0, 1) := by decide +kernel
theorem dX2_init_14 : decode cX2_init 14 = .ok (.aload_n 1, 1) := by decide +kernel
theorem dX2_init_15 : decode cX2_init 15 = .ok (.putfield 15, 3) := by decide +kernel
theorem dX2_init_18 : decode cX2_init 18 = .ok (.return_, 1) := by decide +kernel
abbrev cX3_init : ByteArray := prog_5_method_1_code
def yX3_init : MethodName := ⟨RX3, "<init>", "(LPlainJava$Program;)V"⟩
theorem dX3_init_0 : decode cX3_init 0 = .ok (.aload_n 0, 1) := by decide +kernel
theorem dX3_init_1 : decode cX3_init 1 = .ok (.invokespecial 3, 3) := by decide +kernel
theorem dX3_init_4 : decode cX3_init 4 = .ok (.aload_n 0, 1) := by decide +kernel
theorem dX3_init_5 : decode cX3_init 5 = .ok (.aload_n 1, 1) := by decide +kernel
theorem dX3_init_6 : decode cX3_init 6 = .ok (.putfield 9, 3) := by decide +kernel
theorem dX3_init_9 : decode cX3_init 9 = .ok (.aload_n 0, 1) := by decide +kernel
theorem dX3_init_10 : decode cX3_init 10 = .ok (.new 15, 3) := by decide +kernel
theorem dX3_init_13 : decode cX3_init 13 = .ok (.dup, 1) := by decide +kernel
theorem dX3_init_14 : decode cX3_init 14 = .ok (.aload_n 1, 1) := by decide +kernel
theorem dX3_init_15 : decode cX3_init 15 = .ok (.invokespecial 17, 3) := by decide +kernel
theorem dX3_init_18 : decode cX3_init 18 = .ok (.putfield 20, 3) := by decide +kernel
theorem dX3_init_21 : decode cX3_init 21 = .ok (.return_, 1) := by decide +kernel
abbrev cX0_init : ByteArray := prog_2_method_1_code
def yX0_init : MethodName := ⟨RX0, "<init>", "(LPlainJava$Program;)V"⟩
theorem dX0_init_0 : decode cX0_init 0 = .ok (.aload_n 0, 1) := by decide +kernel
theorem dX0_init_1 : decode cX0_init 1 = .ok (.invokespecial 3, 3) := by decide +kernel
theorem dX0_init_4 : decode cX0_init 4 = .ok (.aload_n 0, 1) := by decide +kernel
theorem dX0_init_5 : decode cX0_init 5 = .ok (.sipush 1000, 3) := by decide +kernel
theorem dX0_init_8 : decode cX0_init 8 = .ok (.newarray .int, 2) := by decide +kernel
theorem dX0_init_10 : decode cX0_init 10 = .ok (.putfield 11, 3) := by decide +kernel
theorem dX0_init_13 : decode cX0_init 13 = .ok (.aload_n 0, 1) := by decide +kernel
theorem dX0_init_14 : decode cX0_init 14 = .ok (.sipush 1000, 3) := by decide +kernel
theorem dX0_init_17 : decode cX0_init 17 = .ok (.newarray .int, 2) := by decide +kernel
theorem dX0_init_19 : decode cX0_init 19 = .ok (.putfield 15, 3) := by decide +kernel
theorem dX0_init_22 : decode cX0_init 22 = .ok (.aload_n 0, 1) := by decide +kernel
theorem dX0_init_23 : decode cX0_init 23 = .ok (.sipush 1000, 3) := by decide +kernel
theorem dX0_init_26 : decode cX0_init 26 = .ok (.anewarray 18, 3) := by decide +kernel
theorem dX0_init_29 : decode cX0_init 29 = .ok (.putfield 20, 3) := by decide +kernel
theorem dX0_init_32 : decode cX0_init 32 = .ok (.aload_n 0, 1) := by decide +kernel
theorem dX0_init_33 : decode cX0_init 33 = .ok (.sipush 1000, 3) := by decide +kernel
theorem dX0_init_36 : decode cX0_init 36 = .ok (.anewarray 24, 3) := by decide +kernel
theorem dX0_init_39 : decode cX0_init 39 = .ok (.putfield 26, 3) := by decide +kernel
theorem dX0_init_42 : decode cX0_init 42 = .ok (.aload_n 0, 1) := by decide +kernel
theorem dX0_init_43 : decode cX0_init 43 = .ok (.new 24, 3) := by decide +kernel
theorem dX0_init_46 : decode cX0_init 46 = .ok (.dup, 1) := by decide +kernel
theorem dX0_init_47 : decode cX0_init 47 = .ok (.bipush 92, 2) := by decide +kernel
theorem dX0_init_49 : decode cX0_init 49 = .ok (.iconst 0, 1) := by decide +kernel
theorem dX0_init_50 : decode cX0_init 50 = .ok (.iconst 0, 1) := by decide +kernel
theorem dX0_init_51 : decode cX0_init 51 = .ok (.aconst_null, 1) := by decide +kernel
theorem dX0_init_52 : decode cX0_init 52 = .ok (.lconst 0, 1) := by decide +kernel
theorem dX0_init_53 : decode cX0_init 53 = .ok (.invokespecial 30, 3) := by decide +kernel
theorem dX0_init_56 : decode cX0_init 56 = .ok (.putfield 33, 3) := by decide +kernel
theorem dX0_init_59 : decode cX0_init 59 = .ok (.aload_n 0, 1) := by decide +kernel
theorem dX0_init_60 : decode cX0_init 60 = .ok (.aload_n 1, 1) := by decide +kernel
theorem dX0_init_61 : decode cX0_init 61 = .ok (.putfield 37, 3) := by decide +kernel
theorem dX0_init_64 : decode cX0_init 64 = .ok (.return_, 1) := by decide +kernel
abbrev cX4_init : ByteArray := prog_6_method_1_code
def yX4_init : MethodName := ⟨RX4, "<init>", "(LPlainJava$Code;)V"⟩
theorem dX4_init_0 : decode cX4_init 0 = .ok (.aload_n 0, 1) := by decide +kernel
theorem dX4_init_1 : decode cX4_init 1 = .ok (.invokespecial 3, 3) := by decide +kernel
theorem dX4_init_4 : decode cX4_init 4 = .ok (.aload_n 0, 1) := by decide +kernel
theorem dX4_init_5 : decode cX4_init 5 = .ok (.sipush 1800, 3) := by decide +kernel
theorem dX4_init_8 : decode cX4_init 8 = .ok (.newarray .long, 2) := by decide +kernel
theorem dX4_init_10 : decode cX4_init 10 = .ok (.putfield 9, 3) := by decide +kernel
theorem dX4_init_13 : decode cX4_init 13 = .ok (.aload_n 0, 1) := by decide +kernel
theorem dX4_init_14 : decode cX4_init 14 = .ok (.sipush 7500, 3) := by decide +kernel
theorem dX4_init_17 : decode cX4_init 17 = .ok (.newarray .long, 2) := by decide +kernel
theorem dX4_init_19 : decode cX4_init 19 = .ok (.putfield 15, 3) := by decide +kernel
theorem dX4_init_22 : decode cX4_init 22 = .ok (.aload_n 0, 1) := by decide +kernel
theorem dX4_init_23 : decode cX4_init 23 = .ok (.bipush 31, 2) := by decide +kernel
theorem dX4_init_25 : decode cX4_init 25 = .ok (.newarray .int, 2) := by decide +kernel
theorem dX4_init_27 : decode cX4_init 27 = .ok (.putfield 18, 3) := by decide +kernel
theorem dX4_init_30 : decode cX4_init 30 = .ok (.aload_n 0, 1) := by decide +kernel
theorem dX4_init_31 : decode cX4_init 31 = .ok (.bipush 31, 2) := by decide +kernel
theorem dX4_init_33 : decode cX4_init 33 = .ok (.newarray .int, 2) := by decide +kernel
theorem dX4_init_35 : decode cX4_init 35 = .ok (.putfield 22, 3) := by decide +kernel
theorem dX4_init_38 : decode cX4_init 38 = .ok (.aload_n 0, 1) := by decide +kernel
theorem dX4_init_39 : decode cX4_init 39 = .ok (.sipush 630, 3) := by decide +kernel
theorem dX4_init_42 : decode cX4_init 42 = .ok (.newarray .int, 2) := by decide +kernel
theorem dX4_init_44 : decode cX4_init 44 = .ok (.putfield 25, 3) := by decide +kernel
theorem dX4_init_47 : decode cX4_init 47 = .ok (.aload_n 0, 1) := by decide +kernel
theorem dX4_init_48 : decode cX4_init 48 = .ok (.sipush 630, 3) := by decide +kernel
theorem dX4_init_51 : decode cX4_init 51 = .ok (.newarray .long, 2) := by decide +kernel
theorem dX4_init_53 : decode cX4_init 53 = .ok (.putfield 28, 3) := by decide +kernel
theorem dX4_init_56 : decode cX4_init 56 = .ok (.aload_n 0, 1) := by decide +kernel
theorem dX4_init_57 : decode cX4_init 57 = .ok (.sipush 630, 3) := by decide +kernel
theorem dX4_init_60 : decode cX4_init 60 = .ok (.anewarray 31, 3) := by decide +kernel
theorem dX4_init_63 : decode cX4_init 63 = .ok (.putfield 33, 3) := by decide +kernel
theorem dX4_init_66 : decode cX4_init 66 = .ok (.aload_n 0, 1) := by decide +kernel
theorem dX4_init_67 : decode cX4_init 67 = .ok (.sipush 200, 3) := by decide +kernel
theorem dX4_init_70 : decode cX4_init 70 = .ok (.newarray .long, 2) := by decide +kernel
theorem dX4_init_72 : decode cX4_init 72 = .ok (.putfield 37, 3) := by decide +kernel
theorem dX4_init_75 : decode cX4_init 75 = .ok (.aload_n 0, 1) := by decide +kernel
theorem dX4_init_76 : decode cX4_init 76 = .ok (.iconst 0, 1) := by decide +kernel
theorem dX4_init_77 : decode cX4_init 77 = .ok (.newarray .int, 2) := by decide +kernel
theorem dX4_init_79 : decode cX4_init 79 = .ok (.putfield 40, 3) := by decide +kernel
theorem dX4_init_82 : decode cX4_init 82 = .ok (.aload_n 0, 1) := by decide +kernel
theorem dX4_init_83 : decode cX4_init 83 = .ok (.aload_n 1, 1) := by decide +kernel
theorem dX4_init_84 : decode cX4_init 84 = .ok (.putfield 43, 3) := by decide +kernel
theorem dX4_init_87 : decode cX4_init 87 = .ok (.return_, 1) := by decide +kernel
abbrev cX9_init : ByteArray := prog_11_method_1_code
def yX9_init : MethodName := ⟨RX9, "<init>", "()V"⟩
theorem dX9_init_0 : decode cX9_init 0 = .ok (.aload_n 0, 1) := by decide +kernel
theorem dX9_init_1 : decode cX9_init 1 = .ok (.invokespecial 3, 3) := by decide +kernel
theorem dX9_init_4 : decode cX9_init 4 = .ok (.aload_n 0, 1) := by decide +kernel
theorem dX9_init_5 : decode cX9_init 5 = .ok (.sipush 503, 3) := by decide +kernel
theorem dX9_init_8 : decode cX9_init 8 = .ok (.newarray .int, 2) := by decide +kernel
theorem dX9_init_10 : decode cX9_init 10 = .ok (.putfield 11, 3) := by decide +kernel
theorem dX9_init_13 : decode cX9_init 13 = .ok (.aload_n 0, 1) := by decide +kernel
theorem dX9_init_14 : decode cX9_init 14 = .ok (.sipush 503, 3) := by decide +kernel
theorem dX9_init_17 : decode cX9_init 17 = .ok (.newarray .int, 2) := by decide +kernel
theorem dX9_init_19 : decode cX9_init 19 = .ok (.putfield 15, 3) := by decide +kernel
theorem dX9_init_22 : decode cX9_init 22 = .ok (.aload_n 0, 1) := by decide +kernel
theorem dX9_init_23 : decode cX9_init 23 = .ok (.sipush 503, 3) := by decide +kernel
theorem dX9_init_26 : decode cX9_init 26 = .ok (.newarray .int, 2) := by decide +kernel
theorem dX9_init_28 : decode cX9_init 28 = .ok (.putfield 18, 3) := by decide +kernel
theorem dX9_init_31 : decode cX9_init 31 = .ok (.aload_n 0, 1) := by decide +kernel
theorem dX9_init_32 : decode cX9_init 32 = .ok (.sipush 503, 3) := by decide +kernel
theorem dX9_init_35 : decode cX9_init 35 = .ok (.newarray .int, 2) := by decide +kernel
theorem dX9_init_37 : decode cX9_init 37 = .ok (.putfield 21, 3) := by decide +kernel
theorem dX9_init_40 : decode cX9_init 40 = .ok (.aload_n 0, 1) := by decide +kernel
theorem dX9_init_41 : decode cX9_init 41 = .ok (.sipush 503, 3) := by decide +kernel
theorem dX9_init_44 : decode cX9_init 44 = .ok (.newarray .long, 2) := by decide +kernel
theorem dX9_init_46 : decode cX9_init 46 = .ok (.putfield 24, 3) := by decide +kernel
theorem dX9_init_49 : decode cX9_init 49 = .ok (.aload_n 0, 1) := by decide +kernel
theorem dX9_init_50 : decode cX9_init 50 = .ok (.bipush 24, 2) := by decide +kernel
theorem dX9_init_52 : decode cX9_init 52 = .ok (.newarray .long, 2) := by decide +kernel
theorem dX9_init_54 : decode cX9_init 54 = .ok (.putfield 28, 3) := by decide +kernel
theorem dX9_init_57 : decode cX9_init 57 = .ok (.aload_n 0, 1) := by decide +kernel
theorem dX9_init_58 : decode cX9_init 58 = .ok (.iconst 0, 1) := by decide +kernel
theorem dX9_init_59 : decode cX9_init 59 = .ok (.newarray .byte, 2) := by decide +kernel
theorem dX9_init_61 : decode cX9_init 61 = .ok (.putfield 31, 3) := by decide +kernel
theorem dX9_init_64 : decode cX9_init 64 = .ok (.iconst 0, 1) := by decide +kernel
theorem dX9_init_65 : decode cX9_init 65 = .ok (.istore_n 1, 1) := by decide +kernel
theorem dX9_init_66 : decode cX9_init 66 = .ok (.iconst 0, 1) := by decide +kernel
theorem dX9_init_67 : decode cX9_init 67 = .ok (.istore_n 2, 1) := by decide +kernel
theorem dX9_init_68 : decode cX9_init 68 = .ok (.iload_n 2, 1) := by decide +kernel
theorem dX9_init_69 : decode cX9_init 69 = .ok (.ldc 35, 2) := by decide +kernel
theorem dX9_init_71 : decode cX9_init 71 = .ok (.invokevirtual 37, 3) := by decide +kernel
theorem dX9_init_74 : decode cX9_init 74 = .ok (.if_icmp .ge 50, 3) := by decide +kernel
theorem dX9_init_77 : decode cX9_init 77 = .ok (.ldc 35, 2) := by decide +kernel
theorem dX9_init_79 : decode cX9_init 79 = .ok (.iload_n 2, 1) := by decide +kernel
theorem dX9_init_80 : decode cX9_init 80 = .ok (.invokevirtual 43, 3) := by decide +kernel
theorem dX9_init_83 : decode cX9_init 83 = .ok (.istore_n 3, 1) := by decide +kernel
theorem dX9_init_84 : decode cX9_init 84 = .ok (.iload_n 3, 1) := by decide +kernel
theorem dX9_init_85 : decode cX9_init 85 = .ok (.bipush 32, 2) := by decide +kernel
theorem dX9_init_87 : decode cX9_init 87 = .ok (.if_icmp .ne 9, 3) := by decide +kernel
theorem dX9_init_90 : decode cX9_init 90 = .ok (.iinc 1 1, 3) := by decide +kernel
theorem dX9_init_93 : decode cX9_init 93 = .ok (.goto 25, 3) := by decide +kernel
theorem dX9_init_96 : decode cX9_init 96 = .ok (.iload_n 1, 1) := by decide +kernel
theorem dX9_init_97 : decode cX9_init 97 = .ok (.bipush 24, 2) := by decide +kernel
theorem dX9_init_99 : decode cX9_init 99 = .ok (.if_icmp .ge 19, 3) := by decide +kernel
theorem dX9_init_102 : decode cX9_init 102 = .ok (.aload_n 0, 1) := by decide +kernel
theorem dX9_init_103 : decode cX9_init 103 = .ok (.getfield 28, 3) := by decide +kernel
theorem dX9_init_106 : decode cX9_init 106 = .ok (.iload_n 1, 1) := by decide +kernel
theorem dX9_init_107 : decode cX9_init 107 = .ok (.aload_n 0, 1) := by decide +kernel
theorem dX9_init_108 : decode cX9_init 108 = .ok (.getfield 28, 3) := by decide +kernel
theorem dX9_init_111 : decode cX9_init 111 = .ok (.iload_n 1, 1) := by decide +kernel
theorem dX9_init_112 : decode cX9_init 112 = .ok (.laload, 1) := by decide +kernel
theorem dX9_init_113 : decode cX9_init 113 = .ok (.iload_n 3, 1) := by decide +kernel
theorem dX9_init_114 : decode cX9_init 114 = .ok (.invokestatic 47, 3) := by decide +kernel
theorem dX9_init_117 : decode cX9_init 117 = .ok (.lastore, 1) := by decide +kernel
theorem dX9_init_118 : decode cX9_init 118 = .ok (.iinc 2 1, 3) := by decide +kernel
theorem dX9_init_121 : decode cX9_init 121 = .ok (.goto (-53), 3) := by decide +kernel
theorem dX9_init_124 : decode cX9_init 124 = .ok (.return_, 1) := by decide +kernel
abbrev cX9_longerKey : ByteArray := prog_11_method_2_code
def yX9_longerKey : MethodName := ⟨RX9, "longerKey", "(JI)J"⟩
theorem dX9_longerKey_0 : decode cX9_longerKey 0 = .ok (.iload_n 2, 1) := by decide +kernel
theorem dX9_longerKey_1 : decode cX9_longerKey 1 = .ok (.bipush 97, 2) := by decide +kernel
theorem dX9_longerKey_3 : decode cX9_longerKey 3 = .ok (.if_icmp .lt 13, 3) := by decide +kernel
theorem dX9_longerKey_6 : decode cX9_longerKey 6 = .ok (.iload_n 2, 1) := by decide +kernel
theorem dX9_longerKey_7 : decode cX9_longerKey 7 = .ok (.bipush 97, 2) := by decide +kernel
theorem dX9_longerKey_9 : decode cX9_longerKey 9 = .ok (.isub, 1) := by decide +kernel
theorem dX9_longerKey_10 : decode cX9_longerKey 10 = .ok (.bipush 37, 2) := by decide +kernel
theorem dX9_longerKey_12 : decode cX9_longerKey 12 = .ok (.iadd, 1) := by decide +kernel
theorem dX9_longerKey_13 : decode cX9_longerKey 13 = .ok (.goto 25, 3) := by decide +kernel
theorem dX9_longerKey_16 : decode cX9_longerKey 16 = .ok (.iload_n 2, 1) := by decide +kernel
theorem dX9_longerKey_17 : decode cX9_longerKey 17 = .ok (.bipush 65, 2) := by decide +kernel
theorem dX9_longerKey_19 : decode cX9_longerKey 19 = .ok (.if_icmp .lt 13, 3) := by decide +kernel
theorem dX9_longerKey_22 : decode cX9_longerKey 22 = .ok (.iload_n 2, 1) := by decide +kernel
theorem dX9_longerKey_23 : decode cX9_longerKey 23 = .ok (.bipush 65, 2) := by decide +kernel
theorem dX9_longerKey_25 : decode cX9_longerKey 25 = .ok (.isub, 1) := by decide +kernel
theorem dX9_longerKey_26 : decode cX9_longerKey 26 = .ok (.bipush 11, 2) := by decide +kernel
theorem dX9_longerKey_28 : decode cX9_longerKey 28 = .ok (.iadd, 1) := by decide +kernel
theorem dX9_longerKey_29 : decode cX9_longerKey 29 = .ok (.goto 9, 3) := by decide +kernel
theorem dX9_longerKey_32 : decode cX9_longerKey 32 = .ok (.iload_n 2, 1) := by decide +kernel
theorem dX9_longerKey_33 : decode cX9_longerKey 33 = .ok (.bipush 48, 2) := by decide +kernel
theorem dX9_longerKey_35 : decode cX9_longerKey 35 = .ok (.isub, 1) := by decide +kernel
theorem dX9_longerKey_36 : decode cX9_longerKey 36 = .ok (.iconst 1, 1) := by decide +kernel
theorem dX9_longerKey_37 : decode cX9_longerKey 37 = .ok (.iadd, 1) := by decide +kernel
theorem dX9_longerKey_38 : decode cX9_longerKey 38 = .ok (.istore_n 3, 1) := by decide +kernel
theorem dX9_longerKey_39 : decode cX9_longerKey 39 = .ok (.lload_n 0, 1) := by decide +kernel
theorem dX9_longerKey_40 : decode cX9_longerKey 40 = .ok (.bipush 6, 2) := by decide +kernel
theorem dX9_longerKey_42 : decode cX9_longerKey 42 = .ok (.lshl, 1) := by decide +kernel
theorem dX9_longerKey_43 : decode cX9_longerKey 43 = .ok (.iload_n 3, 1) := by decide +kernel
theorem dX9_longerKey_44 : decode cX9_longerKey 44 = .ok (.i2l, 1) := by decide +kernel
theorem dX9_longerKey_45 : decode cX9_longerKey 45 = .ok (.lor, 1) := by decide +kernel
theorem dX9_longerKey_46 : decode cX9_longerKey 46 = .ok (.lreturn, 1) := by decide +kernel
abbrev cX9_keyOf : ByteArray := prog_11_method_3_code
def yX9_keyOf : MethodName := ⟨RX9, "keyOf", "(Ljava/lang/String;)J"⟩
theorem dX9_keyOf_0 : decode cX9_keyOf 0 = .ok (.lconst 0, 1) := by decide +kernel
theorem dX9_keyOf_1 : decode cX9_keyOf 1 = .ok (.lstore_n 1, 1) := by decide +kernel
theorem dX9_keyOf_2 : decode cX9_keyOf 2 = .ok (.iconst 0, 1) := by decide +kernel
theorem dX9_keyOf_3 : decode cX9_keyOf 3 = .ok (.istore_n 3, 1) := by decide +kernel
theorem dX9_keyOf_4 : decode cX9_keyOf 4 = .ok (.iload_n 3, 1) := by decide +kernel
theorem dX9_keyOf_5 : decode cX9_keyOf 5 = .ok (.aload_n 0, 1) := by decide +kernel
theorem dX9_keyOf_6 : decode cX9_keyOf 6 = .ok (.invokevirtual 37, 3) := by decide +kernel
theorem dX9_keyOf_9 : decode cX9_keyOf 9 = .ok (.if_icmp .ge 19, 3) := by decide +kernel
theorem dX9_keyOf_12 : decode cX9_keyOf 12 = .ok (.lload_n 1, 1) := by decide +kernel
theorem dX9_keyOf_13 : decode cX9_keyOf 13 = .ok (.aload_n 0, 1) := by decide +kernel
theorem dX9_keyOf_14 : decode cX9_keyOf 14 = .ok (.iload_n 3, 1) := by decide +kernel
theorem dX9_keyOf_15 : decode cX9_keyOf 15 = .ok (.invokevirtual 43, 3) := by decide +kernel
theorem dX9_keyOf_18 : decode cX9_keyOf 18 = .ok (.invokestatic 47, 3) := by decide +kernel
theorem dX9_keyOf_21 : decode cX9_keyOf 21 = .ok (.lstore_n 1, 1) := by decide +kernel
theorem dX9_keyOf_22 : decode cX9_keyOf 22 = .ok (.iinc 3 1, 3) := by decide +kernel
theorem dX9_keyOf_25 : decode cX9_keyOf 25 = .ok (.goto (-21), 3) := by decide +kernel
theorem dX9_keyOf_28 : decode cX9_keyOf 28 = .ok (.lload_n 1, 1) := by decide +kernel
theorem dX9_keyOf_29 : decode cX9_keyOf 29 = .ok (.lreturn, 1) := by decide +kernel
abbrev cX6_init : ByteArray := prog_8_method_1_code
def yX6_init : MethodName := ⟨RX6, "<init>", "()V"⟩
theorem dX6_init_0 : decode cX6_init 0 = .ok (.aload_n 0, 1) := by decide +kernel
theorem dX6_init_1 : decode cX6_init 1 = .ok (.invokespecial 3, 3) := by decide +kernel
theorem dX6_init_4 : decode cX6_init 4 = .ok (.aload_n 0, 1) := by decide +kernel
theorem dX6_init_5 : decode cX6_init 5 = .ok (.new 9, 3) := by decide +kernel
theorem dX6_init_8 : decode cX6_init 8 = .ok (.dup, 1) := by decide +kernel
theorem dX6_init_9 : decode cX6_init 9 = .ok (.invokespecial 11, 3) := by decide +kernel
theorem dX6_init_12 : decode cX6_init 12 = .ok (.putfield 12, 3) := by decide +kernel
theorem dX6_init_15 : decode cX6_init 15 = .ok (.aload_n 0, 1) := by decide +kernel
theorem dX6_init_16 : decode cX6_init 16 = .ok (.new 18, 3) := by decide +kernel
theorem dX6_init_19 : decode cX6_init 19 = .ok (.dup, 1) := by decide +kernel
theorem dX6_init_20 : decode cX6_init 20 = .ok (.invokespecial 20, 3) := by decide +kernel
theorem dX6_init_23 : decode cX6_init 23 = .ok (.putfield 21, 3) := by decide +kernel
theorem dX6_init_26 : decode cX6_init 26 = .ok (.aload_n 0, 1) := by decide +kernel
theorem dX6_init_27 : decode cX6_init 27 = .ok (.new 18, 3) := by decide +kernel
theorem dX6_init_30 : decode cX6_init 30 = .ok (.dup, 1) := by decide +kernel
theorem dX6_init_31 : decode cX6_init 31 = .ok (.invokespecial 20, 3) := by decide +kernel
theorem dX6_init_34 : decode cX6_init 34 = .ok (.putfield 25, 3) := by decide +kernel
theorem dX6_init_37 : decode cX6_init 37 = .ok (.aload_n 0, 1) := by decide +kernel
theorem dX6_init_38 : decode cX6_init 38 = .ok (.new 18, 3) := by decide +kernel
theorem dX6_init_41 : decode cX6_init 41 = .ok (.dup, 1) := by decide +kernel
theorem dX6_init_42 : decode cX6_init 42 = .ok (.invokespecial 20, 3) := by decide +kernel
theorem dX6_init_45 : decode cX6_init 45 = .ok (.putfield 28, 3) := by decide +kernel
theorem dX6_init_48 : decode cX6_init 48 = .ok (.aload_n 0, 1) := by decide +kernel
theorem dX6_init_49 : decode cX6_init 49 = .ok (.new 18, 3) := by decide +kernel
theorem dX6_init_52 : decode cX6_init 52 = .ok (.dup, 1) := by decide +kernel
theorem dX6_init_53 : decode cX6_init 53 = .ok (.invokespecial 20, 3) := by decide +kernel
theorem dX6_init_56 : decode cX6_init 56 = .ok (.putfield 31, 3) := by decide +kernel
theorem dX6_init_59 : decode cX6_init 59 = .ok (.aload_n 0, 1) := by decide +kernel
theorem dX6_init_60 : decode cX6_init 60 = .ok (.new 34, 3) := by decide +kernel
theorem dX6_init_63 : decode cX6_init 63 = .ok (.dup, 1) := by decide +kernel
theorem dX6_init_64 : decode cX6_init 64 = .ok (.iconst (-1), 1) := by decide +kernel
theorem dX6_init_65 : decode cX6_init 65 = .ok (.ldc 36, 2) := by decide +kernel
theorem dX6_init_67 : decode cX6_init 67 = .ok (.invokestatic 38, 3) := by decide +kernel
theorem dX6_init_70 : decode cX6_init 70 = .ok (.iconst 5, 1) := by decide +kernel
theorem dX6_init_71 : decode cX6_init 71 = .ok (.iconst 0, 1) := by decide +kernel
theorem dX6_init_72 : decode cX6_init 72 = .ok (.invokespecial 42, 3) := by decide +kernel
theorem dX6_init_75 : decode cX6_init 75 = .ok (.putfield 45, 3) := by decide +kernel
theorem dX6_init_78 : decode cX6_init 78 = .ok (.aload_n 0, 1) := by decide +kernel
theorem dX6_init_79 : decode cX6_init 79 = .ok (.new 34, 3) := by decide +kernel
theorem dX6_init_82 : decode cX6_init 82 = .ok (.dup, 1) := by decide +kernel
theorem dX6_init_83 : decode cX6_init 83 = .ok (.iconst (-1), 1) := by decide +kernel
theorem dX6_init_84 : decode cX6_init 84 = .ok (.ldc 48, 2) := by decide +kernel
theorem dX6_init_86 : decode cX6_init 86 = .ok (.invokestatic 38, 3) := by decide +kernel
theorem dX6_init_89 : decode cX6_init 89 = .ok (.iconst 3, 1) := by decide +kernel
theorem dX6_init_90 : decode cX6_init 90 = .ok (.iconst 0, 1) := by decide +kernel
theorem dX6_init_91 : decode cX6_init 91 = .ok (.invokespecial 42, 3) := by decide +kernel
theorem dX6_init_94 : decode cX6_init 94 = .ok (.putfield 50, 3) := by decide +kernel
theorem dX6_init_97 : decode cX6_init 97 = .ok (.aload_n 0, 1) := by decide +kernel
theorem dX6_init_98 : decode cX6_init 98 = .ok (.getfield 45, 3) := by decide +kernel
theorem dX6_init_101 : decode cX6_init 101 = .ok (.iconst 4, 1) := by decide +kernel
theorem dX6_init_102 : decode cX6_init 102 = .ok (.invokevirtual 52, 3) := by decide +kernel
theorem dX6_init_105 : decode cX6_init 105 = .ok (.return_, 1) := by decide +kernel
abbrev cX11_init : ByteArray := prog_1_method_1_code
def yX11_init : MethodName := ⟨RX11, "<init>", "()V"⟩
theorem dX11_init_0 : decode cX11_init 0 = .ok (.aload_n 0, 1) := by decide +kernel
theorem dX11_init_1 : decode cX11_init 1 = .ok (.invokespecial 1, 3) := by decide +kernel
theorem dX11_init_4 : decode cX11_init 4 = .ok (.aload_n 0, 1) := by decide +kernel
theorem dX11_init_5 : decode cX11_init 5 = .ok (.sipush 2500, 3) := by decide +kernel
theorem dX11_init_8 : decode cX11_init 8 = .ok (.newarray .byte, 2) := by decide +kernel
theorem dX11_init_10 : decode cX11_init 10 = .ok (.putfield 9, 3) := by decide +kernel
theorem dX11_init_13 : decode cX11_init 13 = .ok (.aload_n 0, 1) := by decide +kernel
theorem dX11_init_14 : decode cX11_init 14 = .ok (.bipush 40, 2) := by decide +kernel
theorem dX11_init_16 : decode cX11_init 16 = .ok (.newarray .int, 2) := by decide +kernel
theorem dX11_init_18 : decode cX11_init 18 = .ok (.putfield 13, 3) := by decide +kernel
theorem dX11_init_21 : decode cX11_init 21 = .ok (.aload_n 0, 1) := by decide +kernel
theorem dX11_init_22 : decode cX11_init 22 = .ok (.bipush 6, 2) := by decide +kernel
theorem dX11_init_24 : decode cX11_init 24 = .ok (.newarray .long, 2) := by decide +kernel
theorem dX11_init_26 : decode cX11_init 26 = .ok (.putfield 17, 3) := by decide +kernel
theorem dX11_init_29 : decode cX11_init 29 = .ok (.aload_n 0, 1) := by decide +kernel
theorem dX11_init_30 : decode cX11_init 30 = .ok (.new 21, 3) := by decide +kernel
theorem dX11_init_33 : decode cX11_init 33 = .ok (.dup, 1) := by decide +kernel
theorem dX11_init_34 : decode cX11_init 34 = .ok (.invokespecial 23, 3) := by decide +kernel
theorem dX11_init_37 : decode cX11_init 37 = .ok (.putfield 24, 3) := by decide +kernel
theorem dX11_init_40 : decode cX11_init 40 = .ok (.aload_n 0, 1) := by decide +kernel
theorem dX11_init_41 : decode cX11_init 41 = .ok (.new 21, 3) := by decide +kernel
theorem dX11_init_44 : decode cX11_init 44 = .ok (.dup, 1) := by decide +kernel
theorem dX11_init_45 : decode cX11_init 45 = .ok (.invokespecial 23, 3) := by decide +kernel
theorem dX11_init_48 : decode cX11_init 48 = .ok (.putfield 28, 3) := by decide +kernel
theorem dX11_init_51 : decode cX11_init 51 = .ok (.aload_n 0, 1) := by decide +kernel
theorem dX11_init_52 : decode cX11_init 52 = .ok (.new 31, 3) := by decide +kernel
theorem dX11_init_55 : decode cX11_init 55 = .ok (.dup, 1) := by decide +kernel
theorem dX11_init_56 : decode cX11_init 56 = .ok (.aload_n 0, 1) := by decide +kernel
theorem dX11_init_57 : decode cX11_init 57 = .ok (.getfield 28, 3) := by decide +kernel
theorem dX11_init_60 : decode cX11_init 60 = .ok (.invokespecial 33, 3) := by decide +kernel
theorem dX11_init_63 : decode cX11_init 63 = .ok (.putfield 36, 3) := by decide +kernel
theorem dX11_init_66 : decode cX11_init 66 = .ok (.aload_n 0, 1) := by decide +kernel
theorem dX11_init_67 : decode cX11_init 67 = .ok (.new 40, 3) := by decide +kernel
theorem dX11_init_70 : decode cX11_init 70 = .ok (.dup, 1) := by decide +kernel
theorem dX11_init_71 : decode cX11_init 71 = .ok (.aload_n 0, 1) := by decide +kernel
theorem dX11_init_72 : decode cX11_init 72 = .ok (.getfield 24, 3) := by decide +kernel
theorem dX11_init_75 : decode cX11_init 75 = .ok (.invokespecial 42, 3) := by decide +kernel
theorem dX11_init_78 : decode cX11_init 78 = .ok (.putfield 43, 3) := by decide +kernel
theorem dX11_init_81 : decode cX11_init 81 = .ok (.aload_n 0, 1) := by decide +kernel
theorem dX11_init_82 : decode cX11_init 82 = .ok (.new 47, 3) := by decide +kernel
theorem dX11_init_85 : decode cX11_init 85 = .ok (.dup, 1) := by decide +kernel
theorem dX11_init_86 : decode cX11_init 86 = .ok (.aload_n 0, 1) := by decide +kernel
theorem dX11_init_87 : decode cX11_init 87 = .ok (.getfield 24, 3) := by decide +kernel
theorem dX11_init_90 : decode cX11_init 90 = .ok (.invokespecial 49, 3) := by decide +kernel
theorem dX11_init_93 : decode cX11_init 93 = .ok (.putfield 50, 3) := by decide +kernel
theorem dX11_init_96 : decode cX11_init 96 = .ok (.aload_n 0, 1) := by decide +kernel
theorem dX11_init_97 : decode cX11_init 97 = .ok (.new 54, 3) := by decide +kernel
theorem dX11_init_100 : decode cX11_init 100 = .ok (.dup, 1) := by decide +kernel
theorem dX11_init_101 : decode cX11_init 101 = .ok (.aload_n 0, 1) := by decide +kernel
theorem dX11_init_102 : decode cX11_init 102 = .ok (.getfield 50, 3) := by decide +kernel
theorem dX11_init_105 : decode cX11_init 105 = .ok (.invokespecial 56, 3) := by decide +kernel
theorem dX11_init_108 : decode cX11_init 108 = .ok (.putfield 59, 3) := by decide +kernel
theorem dX11_init_111 : decode cX11_init 111 = .ok (.aload_n 0, 1) := by decide +kernel
theorem dX11_init_112 : decode cX11_init 112 = .ok (.bipush (-2), 2) := by decide +kernel
theorem dX11_init_114 : decode cX11_init 114 = .ok (.putfield 63, 3) := by decide +kernel
theorem dX11_init_117 : decode cX11_init 117 = .ok (.return_, 1) := by decide +kernel
def RJ0 : String := "java/lang/String"
def TJ0 : u_T := fun k => match k with
  | _ => ("", "", "", false)
def tyJ0 : Nat → FieldType := fun k => match k with
  | _ => .int
abbrev wsJ00 : List Cond := u_ws RJ0 TJ0 0
theorem nmJ0 : ∀ a, a < 0 → ∀ b, b < 0 → a ≠ b → (TJ0 a).2.1 ≠ (TJ0 b).2.1 := by decide +kernel
theorem tyJ0_ok : ∀ k, k < 0 → parseFieldDescriptor (TJ0 k).2.2.1 = some (tyJ0 k) := by decide +kernel
abbrev cJ0_length_8abf5 : ByteArray := prog_19_method_54_code
def yJ0_length_8abf5 : MethodName := ⟨RJ0, "length", "()I"⟩
theorem dJ0_length_8abf5_0 : decode cJ0_length_8abf5 0 = .ok (.aload_n 0, 1) := by decide +kernel
theorem dJ0_length_8abf5_1 : decode cJ0_length_8abf5 1 = .ok (.getfield 9, 3) := by decide +kernel
theorem dJ0_length_8abf5_4 : decode cJ0_length_8abf5 4 = .ok (.arraylength, 1) := by decide +kernel
theorem dJ0_length_8abf5_5 : decode cJ0_length_8abf5 5 = .ok (.aload_n 0, 1) := by decide +kernel
theorem dJ0_length_8abf5_6 : decode cJ0_length_8abf5 6 = .ok (.invokevirtual 335, 3) := by decide +kernel
theorem dJ0_length_8abf5_9 : decode cJ0_length_8abf5 9 = .ok (.ishr, 1) := by decide +kernel
theorem dJ0_length_8abf5_10 : decode cJ0_length_8abf5 10 = .ok (.ireturn, 1) := by decide +kernel
abbrev cJ0_charAt_5068e : ByteArray := prog_19_method_56_code
def yJ0_charAt_5068e : MethodName := ⟨RJ0, "charAt", "(I)C"⟩
theorem dJ0_charAt_5068e_0 : decode cJ0_charAt_5068e 0 = .ok (.aload_n 0, 1) := by decide +kernel
theorem dJ0_charAt_5068e_1 : decode cJ0_charAt_5068e 1 = .ok (.invokevirtual 492, 3) := by decide +kernel
theorem dJ0_charAt_5068e_4 : decode cJ0_charAt_5068e 4 = .ok (.ifCond .eq 12, 3) := by decide +kernel
theorem dJ0_charAt_5068e_7 : decode cJ0_charAt_5068e 7 = .ok (.aload_n 0, 1) := by decide +kernel
theorem dJ0_charAt_5068e_8 : decode cJ0_charAt_5068e 8 = .ok (.getfield 9, 3) := by decide +kernel
theorem dJ0_charAt_5068e_11 : decode cJ0_charAt_5068e 11 = .ok (.iload_n 1, 1) := by decide +kernel
theorem dJ0_charAt_5068e_12 : decode cJ0_charAt_5068e 12 = .ok (.invokestatic 495, 3) := by decide +kernel
theorem dJ0_charAt_5068e_15 : decode cJ0_charAt_5068e 15 = .ok (.ireturn, 1) := by decide +kernel
theorem dJ0_charAt_5068e_16 : decode cJ0_charAt_5068e 16 = .ok (.aload_n 0, 1) := by decide +kernel
theorem dJ0_charAt_5068e_17 : decode cJ0_charAt_5068e 17 = .ok (.getfield 9, 3) := by decide +kernel
theorem dJ0_charAt_5068e_20 : decode cJ0_charAt_5068e 20 = .ok (.iload_n 1, 1) := by decide +kernel
theorem dJ0_charAt_5068e_21 : decode cJ0_charAt_5068e 21 = .ok (.invokestatic 498, 3) := by decide +kernel
theorem dJ0_charAt_5068e_24 : decode cJ0_charAt_5068e 24 = .ok (.ireturn, 1) := by decide +kernel
abbrev cJ0_coder_7d493 : ByteArray := prog_19_method_152_code
def yJ0_coder_7d493 : MethodName := ⟨RJ0, "coder", "()B"⟩
theorem dJ0_coder_7d493_0 : decode cJ0_coder_7d493 0 = .ok (.getstatic 38, 3) := by decide +kernel
theorem dJ0_coder_7d493_3 : decode cJ0_coder_7d493 3 = .ok (.ifCond .eq 10, 3) := by decide +kernel
theorem dJ0_coder_7d493_6 : decode cJ0_coder_7d493 6 = .ok (.aload_n 0, 1) := by decide +kernel
theorem dJ0_coder_7d493_7 : decode cJ0_coder_7d493 7 = .ok (.getfield 15, 3) := by decide +kernel
theorem dJ0_coder_7d493_10 : decode cJ0_coder_7d493 10 = .ok (.goto 4, 3) := by decide +kernel
theorem dJ0_coder_7d493_13 : decode cJ0_coder_7d493 13 = .ok (.iconst 1, 1) := by decide +kernel
theorem dJ0_coder_7d493_14 : decode cJ0_coder_7d493 14 = .ok (.ireturn, 1) := by decide +kernel
abbrev cJ0_isLatin1_aae02 : ByteArray := prog_19_method_154_code
def yJ0_isLatin1_aae02 : MethodName := ⟨RJ0, "isLatin1", "()Z"⟩
theorem dJ0_isLatin1_aae02_0 : decode cJ0_isLatin1_aae02 0 = .ok (.getstatic 38, 3) := by decide +kernel
theorem dJ0_isLatin1_aae02_3 : decode cJ0_isLatin1_aae02 3 = .ok (.ifCond .eq 14, 3) := by decide +kernel
theorem dJ0_isLatin1_aae02_6 : decode cJ0_isLatin1_aae02 6 = .ok (.aload_n 0, 1) := by decide +kernel
theorem dJ0_isLatin1_aae02_7 : decode cJ0_isLatin1_aae02 7 = .ok (.getfield 15, 3) := by decide +kernel
theorem dJ0_isLatin1_aae02_10 : decode cJ0_isLatin1_aae02 10 = .ok (.ifCond .ne 7, 3) := by decide +kernel
theorem dJ0_isLatin1_aae02_13 : decode cJ0_isLatin1_aae02 13 = .ok (.iconst 1, 1) := by decide +kernel
theorem dJ0_isLatin1_aae02_14 : decode cJ0_isLatin1_aae02 14 = .ok (.goto 4, 3) := by decide +kernel
theorem dJ0_isLatin1_aae02_17 : decode cJ0_isLatin1_aae02 17 = .ok (.iconst 0, 1) := by decide +kernel
theorem dJ0_isLatin1_aae02_18 : decode cJ0_isLatin1_aae02 18 = .ok (.ireturn, 1) := by decide +kernel
abbrev cJ0_checkIndex_df160 : ByteArray := prog_19_method_155_code
def yJ0_checkIndex_df160 : MethodName := ⟨RJ0, "checkIndex", "(II)V"⟩
theorem dJ0_checkIndex_df160_0 : decode cJ0_checkIndex_df160 0 = .ok (.iload_n 0, 1) := by decide +kernel
theorem dJ0_checkIndex_df160_1 : decode cJ0_checkIndex_df160 1 = .ok (.iload_n 1, 1) := by decide +kernel
theorem dJ0_checkIndex_df160_2 : decode cJ0_checkIndex_df160 2 = .ok (.getstatic 1053, 3) := by decide +kernel
theorem dJ0_checkIndex_df160_5 : decode cJ0_checkIndex_df160 5 = .ok (.invokestatic 1059, 3) := by decide +kernel
theorem dJ0_checkIndex_df160_8 : decode cJ0_checkIndex_df160 8 = .ok (.pop, 1) := by decide +kernel
theorem dJ0_checkIndex_df160_9 : decode cJ0_checkIndex_df160 9 = .ok (.return_, 1) := by decide +kernel
def RJ1 : String := "java/lang/StringLatin1"
def TJ1 : u_T := fun k => match k with
  | _ => ("", "", "", false)
def tyJ1 : Nat → FieldType := fun k => match k with
  | _ => .int
abbrev wsJ10 : List Cond := u_ws RJ1 TJ1 0
theorem nmJ1 : ∀ a, a < 0 → ∀ b, b < 0 → a ≠ b → (TJ1 a).2.1 ≠ (TJ1 b).2.1 := by decide +kernel
theorem tyJ1_ok : ∀ k, k < 0 → parseFieldDescriptor (TJ1 k).2.2.1 = some (tyJ1 k) := by decide +kernel
abbrev cJ1_charAt_3b067 : ByteArray := prog_20_method_2_code
def yJ1_charAt_3b067 : MethodName := ⟨RJ1, "charAt", "([BI)C"⟩
theorem dJ1_charAt_3b067_0 : decode cJ1_charAt_3b067 0 = .ok (.iload_n 1, 1) := by decide +kernel
theorem dJ1_charAt_3b067_1 : decode cJ1_charAt_3b067 1 = .ok (.aload_n 0, 1) := by decide +kernel
theorem dJ1_charAt_3b067_2 : decode cJ1_charAt_3b067 2 = .ok (.arraylength, 1) := by decide +kernel
theorem dJ1_charAt_3b067_3 : decode cJ1_charAt_3b067 3 = .ok (.invokestatic 9, 3) := by decide +kernel
theorem dJ1_charAt_3b067_6 : decode cJ1_charAt_3b067 6 = .ok (.aload_n 0, 1) := by decide +kernel
theorem dJ1_charAt_3b067_7 : decode cJ1_charAt_3b067 7 = .ok (.iload_n 1, 1) := by decide +kernel
theorem dJ1_charAt_3b067_8 : decode cJ1_charAt_3b067 8 = .ok (.baload, 1) := by decide +kernel
theorem dJ1_charAt_3b067_9 : decode cJ1_charAt_3b067 9 = .ok (.sipush 255, 3) := by decide +kernel
theorem dJ1_charAt_3b067_12 : decode cJ1_charAt_3b067 12 = .ok (.iand, 1) := by decide +kernel
theorem dJ1_charAt_3b067_13 : decode cJ1_charAt_3b067 13 = .ok (.i2c, 1) := by decide +kernel
theorem dJ1_charAt_3b067_14 : decode cJ1_charAt_3b067 14 = .ok (.ireturn, 1) := by decide +kernel
def RJ3 : String := "jdk/internal/util/Preconditions"
def TJ3 : u_T := fun k => match k with
  | _ => ("", "", "", false)
def tyJ3 : Nat → FieldType := fun k => match k with
  | _ => .int
abbrev wsJ30 : List Cond := u_ws RJ3 TJ3 0
theorem nmJ3 : ∀ a, a < 0 → ∀ b, b < 0 → a ≠ b → (TJ3 a).2.1 ≠ (TJ3 b).2.1 := by decide +kernel
theorem tyJ3_ok : ∀ k, k < 0 → parseFieldDescriptor (TJ3 k).2.2.1 = some (tyJ3 k) := by decide +kernel
abbrev cJ3_checkIndex_8e157 : ByteArray := prog_33_method_11_code
def yJ3_checkIndex_8e157 : MethodName := ⟨RJ3, "checkIndex", "(IILjava/util/function/BiFunction;)I"⟩
theorem dJ3_checkIndex_8e157_0 : decode cJ3_checkIndex_8e157 0 = .ok (.iload_n 0, 1) := by decide +kernel
theorem dJ3_checkIndex_8e157_1 : decode cJ3_checkIndex_8e157 1 = .ok (.ifCond .lt 8, 3) := by decide +kernel
theorem dJ3_checkIndex_8e157_4 : decode cJ3_checkIndex_8e157 4 = .ok (.iload_n 0, 1) := by decide +kernel
theorem dJ3_checkIndex_8e157_5 : decode cJ3_checkIndex_8e157 5 = .ok (.iload_n 1, 1) := by decide +kernel
theorem dJ3_checkIndex_8e157_6 : decode cJ3_checkIndex_8e157 6 = .ok (.if_icmp .lt 10, 3) := by decide +kernel
theorem dJ3_checkIndex_8e157_9 : decode cJ3_checkIndex_8e157 9 = .ok (.aload_n 2, 1) := by decide +kernel
theorem dJ3_checkIndex_8e157_10 : decode cJ3_checkIndex_8e157 10 = .ok (.iload_n 0, 1) := by decide +kernel
theorem dJ3_checkIndex_8e157_11 : decode cJ3_checkIndex_8e157 11 = .ok (.iload_n 1, 1) := by decide +kernel
theorem dJ3_checkIndex_8e157_12 : decode cJ3_checkIndex_8e157 12 = .ok (.invokestatic 95, 3) := by decide +kernel
theorem dJ3_checkIndex_8e157_15 : decode cJ3_checkIndex_8e157 15 = .ok (.athrow, 1) := by decide +kernel
theorem dJ3_checkIndex_8e157_16 : decode cJ3_checkIndex_8e157 16 = .ok (.iload_n 0, 1) := by decide +kernel
theorem dJ3_checkIndex_8e157_17 : decode cJ3_checkIndex_8e157 17 = .ok (.ireturn, 1) := by decide +kernel
def RJxa1e45 : String := "java/util/AbstractCollection"
def TJxa1e45 : u_T := fun k => match k with
  | _ => ("", "", "", false)
def tyJxa1e45 : Nat → FieldType := fun k => match k with
  | _ => .int
abbrev wsJxa1e450 : List Cond := u_ws RJxa1e45 TJxa1e45 0
theorem nmJxa1e45 : ∀ a, a < 0 → ∀ b, b < 0 → a ≠ b → (TJxa1e45 a).2.1 ≠ (TJxa1e45 b).2.1 := by decide +kernel
theorem tyJxa1e45_ok : ∀ k, k < 0 → parseFieldDescriptor (TJxa1e45 k).2.2.1 = some (tyJxa1e45 k) := by decide +kernel
abbrev cJxa1e45_init_da8c8 : ByteArray := prog_23_method_1_code
def yJxa1e45_init_da8c8 : MethodName := ⟨RJxa1e45, "<init>", "()V"⟩
theorem dJxa1e45_init_da8c8_0 : decode cJxa1e45_init_da8c8 0 = .ok (.aload_n 0, 1) := by decide +kernel
theorem dJxa1e45_init_da8c8_1 : decode cJxa1e45_init_da8c8 1 = .ok (.invokespecial 1, 3) := by decide +kernel
theorem dJxa1e45_init_da8c8_4 : decode cJxa1e45_init_da8c8 4 = .ok (.return_, 1) := by decide +kernel
def RJxc12de : String := "java/util/AbstractList"
def TJxc12de : u_T := fun k => match k with
  | _ => ("", "", "", false)
def tyJxc12de : Nat → FieldType := fun k => match k with
  | _ => .int
abbrev wsJxc12de0 : List Cond := u_ws RJxc12de TJxc12de 0
theorem nmJxc12de : ∀ a, a < 0 → ∀ b, b < 0 → a ≠ b → (TJxc12de a).2.1 ≠ (TJxc12de b).2.1 := by decide +kernel
theorem tyJxc12de_ok : ∀ k, k < 0 → parseFieldDescriptor (TJxc12de k).2.2.1 = some (tyJxc12de k) := by decide +kernel
abbrev cJxc12de_init_da8c8 : ByteArray := prog_24_method_1_code
def yJxc12de_init_da8c8 : MethodName := ⟨RJxc12de, "<init>", "()V"⟩
theorem dJxc12de_init_da8c8_0 : decode cJxc12de_init_da8c8 0 = .ok (.aload_n 0, 1) := by decide +kernel
theorem dJxc12de_init_da8c8_1 : decode cJxc12de_init_da8c8 1 = .ok (.invokespecial 1, 3) := by decide +kernel
theorem dJxc12de_init_da8c8_4 : decode cJxc12de_init_da8c8 4 = .ok (.aload_n 0, 1) := by decide +kernel
theorem dJxc12de_init_da8c8_5 : decode cJxc12de_init_da8c8 5 = .ok (.iconst 0, 1) := by decide +kernel
theorem dJxc12de_init_da8c8_6 : decode cJxc12de_init_da8c8 6 = .ok (.putfield 7, 3) := by decide +kernel
theorem dJxc12de_init_da8c8_9 : decode cJxc12de_init_da8c8 9 = .ok (.return_, 1) := by decide +kernel
abbrev cJx4a65c_init_da8c8 : ByteArray := prog_25_method_2_code
def yJx4a65c_init_da8c8 : MethodName := ⟨RJx4a65c, "<init>", "()V"⟩
theorem dJx4a65c_init_da8c8_0 : decode cJx4a65c_init_da8c8 0 = .ok (.aload_n 0, 1) := by decide +kernel
theorem dJx4a65c_init_da8c8_1 : decode cJx4a65c_init_da8c8 1 = .ok (.invokespecial 1, 3) := by decide +kernel
theorem dJx4a65c_init_da8c8_4 : decode cJx4a65c_init_da8c8 4 = .ok (.aload_n 0, 1) := by decide +kernel
theorem dJx4a65c_init_da8c8_5 : decode cJx4a65c_init_da8c8 5 = .ok (.getstatic 39, 3) := by decide +kernel
theorem dJx4a65c_init_da8c8_8 : decode cJx4a65c_init_da8c8 8 = .ok (.putfield 9, 3) := by decide +kernel
theorem dJx4a65c_init_da8c8_11 : decode cJx4a65c_init_da8c8 11 = .ok (.return_, 1) := by decide +kernel
abbrev cJx4a65c_size_8abf5 : ByteArray := prog_25_method_8_code
def yJx4a65c_size_8abf5 : MethodName := ⟨RJx4a65c, "size", "()I"⟩
theorem dJx4a65c_size_8abf5_0 : decode cJx4a65c_size_8abf5 0 = .ok (.aload_n 0, 1) := by decide +kernel
theorem dJx4a65c_size_8abf5_1 : decode cJx4a65c_size_8abf5 1 = .ok (.getfield 48, 3) := by decide +kernel
theorem dJx4a65c_size_8abf5_4 : decode cJx4a65c_size_8abf5 4 = .ok (.ireturn, 1) := by decide +kernel
abbrev cJx4a65c_clear_da8c8 : ByteArray := prog_25_method_40_code
def yJx4a65c_clear_da8c8 : MethodName := ⟨RJx4a65c, "clear", "()V"⟩
theorem dJx4a65c_clear_da8c8_0 : decode cJx4a65c_clear_da8c8 0 = .ok (.aload_n 0, 1) := by decide +kernel
theorem dJx4a65c_clear_da8c8_1 : decode cJx4a65c_clear_da8c8 1 = .ok (.dup, 1) := by decide +kernel
theorem dJx4a65c_clear_da8c8_2 : decode cJx4a65c_clear_da8c8 2 = .ok (.getfield 63, 3) := by decide +kernel
theorem dJx4a65c_clear_da8c8_5 : decode cJx4a65c_clear_da8c8 5 = .ok (.iconst 1, 1) := by decide +kernel
theorem dJx4a65c_clear_da8c8_6 : decode cJx4a65c_clear_da8c8 6 = .ok (.iadd, 1) := by decide +kernel
theorem dJx4a65c_clear_da8c8_7 : decode cJx4a65c_clear_da8c8 7 = .ok (.putfield 63, 3) := by decide +kernel
theorem dJx4a65c_clear_da8c8_10 : decode cJx4a65c_clear_da8c8 10 = .ok (.aload_n 0, 1) := by decide +kernel
theorem dJx4a65c_clear_da8c8_11 : decode cJx4a65c_clear_da8c8 11 = .ok (.getfield 9, 3) := by decide +kernel
theorem dJx4a65c_clear_da8c8_14 : decode cJx4a65c_clear_da8c8 14 = .ok (.astore_n 1, 1) := by decide +kernel
theorem dJx4a65c_clear_da8c8_15 : decode cJx4a65c_clear_da8c8 15 = .ok (.aload_n 0, 1) := by decide +kernel
theorem dJx4a65c_clear_da8c8_16 : decode cJx4a65c_clear_da8c8 16 = .ok (.getfield 48, 3) := by decide +kernel
theorem dJx4a65c_clear_da8c8_19 : decode cJx4a65c_clear_da8c8 19 = .ok (.istore_n 2, 1) := by decide +kernel
theorem dJx4a65c_clear_da8c8_20 : decode cJx4a65c_clear_da8c8 20 = .ok (.aload_n 0, 1) := by decide +kernel
theorem dJx4a65c_clear_da8c8_21 : decode cJx4a65c_clear_da8c8 21 = .ok (.iconst 0, 1) := by decide +kernel
theorem dJx4a65c_clear_da8c8_22 : decode cJx4a65c_clear_da8c8 22 = .ok (.dup_x1, 1) := by decide +kernel
theorem dJx4a65c_clear_da8c8_23 : decode cJx4a65c_clear_da8c8 23 = .ok (.putfield 48, 3) := by decide +kernel
theorem dJx4a65c_clear_da8c8_26 : decode cJx4a65c_clear_da8c8 26 = .ok (.istore_n 3, 1) := by decide +kernel
theorem dJx4a65c_clear_da8c8_27 : decode cJx4a65c_clear_da8c8 27 = .ok (.iload_n 3, 1) := by decide +kernel
theorem dJx4a65c_clear_da8c8_28 : decode cJx4a65c_clear_da8c8 28 = .ok (.iload_n 2, 1) := by decide +kernel
theorem dJx4a65c_clear_da8c8_29 : decode cJx4a65c_clear_da8c8 29 = .ok (.if_icmp .ge 13, 3) := by decide +kernel
theorem dJx4a65c_clear_da8c8_32 : decode cJx4a65c_clear_da8c8 32 = .ok (.aload_n 1, 1) := by decide +kernel
theorem dJx4a65c_clear_da8c8_33 : decode cJx4a65c_clear_da8c8 33 = .ok (.iload_n 3, 1) := by decide +kernel
theorem dJx4a65c_clear_da8c8_34 : decode cJx4a65c_clear_da8c8 34 = .ok (.aconst_null, 1) := by decide +kernel
theorem dJx4a65c_clear_da8c8_35 : decode cJx4a65c_clear_da8c8 35 = .ok (.aastore, 1) := by decide +kernel
theorem dJx4a65c_clear_da8c8_36 : decode cJx4a65c_clear_da8c8 36 = .ok (.iinc 3 1, 3) := by decide +kernel
theorem dJx4a65c_clear_da8c8_39 : decode cJx4a65c_clear_da8c8 39 = .ok (.goto (-12), 3) := by decide +kernel
theorem dJx4a65c_clear_da8c8_42 : decode cJx4a65c_clear_da8c8 42 = .ok (.return_, 1) := by decide +kernel
abbrev cX11_feed : ByteArray := prog_1_method_2_code
def yX11_feed : MethodName := ⟨RX11, "feed", "(IIIII)I"⟩
theorem dX11_feed_0 : decode cX11_feed 0 = .ok (.aload_n 0, 1) := by decide +kernel
theorem dX11_feed_1 : decode cX11_feed 1 = .ok (.getfield 67, 3) := by decide +kernel
theorem dX11_feed_4 : decode cX11_feed 4 = .ok (.bipush 20, 2) := by decide +kernel
theorem dX11_feed_6 : decode cX11_feed 6 = .ok (.iadd, 1) := by decide +kernel
theorem dX11_feed_7 : decode cX11_feed 7 = .ok (.sipush 2500, 3) := by decide +kernel
theorem dX11_feed_10 : decode cX11_feed 10 = .ok (.if_icmp .le 6, 3) := by decide +kernel
theorem dX11_feed_13 : decode cX11_feed 13 = .ok (.bipush (-3), 2) := by decide +kernel
theorem dX11_feed_15 : decode cX11_feed 15 = .ok (.ireturn, 1) := by decide +kernel
theorem dX11_feed_16 : decode cX11_feed 16 = .ok (.aload_n 0, 1) := by decide +kernel
theorem dX11_feed_17 : decode cX11_feed 17 = .ok (.iload_n 1, 1) := by decide +kernel
theorem dX11_feed_18 : decode cX11_feed 18 = .ok (.invokevirtual 70, 3) := by decide +kernel
theorem dX11_feed_21 : decode cX11_feed 21 = .ok (.aload_n 0, 1) := by decide +kernel
theorem dX11_feed_22 : decode cX11_feed 22 = .ok (.iload_n 2, 1) := by decide +kernel
theorem dX11_feed_23 : decode cX11_feed 23 = .ok (.invokevirtual 70, 3) := by decide +kernel
theorem dX11_feed_26 : decode cX11_feed 26 = .ok (.aload_n 0, 1) := by decide +kernel
theorem dX11_feed_27 : decode cX11_feed 27 = .ok (.iload_n 3, 1) := by decide +kernel
theorem dX11_feed_28 : decode cX11_feed 28 = .ok (.invokevirtual 70, 3) := by decide +kernel
theorem dX11_feed_31 : decode cX11_feed 31 = .ok (.aload_n 0, 1) := by decide +kernel
theorem dX11_feed_32 : decode cX11_feed 32 = .ok (.iload 4, 2) := by decide +kernel
theorem dX11_feed_34 : decode cX11_feed 34 = .ok (.invokevirtual 70, 3) := by decide +kernel
theorem dX11_feed_37 : decode cX11_feed 37 = .ok (.aload_n 0, 1) := by decide +kernel
theorem dX11_feed_38 : decode cX11_feed 38 = .ok (.iload 5, 2) := by decide +kernel
theorem dX11_feed_40 : decode cX11_feed 40 = .ok (.invokevirtual 70, 3) := by decide +kernel
theorem dX11_feed_43 : decode cX11_feed 43 = .ok (.aload_n 0, 1) := by decide +kernel
theorem dX11_feed_44 : decode cX11_feed 44 = .ok (.getfield 67, 3) := by decide +kernel
theorem dX11_feed_47 : decode cX11_feed 47 = .ok (.ireturn, 1) := by decide +kernel
abbrev cX11_append : ByteArray := prog_1_method_3_code
def yX11_append : MethodName := ⟨RX11, "append", "(I)V"⟩
theorem dX11_append_0 : decode cX11_append 0 = .ok (.bipush 24, 2) := by decide +kernel
theorem dX11_append_2 : decode cX11_append 2 = .ok (.istore_n 2, 1) := by decide +kernel
theorem dX11_append_3 : decode cX11_append 3 = .ok (.iload_n 2, 1) := by decide +kernel
theorem dX11_append_4 : decode cX11_append 4 = .ok (.ifCond .lt 42, 3) := by decide +kernel
theorem dX11_append_7 : decode cX11_append 7 = .ok (.aload_n 0, 1) := by decide +kernel
theorem dX11_append_8 : decode cX11_append 8 = .ok (.getfield 67, 3) := by decide +kernel
theorem dX11_append_11 : decode cX11_append 11 = .ok (.sipush 2500, 3) := by decide +kernel
theorem dX11_append_14 : decode cX11_append 14 = .ok (.if_icmp .ge 32, 3) := by decide +kernel
theorem dX11_append_17 : decode cX11_append 17 = .ok (.aload_n 0, 1) := by decide +kernel
theorem dX11_append_18 : decode cX11_append 18 = .ok (.getfield 9, 3) := by decide +kernel
theorem dX11_append_21 : decode cX11_append 21 = .ok (.aload_n 0, 1) := by decide +kernel
theorem dX11_append_22 : decode cX11_append 22 = .ok (.getfield 67, 3) := by decide +kernel
theorem dX11_append_25 : decode cX11_append 25 = .ok (.iload_n 1, 1) := by decide +kernel
theorem dX11_append_26 : decode cX11_append 26 = .ok (.iload_n 2, 1) := by decide +kernel
theorem dX11_append_27 : decode cX11_append 27 = .ok (.ishr, 1) := by decide +kernel
theorem dX11_append_28 : decode cX11_append 28 = .ok (.i2b, 1) := by decide +kernel
theorem dX11_append_29 : decode cX11_append 29 = .ok (.bastore, 1) := by decide +kernel
theorem dX11_append_30 : decode cX11_append 30 = .ok (.aload_n 0, 1) := by decide +kernel
theorem dX11_append_31 : decode cX11_append 31 = .ok (.dup, 1) := by decide +kernel
theorem dX11_append_32 : decode cX11_append 32 = .ok (.getfield 67, 3) := by decide +kernel
theorem dX11_append_35 : decode cX11_append 35 = .ok (.iconst 1, 1) := by decide +kernel
theorem dX11_append_36 : decode cX11_append 36 = .ok (.iadd, 1) := by decide +kernel
theorem dX11_append_37 : decode cX11_append 37 = .ok (.putfield 67, 3) := by decide +kernel
theorem dX11_append_40 : decode cX11_append 40 = .ok (.iinc 2 (-8), 3) := by decide +kernel
theorem dX11_append_43 : decode cX11_append 43 = .ok (.goto (-40), 3) := by decide +kernel
theorem dX11_append_46 : decode cX11_append 46 = .ok (.return_, 1) := by decide +kernel
abbrev cX11_cut : ByteArray := prog_1_method_4_code
def yX11_cut : MethodName := ⟨RX11, "cut", "(I)I"⟩
theorem dX11_cut_0 : decode cX11_cut 0 = .ok (.iload_n 1, 1) := by decide +kernel
theorem dX11_cut_1 : decode cX11_cut 1 = .ok (.ifCond .lt 11, 3) := by decide +kernel
theorem dX11_cut_4 : decode cX11_cut 4 = .ok (.iload_n 1, 1) := by decide +kernel
theorem dX11_cut_5 : decode cX11_cut 5 = .ok (.aload_n 0, 1) := by decide +kernel
theorem dX11_cut_6 : decode cX11_cut 6 = .ok (.getfield 67, 3) := by decide +kernel
theorem dX11_cut_9 : decode cX11_cut 9 = .ok (.if_icmp .le 5, 3) := by decide +kernel
theorem dX11_cut_12 : decode cX11_cut 12 = .ok (.iconst (-1), 1) := by decide +kernel
theorem dX11_cut_13 : decode cX11_cut 13 = .ok (.ireturn, 1) := by decide +kernel
theorem dX11_cut_14 : decode cX11_cut 14 = .ok (.aload_n 0, 1) := by decide +kernel
theorem dX11_cut_15 : decode cX11_cut 15 = .ok (.dup, 1) := by decide +kernel
theorem dX11_cut_16 : decode cX11_cut 16 = .ok (.getfield 67, 3) := by decide +kernel
theorem dX11_cut_19 : decode cX11_cut 19 = .ok (.iload_n 1, 1) := by decide +kernel
theorem dX11_cut_20 : decode cX11_cut 20 = .ok (.isub, 1) := by decide +kernel
theorem dX11_cut_21 : decode cX11_cut 21 = .ok (.putfield 67, 3) := by decide +kernel
theorem dX11_cut_24 : decode cX11_cut 24 = .ok (.aload_n 0, 1) := by decide +kernel
theorem dX11_cut_25 : decode cX11_cut 25 = .ok (.getfield 67, 3) := by decide +kernel
theorem dX11_cut_28 : decode cX11_cut 28 = .ok (.ireturn, 1) := by decide +kernel
abbrev cX11_read : ByteArray := prog_1_method_5_code
def yX11_read : MethodName := ⟨RX11, "read", "()I"⟩
theorem dX11_read_0 : decode cX11_read 0 = .ok (.aload_n 0, 1) := by decide +kernel
theorem dX11_read_1 : decode cX11_read 1 = .ok (.getfield 36, 3) := by decide +kernel
theorem dX11_read_4 : decode cX11_read 4 = .ok (.aload_n 0, 1) := by decide +kernel
theorem dX11_read_5 : decode cX11_read 5 = .ok (.getfield 28, 3) := by decide +kernel
theorem dX11_read_8 : decode cX11_read 8 = .ok (.aload_n 0, 1) := by decide +kernel
theorem dX11_read_9 : decode cX11_read 9 = .ok (.getfield 9, 3) := by decide +kernel
theorem dX11_read_12 : decode cX11_read 12 = .ok (.aload_n 0, 1) := by decide +kernel
theorem dX11_read_13 : decode cX11_read 13 = .ok (.getfield 67, 3) := by decide +kernel
theorem dX11_read_16 : decode cX11_read 16 = .ok (.invokevirtual 74, 3) := by decide +kernel
theorem dX11_read_19 : decode cX11_read 19 = .ok (.istore_n 1, 1) := by decide +kernel
theorem dX11_read_20 : decode cX11_read 20 = .ok (.aload_n 0, 1) := by decide +kernel
theorem dX11_read_21 : decode cX11_read 21 = .ok (.iconst 0, 1) := by decide +kernel
theorem dX11_read_22 : decode cX11_read 22 = .ok (.putfield 67, 3) := by decide +kernel
theorem dX11_read_25 : decode cX11_read 25 = .ok (.iload_n 1, 1) := by decide +kernel
theorem dX11_read_26 : decode cX11_read 26 = .ok (.ifCond .eq 19, 3) := by decide +kernel
theorem dX11_read_29 : decode cX11_read 29 = .ok (.aload_n 0, 1) := by decide +kernel
theorem dX11_read_30 : decode cX11_read 30 = .ok (.aload_n 0, 1) := by decide +kernel
theorem dX11_read_31 : decode cX11_read 31 = .ok (.getfield 36, 3) := by decide +kernel
theorem dX11_read_34 : decode cX11_read 34 = .ok (.invokevirtual 78, 3) := by decide +kernel
theorem dX11_read_37 : decode cX11_read 37 = .ok (.putfield 63, 3) := by decide +kernel
theorem dX11_read_40 : decode cX11_read 40 = .ok (.bipush (-10), 2) := by decide +kernel
theorem dX11_read_42 : decode cX11_read 42 = .ok (.iload_n 1, 1) := by decide +kernel
theorem dX11_read_43 : decode cX11_read 43 = .ok (.isub, 1) := by decide +kernel
theorem dX11_read_44 : decode cX11_read 44 = .ok (.ireturn, 1) := by decide +kernel
theorem dX11_read_45 : decode cX11_read 45 = .ok (.aload_n 0, 1) := by decide +kernel
theorem dX11_read_46 : decode cX11_read 46 = .ok (.getfield 24, 3) := by decide +kernel
theorem dX11_read_49 : decode cX11_read 49 = .ok (.astore_n 2, 1) := by decide +kernel
theorem dX11_read_50 : decode cX11_read 50 = .ok (.aload_n 0, 1) := by decide +kernel
theorem dX11_read_51 : decode cX11_read 51 = .ok (.aload_n 0, 1) := by decide +kernel
theorem dX11_read_52 : decode cX11_read 52 = .ok (.getfield 28, 3) := by decide +kernel
theorem dX11_read_55 : decode cX11_read 55 = .ok (.putfield 24, 3) := by decide +kernel
theorem dX11_read_58 : decode cX11_read 58 = .ok (.aload_n 0, 1) := by decide +kernel
theorem dX11_read_59 : decode cX11_read 59 = .ok (.aload_n 2, 1) := by decide +kernel
theorem dX11_read_60 : decode cX11_read 60 = .ok (.putfield 28, 3) := by decide +kernel
theorem dX11_read_63 : decode cX11_read 63 = .ok (.aload_n 0, 1) := by decide +kernel
theorem dX11_read_64 : decode cX11_read 64 = .ok (.bipush (-2), 2) := by decide +kernel
theorem dX11_read_66 : decode cX11_read 66 = .ok (.putfield 63, 3) := by decide +kernel
theorem dX11_read_69 : decode cX11_read 69 = .ok (.aload_n 0, 1) := by decide +kernel
theorem dX11_read_70 : decode cX11_read 70 = .ok (.iconst 0, 1) := by decide +kernel
theorem dX11_read_71 : decode cX11_read 71 = .ok (.putfield 82, 3) := by decide +kernel
theorem dX11_read_74 : decode cX11_read 74 = .ok (.aload_n 0, 1) := by decide +kernel
theorem dX11_read_75 : decode cX11_read 75 = .ok (.getfield 43, 3) := by decide +kernel
theorem dX11_read_78 : decode cX11_read 78 = .ok (.aload_n 0, 1) := by decide +kernel
theorem dX11_read_79 : decode cX11_read 79 = .ok (.getfield 24, 3) := by decide +kernel
theorem dX11_read_82 : decode cX11_read 82 = .ok (.invokevirtual 86, 3) := by decide +kernel
theorem dX11_read_85 : decode cX11_read 85 = .ok (.aload_n 0, 1) := by decide +kernel
theorem dX11_read_86 : decode cX11_read 86 = .ok (.getfield 24, 3) := by decide +kernel
theorem dX11_read_89 : decode cX11_read 89 = .ok (.getfield 89, 3) := by decide +kernel
theorem dX11_read_92 : decode cX11_read 92 = .ok (.ifCond .ne 14, 3) := by decide +kernel
theorem dX11_read_95 : decode cX11_read 95 = .ok (.aload_n 0, 1) := by decide +kernel
theorem dX11_read_96 : decode cX11_read 96 = .ok (.getfield 50, 3) := by decide +kernel
theorem dX11_read_99 : decode cX11_read 99 = .ok (.aload_n 0, 1) := by decide +kernel
theorem dX11_read_100 : decode cX11_read 100 = .ok (.getfield 24, 3) := by decide +kernel
theorem dX11_read_103 : decode cX11_read 103 = .ok (.invokevirtual 92, 3) := by decide +kernel
theorem dX11_read_106 : decode cX11_read 106 = .ok (.aload_n 0, 1) := by decide +kernel
theorem dX11_read_107 : decode cX11_read 107 = .ok (.getfield 24, 3) := by decide +kernel
theorem dX11_read_110 : decode cX11_read 110 = .ok (.getfield 95, 3) := by decide +kernel
theorem dX11_read_113 : decode cX11_read 113 = .ok (.invokevirtual 99, 3) := by decide +kernel
theorem dX11_read_116 : decode cX11_read 116 = .ok (.ireturn, 1) := by decide +kernel
abbrev cX7_readProgram : ByteArray := prog_9_method_2_code
def yX7_readProgram : MethodName := ⟨RX7, "readProgram", "(LPlainJava$Program;[BI)I"⟩
theorem dX7_readProgram_0 : decode cX7_readProgram 0 = .ok (.aload_n 0, 1) := by decide +kernel
theorem dX7_readProgram_1 : decode cX7_readProgram 1 = .ok (.aload_n 1, 1) := by decide +kernel
theorem dX7_readProgram_2 : decode cX7_readProgram 2 = .ok (.putfield 9, 3) := by decide +kernel
theorem dX7_readProgram_5 : decode cX7_readProgram 5 = .ok (.aload_n 0, 1) := by decide +kernel
theorem dX7_readProgram_6 : decode cX7_readProgram 6 = .ok (.aload_n 1, 1) := by decide +kernel
theorem dX7_readProgram_7 : decode cX7_readProgram 7 = .ok (.getfield 15, 3) := by decide +kernel
theorem dX7_readProgram_10 : decode cX7_readProgram 10 = .ok (.putfield 21, 3) := by decide +kernel
theorem dX7_readProgram_13 : decode cX7_readProgram 13 = .ok (.aload_n 0, 1) := by decide +kernel
theorem dX7_readProgram_14 : decode cX7_readProgram 14 = .ok (.getfield 9, 3) := by decide +kernel
theorem dX7_readProgram_17 : decode cX7_readProgram 17 = .ok (.invokevirtual 22, 3) := by decide +kernel
theorem dX7_readProgram_20 : decode cX7_readProgram 20 = .ok (.aload_n 0, 1) := by decide +kernel
theorem dX7_readProgram_21 : decode cX7_readProgram 21 = .ok (.getfield 21, 3) := by decide +kernel
theorem dX7_readProgram_24 : decode cX7_readProgram 24 = .ok (.aload_n 2, 1) := by decide +kernel
theorem dX7_readProgram_25 : decode cX7_readProgram 25 = .ok (.iload_n 3, 1) := by decide +kernel
theorem dX7_readProgram_26 : decode cX7_readProgram 26 = .ok (.invokevirtual 25, 3) := by decide +kernel
theorem dX7_readProgram_29 : decode cX7_readProgram 29 = .ok (.aload_n 0, 1) := by decide +kernel
theorem dX7_readProgram_30 : decode cX7_readProgram 30 = .ok (.iconst 0, 1) := by decide +kernel
theorem dX7_readProgram_31 : decode cX7_readProgram 31 = .ok (.putfield 31, 3) := by decide +kernel
theorem dX7_readProgram_34 : decode cX7_readProgram 34 = .ok (.aload_n 0, 1) := by decide +kernel
theorem dX7_readProgram_35 : decode cX7_readProgram 35 = .ok (.iconst 0, 1) := by decide +kernel
theorem dX7_readProgram_36 : decode cX7_readProgram 36 = .ok (.putfield 35, 3) := by decide +kernel
theorem dX7_readProgram_39 : decode cX7_readProgram 39 = .ok (.iconst 0, 1) := by decide +kernel
theorem dX7_readProgram_40 : decode cX7_readProgram 40 = .ok (.istore 4, 2) := by decide +kernel
theorem dX7_readProgram_42 : decode cX7_readProgram 42 = .ok (.iload 4, 2) := by decide +kernel
theorem dX7_readProgram_44 : decode cX7_readProgram 44 = .ok (.bipush 10, 2) := by decide +kernel
theorem dX7_readProgram_46 : decode cX7_readProgram 46 = .ok (.if_icmp .gt 29, 3) := by decide +kernel
theorem dX7_readProgram_49 : decode cX7_readProgram 49 = .ok (.aload_n 0, 1) := by decide +kernel
theorem dX7_readProgram_50 : decode cX7_readProgram 50 = .ok (.getfield 35, 3) := by decide +kernel
theorem dX7_readProgram_53 : decode cX7_readProgram 53 = .ok (.ifCond .ne 22, 3) := by decide +kernel
theorem dX7_readProgram_56 : decode cX7_readProgram 56 = .ok (.aload_n 0, 1) := by decide +kernel
theorem dX7_readProgram_57 : decode cX7_readProgram 57 = .ok (.invokevirtual 38, 3) := by decide +kernel
theorem dX7_readProgram_60 : decode cX7_readProgram 60 = .ok (.bipush 84, 2) := by decide +kernel
theorem dX7_readProgram_62 : decode cX7_readProgram 62 = .ok (.if_icmp .eq 13, 3) := by decide +kernel
theorem dX7_readProgram_65 : decode cX7_readProgram 65 = .ok (.aload_n 0, 1) := by decide +kernel
theorem dX7_readProgram_66 : decode cX7_readProgram 66 = .ok (.invokevirtual 42, 3) := by decide +kernel
theorem dX7_readProgram_69 : decode cX7_readProgram 69 = .ok (.iinc 4 1, 3) := by decide +kernel
theorem dX7_readProgram_72 : decode cX7_readProgram 72 = .ok (.goto (-30), 3) := by decide +kernel
theorem dX7_readProgram_75 : decode cX7_readProgram 75 = .ok (.aload_n 0, 1) := by decide +kernel
theorem dX7_readProgram_76 : decode cX7_readProgram 76 = .ok (.getfield 35, 3) := by decide +kernel
theorem dX7_readProgram_79 : decode cX7_readProgram 79 = .ok (.ireturn, 1) := by decide +kernel
abbrev cX7_code : ByteArray := prog_9_method_4_code
def yX7_code : MethodName := ⟨RX7, "code", "()I"⟩
theorem dX7_code_0 : decode cX7_code 0 = .ok (.aload_n 0, 1) := by decide +kernel
theorem dX7_code_1 : decode cX7_code 1 = .ok (.getfield 35, 3) := by decide +kernel
theorem dX7_code_4 : decode cX7_code 4 = .ok (.ifCond .ne 18, 3) := by decide +kernel
theorem dX7_code_7 : decode cX7_code 7 = .ok (.aload_n 0, 1) := by decide +kernel
theorem dX7_code_8 : decode cX7_code 8 = .ok (.getfield 21, 3) := by decide +kernel
theorem dX7_code_11 : decode cX7_code 11 = .ok (.getfield 48, 3) := by decide +kernel
theorem dX7_code_14 : decode cX7_code 14 = .ok (.aload_n 0, 1) := by decide +kernel
theorem dX7_code_15 : decode cX7_code 15 = .ok (.getfield 31, 3) := by decide +kernel
theorem dX7_code_18 : decode cX7_code 18 = .ok (.iaload, 1) := by decide +kernel
theorem dX7_code_19 : decode cX7_code 19 = .ok (.goto 4, 3) := by decide +kernel
theorem dX7_code_22 : decode cX7_code 22 = .ok (.iconst (-1), 1) := by decide +kernel
theorem dX7_code_23 : decode cX7_code 23 = .ok (.ireturn, 1) := by decide +kernel
abbrev cX6_clear : ByteArray := prog_8_method_2_code
def yX6_clear : MethodName := ⟨RX6, "clear", "()V"⟩
theorem dX6_clear_0 : decode cX6_clear 0 = .ok (.aload_n 0, 1) := by decide +kernel
theorem dX6_clear_1 : decode cX6_clear 1 = .ok (.getfield 21, 3) := by decide +kernel
theorem dX6_clear_4 : decode cX6_clear 4 = .ok (.invokevirtual 56, 3) := by decide +kernel
theorem dX6_clear_7 : decode cX6_clear 7 = .ok (.aload_n 0, 1) := by decide +kernel
theorem dX6_clear_8 : decode cX6_clear 8 = .ok (.getfield 25, 3) := by decide +kernel
theorem dX6_clear_11 : decode cX6_clear 11 = .ok (.invokevirtual 56, 3) := by decide +kernel
theorem dX6_clear_14 : decode cX6_clear 14 = .ok (.aload_n 0, 1) := by decide +kernel
theorem dX6_clear_15 : decode cX6_clear 15 = .ok (.getfield 28, 3) := by decide +kernel
theorem dX6_clear_18 : decode cX6_clear 18 = .ok (.invokevirtual 56, 3) := by decide +kernel
theorem dX6_clear_21 : decode cX6_clear 21 = .ok (.aload_n 0, 1) := by decide +kernel
theorem dX6_clear_22 : decode cX6_clear 22 = .ok (.getfield 31, 3) := by decide +kernel
theorem dX6_clear_25 : decode cX6_clear 25 = .ok (.invokevirtual 56, 3) := by decide +kernel
theorem dX6_clear_28 : decode cX6_clear 28 = .ok (.aload_n 0, 1) := by decide +kernel
theorem dX6_clear_29 : decode cX6_clear 29 = .ok (.iconst 0, 1) := by decide +kernel
theorem dX6_clear_30 : decode cX6_clear 30 = .ok (.putfield 59, 3) := by decide +kernel
theorem dX6_clear_33 : decode cX6_clear 33 = .ok (.aload_n 0, 1) := by decide +kernel
theorem dX6_clear_34 : decode cX6_clear 34 = .ok (.iconst 0, 1) := by decide +kernel
theorem dX6_clear_35 : decode cX6_clear 35 = .ok (.putfield 63, 3) := by decide +kernel
theorem dX6_clear_38 : decode cX6_clear 38 = .ok (.return_, 1) := by decide +kernel
abbrev cX9_cutText : ByteArray := prog_11_method_5_code
def yX9_cutText : MethodName := ⟨RX9, "cutText", "([BI)V"⟩
theorem dX9_cutText_0 : decode cX9_cutText 0 = .ok (.aload_n 0, 1) := by decide +kernel
theorem dX9_cutText_1 : decode cX9_cutText 1 = .ok (.aload_n 1, 1) := by decide +kernel
theorem dX9_cutText_2 : decode cX9_cutText 2 = .ok (.putfield 31, 3) := by decide +kernel
theorem dX9_cutText_5 : decode cX9_cutText 5 = .ok (.aload_n 0, 1) := by decide +kernel
theorem dX9_cutText_6 : decode cX9_cutText 6 = .ok (.iload_n 2, 1) := by decide +kernel
theorem dX9_cutText_7 : decode cX9_cutText 7 = .ok (.aload_n 1, 1) := by decide +kernel
theorem dX9_cutText_8 : decode cX9_cutText 8 = .ok (.arraylength, 1) := by decide +kernel
theorem dX9_cutText_9 : decode cX9_cutText 9 = .ok (.invokestatic 51, 3) := by decide +kernel
theorem dX9_cutText_12 : decode cX9_cutText 12 = .ok (.putfield 57, 3) := by decide +kernel
theorem dX9_cutText_15 : decode cX9_cutText 15 = .ok (.aload_n 0, 1) := by decide +kernel
theorem dX9_cutText_16 : decode cX9_cutText 16 = .ok (.iconst 0, 1) := by decide +kernel
theorem dX9_cutText_17 : decode cX9_cutText 17 = .ok (.putfield 60, 3) := by decide +kernel
theorem dX9_cutText_20 : decode cX9_cutText 20 = .ok (.iconst 1, 1) := by decide +kernel
theorem dX9_cutText_21 : decode cX9_cutText 21 = .ok (.istore_n 3, 1) := by decide +kernel
theorem dX9_cutText_22 : decode cX9_cutText 22 = .ok (.aload_n 0, 1) := by decide +kernel
theorem dX9_cutText_23 : decode cX9_cutText 23 = .ok (.iconst 0, 1) := by decide +kernel
theorem dX9_cutText_24 : decode cX9_cutText 24 = .ok (.invokevirtual 63, 3) := by decide +kernel
theorem dX9_cutText_27 : decode cX9_cutText 27 = .ok (.istore 4, 2) := by decide +kernel
theorem dX9_cutText_29 : decode cX9_cutText 29 = .ok (.iload_n 3, 1) := by decide +kernel
theorem dX9_cutText_30 : decode cX9_cutText 30 = .ok (.ifCond .eq 102, 3) := by decide +kernel
theorem dX9_cutText_33 : decode cX9_cutText 33 = .ok (.iload 4, 2) := by decide +kernel
theorem dX9_cutText_35 : decode cX9_cutText 35 = .ok (.aload_n 0, 1) := by decide +kernel
theorem dX9_cutText_36 : decode cX9_cutText 36 = .ok (.getfield 57, 3) := by decide +kernel
theorem dX9_cutText_39 : decode cX9_cutText 39 = .ok (.if_icmp .ge 93, 3) := by decide +kernel
theorem dX9_cutText_42 : decode cX9_cutText 42 = .ok (.aload_n 0, 1) := by decide +kernel
theorem dX9_cutText_43 : decode cX9_cutText 43 = .ok (.getfield 60, 3) := by decide +kernel
theorem dX9_cutText_46 : decode cX9_cutText 46 = .ok (.sipush 500, 3) := by decide +kernel
theorem dX9_cutText_49 : decode cX9_cutText 49 = .ok (.if_icmp .gt 83, 3) := by decide +kernel
theorem dX9_cutText_52 : decode cX9_cutText 52 = .ok (.aload_n 0, 1) := by decide +kernel
theorem dX9_cutText_53 : decode cX9_cutText 53 = .ok (.iload 4, 2) := by decide +kernel
theorem dX9_cutText_55 : decode cX9_cutText 55 = .ok (.invokevirtual 67, 3) := by decide +kernel
theorem dX9_cutText_58 : decode cX9_cutText 58 = .ok (.istore 5, 2) := by decide +kernel
theorem dX9_cutText_60 : decode cX9_cutText 60 = .ok (.iload 5, 2) := by decide +kernel
theorem dX9_cutText_62 : decode cX9_cutText 62 = .ok (.ifCond .le 7, 3) := by decide +kernel
theorem dX9_cutText_65 : decode cX9_cutText 65 = .ok (.iconst 1, 1) := by decide +kernel
theorem dX9_cutText_66 : decode cX9_cutText 66 = .ok (.goto 4, 3) := by decide +kernel
theorem dX9_cutText_69 : decode cX9_cutText 69 = .ok (.iconst 0, 1) := by decide +kernel
theorem dX9_cutText_70 : decode cX9_cutText 70 = .ok (.istore_n 3, 1) := by decide +kernel
theorem dX9_cutText_71 : decode cX9_cutText 71 = .ok (.iload_n 3, 1) := by decide +kernel
theorem dX9_cutText_72 : decode cX9_cutText 72 = .ok (.ifCond .eq 57, 3) := by decide +kernel
theorem dX9_cutText_75 : decode cX9_cutText 75 = .ok (.aload_n 0, 1) := by decide +kernel
theorem dX9_cutText_76 : decode cX9_cutText 76 = .ok (.getfield 11, 3) := by decide +kernel
theorem dX9_cutText_79 : decode cX9_cutText 79 = .ok (.aload_n 0, 1) := by decide +kernel
theorem dX9_cutText_80 : decode cX9_cutText 80 = .ok (.getfield 60, 3) := by decide +kernel
theorem dX9_cutText_83 : decode cX9_cutText 83 = .ok (.iload 4, 2) := by decide +kernel
theorem dX9_cutText_85 : decode cX9_cutText 85 = .ok (.iastore, 1) := by decide +kernel
theorem dX9_cutText_86 : decode cX9_cutText 86 = .ok (.aload_n 0, 1) := by decide +kernel
theorem dX9_cutText_87 : decode cX9_cutText 87 = .ok (.getfield 15, 3) := by decide +kernel
theorem dX9_cutText_90 : decode cX9_cutText 90 = .ok (.aload_n 0, 1) := by decide +kernel
theorem dX9_cutText_91 : decode cX9_cutText 91 = .ok (.getfield 60, 3) := by decide +kernel
theorem dX9_cutText_94 : decode cX9_cutText 94 = .ok (.iload 5, 2) := by decide +kernel
theorem dX9_cutText_96 : decode cX9_cutText 96 = .ok (.iastore, 1) := by decide +kernel
theorem dX9_cutText_97 : decode cX9_cutText 97 = .ok (.aload_n 0, 1) := by decide +kernel
theorem dX9_cutText_98 : decode cX9_cutText 98 = .ok (.getfield 21, 3) := by decide +kernel
theorem dX9_cutText_101 : decode cX9_cutText 101 = .ok (.aload_n 0, 1) := by decide +kernel
theorem dX9_cutText_102 : decode cX9_cutText 102 = .ok (.getfield 60, 3) := by decide +kernel
theorem dX9_cutText_105 : decode cX9_cutText 105 = .ok (.bipush (-2), 2) := by decide +kernel
theorem dX9_cutText_107 : decode cX9_cutText 107 = .ok (.iastore, 1) := by decide +kernel
theorem dX9_cutText_108 : decode cX9_cutText 108 = .ok (.aload_n 0, 1) := by decide +kernel
theorem dX9_cutText_109 : decode cX9_cutText 109 = .ok (.dup, 1) := by decide +kernel
theorem dX9_cutText_110 : decode cX9_cutText 110 = .ok (.getfield 60, 3) := by decide +kernel
theorem dX9_cutText_113 : decode cX9_cutText 113 = .ok (.iconst 1, 1) := by decide +kernel
theorem dX9_cutText_114 : decode cX9_cutText 114 = .ok (.iadd, 1) := by decide +kernel
theorem dX9_cutText_115 : decode cX9_cutText 115 = .ok (.putfield 60, 3) := by decide +kernel
theorem dX9_cutText_118 : decode cX9_cutText 118 = .ok (.aload_n 0, 1) := by decide +kernel
theorem dX9_cutText_119 : decode cX9_cutText 119 = .ok (.iload 4, 2) := by decide +kernel
theorem dX9_cutText_121 : decode cX9_cutText 121 = .ok (.iload 5, 2) := by decide +kernel
theorem dX9_cutText_123 : decode cX9_cutText 123 = .ok (.iadd, 1) := by decide +kernel
theorem dX9_cutText_124 : decode cX9_cutText 124 = .ok (.invokevirtual 63, 3) := by decide +kernel
theorem dX9_cutText_127 : decode cX9_cutText 127 = .ok (.istore 4, 2) := by decide +kernel
theorem dX9_cutText_129 : decode cX9_cutText 129 = .ok (.goto (-100), 3) := by decide +kernel
theorem dX9_cutText_132 : decode cX9_cutText 132 = .ok (.aload_n 0, 1) := by decide +kernel
theorem dX9_cutText_133 : decode cX9_cutText 133 = .ok (.getfield 11, 3) := by decide +kernel
theorem dX9_cutText_136 : decode cX9_cutText 136 = .ok (.aload_n 0, 1) := by decide +kernel
theorem dX9_cutText_137 : decode cX9_cutText 137 = .ok (.getfield 60, 3) := by decide +kernel
theorem dX9_cutText_140 : decode cX9_cutText 140 = .ok (.iload 4, 2) := by decide +kernel
theorem dX9_cutText_142 : decode cX9_cutText 142 = .ok (.iastore, 1) := by decide +kernel
theorem dX9_cutText_143 : decode cX9_cutText 143 = .ok (.aload_n 0, 1) := by decide +kernel
theorem dX9_cutText_144 : decode cX9_cutText 144 = .ok (.getfield 18, 3) := by decide +kernel
theorem dX9_cutText_147 : decode cX9_cutText 147 = .ok (.aload_n 0, 1) := by decide +kernel
theorem dX9_cutText_148 : decode cX9_cutText 148 = .ok (.getfield 60, 3) := by decide +kernel
theorem dX9_cutText_151 : decode cX9_cutText 151 = .ok (.iload_n 3, 1) := by decide +kernel
theorem dX9_cutText_152 : decode cX9_cutText 152 = .ok (.ifCond .eq 8, 3) := by decide +kernel
theorem dX9_cutText_155 : decode cX9_cutText 155 = .ok (.bipush 84, 2) := by decide +kernel
theorem dX9_cutText_157 : decode cX9_cutText 157 = .ok (.goto 5, 3) := by decide +kernel
theorem dX9_cutText_160 : decode cX9_cutText 160 = .ok (.bipush 85, 2) := by decide +kernel
theorem dX9_cutText_162 : decode cX9_cutText 162 = .ok (.iastore, 1) := by decide +kernel
theorem dX9_cutText_163 : decode cX9_cutText 163 = .ok (.return_, 1) := by decide +kernel
abbrev cX9_behindBlanks : ByteArray := prog_11_method_7_code
def yX9_behindBlanks : MethodName := ⟨RX9, "behindBlanks", "(I)I"⟩
theorem dX9_behindBlanks_0 : decode cX9_behindBlanks 0 = .ok (.iload_n 1, 1) := by decide +kernel
theorem dX9_behindBlanks_1 : decode cX9_behindBlanks 1 = .ok (.istore_n 2, 1) := by decide +kernel
theorem dX9_behindBlanks_2 : decode cX9_behindBlanks 2 = .ok (.iconst 0, 1) := by decide +kernel
theorem dX9_behindBlanks_3 : decode cX9_behindBlanks 3 = .ok (.istore_n 3, 1) := by decide +kernel
theorem dX9_behindBlanks_4 : decode cX9_behindBlanks 4 = .ok (.iload_n 2, 1) := by decide +kernel
theorem dX9_behindBlanks_5 : decode cX9_behindBlanks 5 = .ok (.aload_n 0, 1) := by decide +kernel
theorem dX9_behindBlanks_6 : decode cX9_behindBlanks 6 = .ok (.getfield 57, 3) := by decide +kernel
theorem dX9_behindBlanks_9 : decode cX9_behindBlanks 9 = .ok (.if_icmp .ge 83, 3) := by decide +kernel
theorem dX9_behindBlanks_12 : decode cX9_behindBlanks 12 = .ok (.aload_n 0, 1) := by decide +kernel
theorem dX9_behindBlanks_13 : decode cX9_behindBlanks 13 = .ok (.iload_n 2, 1) := by decide +kernel
theorem dX9_behindBlanks_14 : decode cX9_behindBlanks 14 = .ok (.invokevirtual 70, 3) := by decide +kernel
theorem dX9_behindBlanks_17 : decode cX9_behindBlanks 17 = .ok (.istore 4, 2) := by decide +kernel
theorem dX9_behindBlanks_19 : decode cX9_behindBlanks 19 = .ok (.iload 4, 2) := by decide +kernel
theorem dX9_behindBlanks_21 : decode cX9_behindBlanks 21 = .ok (.bipush 10, 2) := by decide +kernel
theorem dX9_behindBlanks_23 : decode cX9_behindBlanks 23 = .ok (.if_icmp .ne 8, 3) := by decide +kernel
theorem dX9_behindBlanks_26 : decode cX9_behindBlanks 26 = .ok (.iconst 0, 1) := by decide +kernel
theorem dX9_behindBlanks_27 : decode cX9_behindBlanks 27 = .ok (.istore_n 3, 1) := by decide +kernel
theorem dX9_behindBlanks_28 : decode cX9_behindBlanks 28 = .ok (.goto 58, 3) := by decide +kernel
theorem dX9_behindBlanks_31 : decode cX9_behindBlanks 31 = .ok (.iload_n 3, 1) := by decide +kernel
theorem dX9_behindBlanks_32 : decode cX9_behindBlanks 32 = .ok (.ifCond .ne 27, 3) := by decide +kernel
theorem dX9_behindBlanks_35 : decode cX9_behindBlanks 35 = .ok (.iload 4, 2) := by decide +kernel
theorem dX9_behindBlanks_37 : decode cX9_behindBlanks 37 = .ok (.bipush 47, 2) := by decide +kernel
theorem dX9_behindBlanks_39 : decode cX9_behindBlanks 39 = .ok (.if_icmp .ne 20, 3) := by decide +kernel
theorem dX9_behindBlanks_42 : decode cX9_behindBlanks 42 = .ok (.aload_n 0, 1) := by decide +kernel
theorem dX9_behindBlanks_43 : decode cX9_behindBlanks 43 = .ok (.iload_n 2, 1) := by decide +kernel
theorem dX9_behindBlanks_44 : decode cX9_behindBlanks 44 = .ok (.iconst 1, 1) := by decide +kernel
theorem dX9_behindBlanks_45 : decode cX9_behindBlanks 45 = .ok (.iadd, 1) := by decide +kernel
theorem dX9_behindBlanks_46 : decode cX9_behindBlanks 46 = .ok (.invokevirtual 70, 3) := by decide +kernel
theorem dX9_behindBlanks_49 : decode cX9_behindBlanks 49 = .ok (.bipush 47, 2) := by decide +kernel
theorem dX9_behindBlanks_51 : decode cX9_behindBlanks 51 = .ok (.if_icmp .ne 8, 3) := by decide +kernel
theorem dX9_behindBlanks_54 : decode cX9_behindBlanks 54 = .ok (.iconst 1, 1) := by decide +kernel
theorem dX9_behindBlanks_55 : decode cX9_behindBlanks 55 = .ok (.istore_n 3, 1) := by decide +kernel
theorem dX9_behindBlanks_56 : decode cX9_behindBlanks 56 = .ok (.goto 30, 3) := by decide +kernel
theorem dX9_behindBlanks_59 : decode cX9_behindBlanks 59 = .ok (.iload_n 3, 1) := by decide +kernel
theorem dX9_behindBlanks_60 : decode cX9_behindBlanks 60 = .ok (.ifCond .ne 26, 3) := by decide +kernel
theorem dX9_behindBlanks_63 : decode cX9_behindBlanks 63 = .ok (.iload 4, 2) := by decide +kernel
theorem dX9_behindBlanks_65 : decode cX9_behindBlanks 65 = .ok (.bipush 32, 2) := by decide +kernel
theorem dX9_behindBlanks_67 : decode cX9_behindBlanks 67 = .ok (.if_icmp .eq 19, 3) := by decide +kernel
theorem dX9_behindBlanks_70 : decode cX9_behindBlanks 70 = .ok (.iload 4, 2) := by decide +kernel
theorem dX9_behindBlanks_72 : decode cX9_behindBlanks 72 = .ok (.bipush 9, 2) := by decide +kernel
theorem dX9_behindBlanks_74 : decode cX9_behindBlanks 74 = .ok (.if_icmp .eq 12, 3) := by decide +kernel
theorem dX9_behindBlanks_77 : decode cX9_behindBlanks 77 = .ok (.iload 4, 2) := by decide +kernel
theorem dX9_behindBlanks_79 : decode cX9_behindBlanks 79 = .ok (.bipush 13, 2) := by decide +kernel
theorem dX9_behindBlanks_81 : decode cX9_behindBlanks 81 = .ok (.if_icmp .eq 5, 3) := by decide +kernel
theorem dX9_behindBlanks_84 : decode cX9_behindBlanks 84 = .ok (.iload_n 2, 1) := by decide +kernel
theorem dX9_behindBlanks_85 : decode cX9_behindBlanks 85 = .ok (.ireturn, 1) := by decide +kernel
theorem dX9_behindBlanks_86 : decode cX9_behindBlanks 86 = .ok (.iinc 2 1, 3) := by decide +kernel
theorem dX9_behindBlanks_89 : decode cX9_behindBlanks 89 = .ok (.goto (-85), 3) := by decide +kernel
theorem dX9_behindBlanks_92 : decode cX9_behindBlanks 92 = .ok (.aload_n 0, 1) := by decide +kernel
theorem dX9_behindBlanks_93 : decode cX9_behindBlanks 93 = .ok (.getfield 57, 3) := by decide +kernel
theorem dX9_behindBlanks_96 : decode cX9_behindBlanks 96 = .ok (.ireturn, 1) := by decide +kernel
abbrev cX3_judgeProgram : ByteArray := prog_5_method_2_code
def yX3_judgeProgram : MethodName := ⟨RX3, "judgeProgram", "(LPlainJava$Program;)V"⟩
theorem dX3_judgeProgram_0 : decode cX3_judgeProgram 0 = .ok (.aload_n 0, 1) := by decide +kernel
theorem dX3_judgeProgram_1 : decode cX3_judgeProgram 1 = .ok (.aload_n 1, 1) := by decide +kernel
theorem dX3_judgeProgram_2 : decode cX3_judgeProgram 2 = .ok (.putfield 9, 3) := by decide +kernel
theorem dX3_judgeProgram_5 : decode cX3_judgeProgram 5 = .ok (.iconst 0, 1) := by decide +kernel
theorem dX3_judgeProgram_6 : decode cX3_judgeProgram 6 = .ok (.istore_n 2, 1) := by decide +kernel
theorem dX3_judgeProgram_7 : decode cX3_judgeProgram 7 = .ok (.iload_n 2, 1) := by decide +kernel
theorem dX3_judgeProgram_8 : decode cX3_judgeProgram 8 = .ok (.aload_n 0, 1) := by decide +kernel
theorem dX3_judgeProgram_9 : decode cX3_judgeProgram 9 = .ok (.getfield 9, 3) := by decide +kernel
theorem dX3_judgeProgram_12 : decode cX3_judgeProgram 12 = .ok (.getfield 24, 3) := by decide +kernel
theorem dX3_judgeProgram_15 : decode cX3_judgeProgram 15 = .ok (.invokevirtual 30, 3) := by decide +kernel
theorem dX3_judgeProgram_18 : decode cX3_judgeProgram 18 = .ok (.if_icmp .ge 14, 3) := by decide +kernel
theorem dX3_judgeProgram_21 : decode cX3_judgeProgram 21 = .ok (.aload_n 0, 1) := by decide +kernel
theorem dX3_judgeProgram_22 : decode cX3_judgeProgram 22 = .ok (.iload_n 2, 1) := by decide +kernel
theorem dX3_judgeProgram_23 : decode cX3_judgeProgram 23 = .ok (.invokevirtual 36, 3) := by decide +kernel
theorem dX3_judgeProgram_26 : decode cX3_judgeProgram 26 = .ok (.iinc 2 1, 3) := by decide +kernel
theorem dX3_judgeProgram_29 : decode cX3_judgeProgram 29 = .ok (.goto (-22), 3) := by decide +kernel
theorem dX3_judgeProgram_32 : decode cX3_judgeProgram 32 = .ok (.iconst 0, 1) := by decide +kernel
theorem dX3_judgeProgram_33 : decode cX3_judgeProgram 33 = .ok (.istore_n 2, 1) := by decide +kernel
theorem dX3_judgeProgram_34 : decode cX3_judgeProgram 34 = .ok (.iload_n 2, 1) := by decide +kernel
theorem dX3_judgeProgram_35 : decode cX3_judgeProgram 35 = .ok (.aload_n 0, 1) := by decide +kernel
theorem dX3_judgeProgram_36 : decode cX3_judgeProgram 36 = .ok (.getfield 9, 3) := by decide +kernel
theorem dX3_judgeProgram_39 : decode cX3_judgeProgram 39 = .ok (.getfield 40, 3) := by decide +kernel
theorem dX3_judgeProgram_42 : decode cX3_judgeProgram 42 = .ok (.invokevirtual 30, 3) := by decide +kernel
theorem dX3_judgeProgram_45 : decode cX3_judgeProgram 45 = .ok (.if_icmp .ge 54, 3) := by decide +kernel
theorem dX3_judgeProgram_48 : decode cX3_judgeProgram 48 = .ok (.aload_n 0, 1) := by decide +kernel
theorem dX3_judgeProgram_49 : decode cX3_judgeProgram 49 = .ok (.getfield 9, 3) := by decide +kernel
theorem dX3_judgeProgram_52 : decode cX3_judgeProgram 52 = .ok (.getfield 40, 3) := by decide +kernel
theorem dX3_judgeProgram_55 : decode cX3_judgeProgram 55 = .ok (.iload_n 2, 1) := by decide +kernel
theorem dX3_judgeProgram_56 : decode cX3_judgeProgram 56 = .ok (.invokevirtual 43, 3) := by decide +kernel
theorem dX3_judgeProgram_59 : decode cX3_judgeProgram 59 = .ok (.checkcast 47, 3) := by decide +kernel
theorem dX3_judgeProgram_62 : decode cX3_judgeProgram 62 = .ok (.getfield 49, 3) := by decide +kernel
theorem dX3_judgeProgram_65 : decode cX3_judgeProgram 65 = .ok (.ifCond .eq 28, 3) := by decide +kernel
theorem dX3_judgeProgram_68 : decode cX3_judgeProgram 68 = .ok (.aload_n 0, 1) := by decide +kernel
theorem dX3_judgeProgram_69 : decode cX3_judgeProgram 69 = .ok (.getfield 9, 3) := by decide +kernel
theorem dX3_judgeProgram_72 : decode cX3_judgeProgram 72 = .ok (.iconst 2, 1) := by decide +kernel
theorem dX3_judgeProgram_73 : decode cX3_judgeProgram 73 = .ok (.aload_n 0, 1) := by decide +kernel
theorem dX3_judgeProgram_74 : decode cX3_judgeProgram 74 = .ok (.getfield 9, 3) := by decide +kernel
theorem dX3_judgeProgram_77 : decode cX3_judgeProgram 77 = .ok (.getfield 40, 3) := by decide +kernel
theorem dX3_judgeProgram_80 : decode cX3_judgeProgram 80 = .ok (.iload_n 2, 1) := by decide +kernel
theorem dX3_judgeProgram_81 : decode cX3_judgeProgram 81 = .ok (.invokevirtual 43, 3) := by decide +kernel
theorem dX3_judgeProgram_84 : decode cX3_judgeProgram 84 = .ok (.checkcast 47, 3) := by decide +kernel
theorem dX3_judgeProgram_87 : decode cX3_judgeProgram 87 = .ok (.getfield 53, 3) := by decide +kernel
theorem dX3_judgeProgram_90 : decode cX3_judgeProgram 90 = .ok (.invokevirtual 57, 3) := by decide +kernel
theorem dX3_judgeProgram_93 : decode cX3_judgeProgram 93 = .ok (.iinc 2 1, 3) := by decide +kernel
theorem dX3_judgeProgram_96 : decode cX3_judgeProgram 96 = .ok (.goto (-62), 3) := by decide +kernel
theorem dX3_judgeProgram_99 : decode cX3_judgeProgram 99 = .ok (.iconst 0, 1) := by decide +kernel
theorem dX3_judgeProgram_100 : decode cX3_judgeProgram 100 = .ok (.istore_n 2, 1) := by decide +kernel
theorem dX3_judgeProgram_101 : decode cX3_judgeProgram 101 = .ok (.iload_n 2, 1) := by decide +kernel
theorem dX3_judgeProgram_102 : decode cX3_judgeProgram 102 = .ok (.aload_n 0, 1) := by decide +kernel
theorem dX3_judgeProgram_103 : decode cX3_judgeProgram 103 = .ok (.getfield 9, 3) := by decide +kernel
theorem dX3_judgeProgram_106 : decode cX3_judgeProgram 106 = .ok (.getfield 61, 3) := by decide +kernel
theorem dX3_judgeProgram_109 : decode cX3_judgeProgram 109 = .ok (.invokevirtual 30, 3) := by decide +kernel
theorem dX3_judgeProgram_112 : decode cX3_judgeProgram 112 = .ok (.if_icmp .ge 27, 3) := by decide +kernel
theorem dX3_judgeProgram_115 : decode cX3_judgeProgram 115 = .ok (.aload_n 0, 1) := by decide +kernel
theorem dX3_judgeProgram_116 : decode cX3_judgeProgram 116 = .ok (.aload_n 0, 1) := by decide +kernel
theorem dX3_judgeProgram_117 : decode cX3_judgeProgram 117 = .ok (.getfield 9, 3) := by decide +kernel
theorem dX3_judgeProgram_120 : decode cX3_judgeProgram 120 = .ok (.getfield 61, 3) := by decide +kernel
theorem dX3_judgeProgram_123 : decode cX3_judgeProgram 123 = .ok (.iload_n 2, 1) := by decide +kernel
theorem dX3_judgeProgram_124 : decode cX3_judgeProgram 124 = .ok (.invokevirtual 43, 3) := by decide +kernel
theorem dX3_judgeProgram_127 : decode cX3_judgeProgram 127 = .ok (.checkcast 64, 3) := by decide +kernel
theorem dX3_judgeProgram_130 : decode cX3_judgeProgram 130 = .ok (.invokevirtual 66, 3) := by decide +kernel
theorem dX3_judgeProgram_133 : decode cX3_judgeProgram 133 = .ok (.iinc 2 1, 3) := by decide +kernel
theorem dX3_judgeProgram_136 : decode cX3_judgeProgram 136 = .ok (.goto (-35), 3) := by decide +kernel
theorem dX3_judgeProgram_139 : decode cX3_judgeProgram 139 = .ok (.iconst 0, 1) := by decide +kernel
theorem dX3_judgeProgram_140 : decode cX3_judgeProgram 140 = .ok (.istore_n 2, 1) := by decide +kernel
theorem dX3_judgeProgram_141 : decode cX3_judgeProgram 141 = .ok (.iload_n 2, 1) := by decide +kernel
theorem dX3_judgeProgram_142 : decode cX3_judgeProgram 142 = .ok (.aload_n 0, 1) := by decide +kernel
theorem dX3_judgeProgram_143 : decode cX3_judgeProgram 143 = .ok (.getfield 9, 3) := by decide +kernel
theorem dX3_judgeProgram_146 : decode cX3_judgeProgram 146 = .ok (.getfield 70, 3) := by decide +kernel
theorem dX3_judgeProgram_149 : decode cX3_judgeProgram 149 = .ok (.invokevirtual 30, 3) := by decide +kernel
theorem dX3_judgeProgram_152 : decode cX3_judgeProgram 152 = .ok (.if_icmp .ge 27, 3) := by decide +kernel
theorem dX3_judgeProgram_155 : decode cX3_judgeProgram 155 = .ok (.aload_n 0, 1) := by decide +kernel
theorem dX3_judgeProgram_156 : decode cX3_judgeProgram 156 = .ok (.aload_n 0, 1) := by decide +kernel
theorem dX3_judgeProgram_157 : decode cX3_judgeProgram 157 = .ok (.getfield 9, 3) := by decide +kernel
theorem dX3_judgeProgram_160 : decode cX3_judgeProgram 160 = .ok (.getfield 70, 3) := by decide +kernel
theorem dX3_judgeProgram_163 : decode cX3_judgeProgram 163 = .ok (.iload_n 2, 1) := by decide +kernel
theorem dX3_judgeProgram_164 : decode cX3_judgeProgram 164 = .ok (.invokevirtual 43, 3) := by decide +kernel
theorem dX3_judgeProgram_167 : decode cX3_judgeProgram 167 = .ok (.checkcast 73, 3) := by decide +kernel
theorem dX3_judgeProgram_170 : decode cX3_judgeProgram 170 = .ok (.invokevirtual 75, 3) := by decide +kernel
theorem dX3_judgeProgram_173 : decode cX3_judgeProgram 173 = .ok (.iinc 2 1, 3) := by decide +kernel
theorem dX3_judgeProgram_176 : decode cX3_judgeProgram 176 = .ok (.goto (-35), 3) := by decide +kernel
theorem dX3_judgeProgram_179 : decode cX3_judgeProgram 179 = .ok (.aload_n 0, 1) := by decide +kernel
theorem dX3_judgeProgram_180 : decode cX3_judgeProgram 180 = .ok (.getfield 9, 3) := by decide +kernel
theorem dX3_judgeProgram_183 : decode cX3_judgeProgram 183 = .ok (.getfield 79, 3) := by decide +kernel
theorem dX3_judgeProgram_186 : decode cX3_judgeProgram 186 = .ok (.ifCond .ne 14, 3) := by decide +kernel
theorem dX3_judgeProgram_189 : decode cX3_judgeProgram 189 = .ok (.aload_n 0, 1) := by decide +kernel
theorem dX3_judgeProgram_190 : decode cX3_judgeProgram 190 = .ok (.getfield 20, 3) := by decide +kernel
theorem dX3_judgeProgram_193 : decode cX3_judgeProgram 193 = .ok (.aload_n 0, 1) := by decide +kernel
theorem dX3_judgeProgram_194 : decode cX3_judgeProgram 194 = .ok (.getfield 9, 3) := by decide +kernel
theorem dX3_judgeProgram_197 : decode cX3_judgeProgram 197 = .ok (.invokevirtual 82, 3) := by decide +kernel
theorem dX3_judgeProgram_200 : decode cX3_judgeProgram 200 = .ok (.aload_n 0, 1) := by decide +kernel
theorem dX3_judgeProgram_201 : decode cX3_judgeProgram 201 = .ok (.getfield 9, 3) := by decide +kernel
theorem dX3_judgeProgram_204 : decode cX3_judgeProgram 204 = .ok (.getfield 79, 3) := by decide +kernel
theorem dX3_judgeProgram_207 : decode cX3_judgeProgram 207 = .ok (.ifCond .ne 14, 3) := by decide +kernel
theorem dX3_judgeProgram_210 : decode cX3_judgeProgram 210 = .ok (.aload_n 0, 1) := by decide +kernel
theorem dX3_judgeProgram_211 : decode cX3_judgeProgram 211 = .ok (.getfield 20, 3) := by decide +kernel
theorem dX3_judgeProgram_214 : decode cX3_judgeProgram 214 = .ok (.aload_n 0, 1) := by decide +kernel
theorem dX3_judgeProgram_215 : decode cX3_judgeProgram 215 = .ok (.getfield 9, 3) := by decide +kernel
theorem dX3_judgeProgram_218 : decode cX3_judgeProgram 218 = .ok (.invokevirtual 85, 3) := by decide +kernel
theorem dX3_judgeProgram_221 : decode cX3_judgeProgram 221 = .ok (.return_, 1) := by decide +kernel
abbrev cX2_reachAll : ByteArray := prog_4_method_2_code
def yX2_reachAll : MethodName := ⟨RX2, "reachAll", "(LPlainJava$Program;)V"⟩
theorem dX2_reachAll_0 : decode cX2_reachAll 0 = .ok (.aload_n 0, 1) := by decide +kernel
theorem dX2_reachAll_1 : decode cX2_reachAll 1 = .ok (.aload_n 1, 1) := by decide +kernel
theorem dX2_reachAll_2 : decode cX2_reachAll 2 = .ok (.putfield 15, 3) := by decide +kernel
theorem dX2_reachAll_5 : decode cX2_reachAll 5 = .ok (.iconst 0, 1) := by decide +kernel
theorem dX2_reachAll_6 : decode cX2_reachAll 6 = .ok (.istore_n 2, 1) := by decide +kernel
theorem dX2_reachAll_7 : decode cX2_reachAll 7 = .ok (.iload_n 2, 1) := by decide +kernel
theorem dX2_reachAll_8 : decode cX2_reachAll 8 = .ok (.aload_n 0, 1) := by decide +kernel
theorem dX2_reachAll_9 : decode cX2_reachAll 9 = .ok (.getfield 15, 3) := by decide +kernel
theorem dX2_reachAll_12 : decode cX2_reachAll 12 = .ok (.getfield 19, 3) := by decide +kernel
theorem dX2_reachAll_15 : decode cX2_reachAll 15 = .ok (.invokevirtual 25, 3) := by decide +kernel
theorem dX2_reachAll_18 : decode cX2_reachAll 18 = .ok (.if_icmp .ge 56, 3) := by decide +kernel
theorem dX2_reachAll_21 : decode cX2_reachAll 21 = .ok (.aload_n 0, 1) := by decide +kernel
theorem dX2_reachAll_22 : decode cX2_reachAll 22 = .ok (.getfield 15, 3) := by decide +kernel
theorem dX2_reachAll_25 : decode cX2_reachAll 25 = .ok (.getfield 19, 3) := by decide +kernel
theorem dX2_reachAll_28 : decode cX2_reachAll 28 = .ok (.iload_n 2, 1) := by decide +kernel
theorem dX2_reachAll_29 : decode cX2_reachAll 29 = .ok (.invokevirtual 31, 3) := by decide +kernel
theorem dX2_reachAll_32 : decode cX2_reachAll 32 = .ok (.checkcast 35, 3) := by decide +kernel
theorem dX2_reachAll_35 : decode cX2_reachAll 35 = .ok (.astore_n 3, 1) := by decide +kernel
theorem dX2_reachAll_36 : decode cX2_reachAll 36 = .ok (.aload_n 0, 1) := by decide +kernel
theorem dX2_reachAll_37 : decode cX2_reachAll 37 = .ok (.aload_n 3, 1) := by decide +kernel
theorem dX2_reachAll_38 : decode cX2_reachAll 38 = .ok (.getfield 37, 3) := by decide +kernel
theorem dX2_reachAll_41 : decode cX2_reachAll 41 = .ok (.invokevirtual 41, 3) := by decide +kernel
theorem dX2_reachAll_44 : decode cX2_reachAll 44 = .ok (.ifCond .eq 24, 3) := by decide +kernel
theorem dX2_reachAll_47 : decode cX2_reachAll 47 = .ok (.aload_n 3, 1) := by decide +kernel
theorem dX2_reachAll_48 : decode cX2_reachAll 48 = .ok (.getfield 45, 3) := by decide +kernel
theorem dX2_reachAll_51 : decode cX2_reachAll 51 = .ok (.iconst 5, 1) := by decide +kernel
theorem dX2_reachAll_52 : decode cX2_reachAll 52 = .ok (.if_icmp .eq 16, 3) := by decide +kernel
theorem dX2_reachAll_55 : decode cX2_reachAll 55 = .ok (.aload_n 0, 1) := by decide +kernel
theorem dX2_reachAll_56 : decode cX2_reachAll 56 = .ok (.getfield 15, 3) := by decide +kernel
theorem dX2_reachAll_59 : decode cX2_reachAll 59 = .ok (.bipush 14, 2) := by decide +kernel
theorem dX2_reachAll_61 : decode cX2_reachAll 61 = .ok (.aload_n 3, 1) := by decide +kernel
theorem dX2_reachAll_62 : decode cX2_reachAll 62 = .ok (.getfield 49, 3) := by decide +kernel
theorem dX2_reachAll_65 : decode cX2_reachAll 65 = .ok (.invokevirtual 52, 3) := by decide +kernel
theorem dX2_reachAll_68 : decode cX2_reachAll 68 = .ok (.iinc 2 1, 3) := by decide +kernel
theorem dX2_reachAll_71 : decode cX2_reachAll 71 = .ok (.goto (-64), 3) := by decide +kernel
theorem dX2_reachAll_74 : decode cX2_reachAll 74 = .ok (.return_, 1) := by decide +kernel
abbrev cX2_assignAll : ByteArray := prog_4_method_10_code
def yX2_assignAll : MethodName := ⟨RX2, "assignAll", "(LPlainJava$Program;)V"⟩
theorem dX2_assignAll_0 : decode cX2_assignAll 0 = .ok (.aload_n 0, 1) := by decide +kernel
theorem dX2_assignAll_1 : decode cX2_assignAll 1 = .ok (.aload_n 1, 1) := by decide +kernel
theorem dX2_assignAll_2 : decode cX2_assignAll 2 = .ok (.putfield 15, 3) := by decide +kernel
theorem dX2_assignAll_5 : decode cX2_assignAll 5 = .ok (.iconst 0, 1) := by decide +kernel
theorem dX2_assignAll_6 : decode cX2_assignAll 6 = .ok (.istore_n 2, 1) := by decide +kernel
theorem dX2_assignAll_7 : decode cX2_assignAll 7 = .ok (.iload_n 2, 1) := by decide +kernel
theorem dX2_assignAll_8 : decode cX2_assignAll 8 = .ok (.aload_n 0, 1) := by decide +kernel
theorem dX2_assignAll_9 : decode cX2_assignAll 9 = .ok (.getfield 15, 3) := by decide +kernel
theorem dX2_assignAll_12 : decode cX2_assignAll 12 = .ok (.getfield 19, 3) := by decide +kernel
theorem dX2_assignAll_15 : decode cX2_assignAll 15 = .ok (.invokevirtual 25, 3) := by decide +kernel
theorem dX2_assignAll_18 : decode cX2_assignAll 18 = .ok (.if_icmp .ge 71, 3) := by decide +kernel
theorem dX2_assignAll_21 : decode cX2_assignAll 21 = .ok (.aload_n 0, 1) := by decide +kernel
theorem dX2_assignAll_22 : decode cX2_assignAll 22 = .ok (.getfield 15, 3) := by decide +kernel
theorem dX2_assignAll_25 : decode cX2_assignAll 25 = .ok (.getfield 19, 3) := by decide +kernel
theorem dX2_assignAll_28 : decode cX2_assignAll 28 = .ok (.iload_n 2, 1) := by decide +kernel
theorem dX2_assignAll_29 : decode cX2_assignAll 29 = .ok (.invokevirtual 31, 3) := by decide +kernel
theorem dX2_assignAll_32 : decode cX2_assignAll 32 = .ok (.checkcast 35, 3) := by decide +kernel
theorem dX2_assignAll_35 : decode cX2_assignAll 35 = .ok (.astore_n 3, 1) := by decide +kernel
theorem dX2_assignAll_36 : decode cX2_assignAll 36 = .ok (.lconst 0, 1) := by decide +kernel
theorem dX2_assignAll_37 : decode cX2_assignAll 37 = .ok (.lstore 4, 2) := by decide +kernel
theorem dX2_assignAll_39 : decode cX2_assignAll 39 = .ok (.iconst 0, 1) := by decide +kernel
theorem dX2_assignAll_40 : decode cX2_assignAll 40 = .ok (.istore 6, 2) := by decide +kernel
theorem dX2_assignAll_42 : decode cX2_assignAll 42 = .ok (.iload 6, 2) := by decide +kernel
theorem dX2_assignAll_44 : decode cX2_assignAll 44 = .ok (.aload_n 3, 1) := by decide +kernel
theorem dX2_assignAll_45 : decode cX2_assignAll 45 = .ok (.getfield 121, 3) := by decide +kernel
theorem dX2_assignAll_48 : decode cX2_assignAll 48 = .ok (.if_icmp .ge 24, 3) := by decide +kernel
theorem dX2_assignAll_51 : decode cX2_assignAll 51 = .ok (.lload 4, 2) := by decide +kernel
theorem dX2_assignAll_53 : decode cX2_assignAll 53 = .ok (.aload_n 3, 1) := by decide +kernel
theorem dX2_assignAll_54 : decode cX2_assignAll 54 = .ok (.getfield 124, 3) := by decide +kernel
theorem dX2_assignAll_57 : decode cX2_assignAll 57 = .ok (.iload 6, 2) := by decide +kernel
theorem dX2_assignAll_59 : decode cX2_assignAll 59 = .ok (.iadd, 1) := by decide +kernel
theorem dX2_assignAll_60 : decode cX2_assignAll 60 = .ok (.invokestatic 127, 3) := by decide +kernel
theorem dX2_assignAll_63 : decode cX2_assignAll 63 = .ok (.lor, 1) := by decide +kernel
theorem dX2_assignAll_64 : decode cX2_assignAll 64 = .ok (.lstore 4, 2) := by decide +kernel
theorem dX2_assignAll_66 : decode cX2_assignAll 66 = .ok (.iinc 6 1, 3) := by decide +kernel
theorem dX2_assignAll_69 : decode cX2_assignAll 69 = .ok (.goto (-27), 3) := by decide +kernel
theorem dX2_assignAll_72 : decode cX2_assignAll 72 = .ok (.aload_n 0, 1) := by decide +kernel
theorem dX2_assignAll_73 : decode cX2_assignAll 73 = .ok (.aload_n 3, 1) := by decide +kernel
theorem dX2_assignAll_74 : decode cX2_assignAll 74 = .ok (.getfield 37, 3) := by decide +kernel
theorem dX2_assignAll_77 : decode cX2_assignAll 77 = .ok (.lload 4, 2) := by decide +kernel
theorem dX2_assignAll_79 : decode cX2_assignAll 79 = .ok (.invokevirtual 131, 3) := by decide +kernel
theorem dX2_assignAll_82 : decode cX2_assignAll 82 = .ok (.pop2, 1) := by decide +kernel
theorem dX2_assignAll_83 : decode cX2_assignAll 83 = .ok (.iinc 2 1, 3) := by decide +kernel
theorem dX2_assignAll_86 : decode cX2_assignAll 86 = .ok (.goto (-79), 3) := by decide +kernel
theorem dX2_assignAll_89 : decode cX2_assignAll 89 = .ok (.return_, 1) := by decide +kernel
abbrev cX0_lay : ByteArray := prog_2_method_2_code
def yX0_lay : MethodName := ⟨RX0, "lay", "(LPlainJava$Program;)V"⟩
theorem dX0_lay_0 : decode cX0_lay 0 = .ok (.aload_n 0, 1) := by decide +kernel
theorem dX0_lay_1 : decode cX0_lay 1 = .ok (.aload_n 1, 1) := by decide +kernel
theorem dX0_lay_2 : decode cX0_lay 2 = .ok (.putfield 37, 3) := by decide +kernel
theorem dX0_lay_5 : decode cX0_lay 5 = .ok (.aload_n 0, 1) := by decide +kernel
theorem dX0_lay_6 : decode cX0_lay 6 = .ok (.iconst 0, 1) := by decide +kernel
theorem dX0_lay_7 : decode cX0_lay 7 = .ok (.putfield 41, 3) := by decide +kernel
theorem dX0_lay_10 : decode cX0_lay 10 = .ok (.iconst 0, 1) := by decide +kernel
theorem dX0_lay_11 : decode cX0_lay 11 = .ok (.istore_n 2, 1) := by decide +kernel
theorem dX0_lay_12 : decode cX0_lay 12 = .ok (.iload_n 2, 1) := by decide +kernel
theorem dX0_lay_13 : decode cX0_lay 13 = .ok (.aload_n 0, 1) := by decide +kernel
theorem dX0_lay_14 : decode cX0_lay 14 = .ok (.getfield 37, 3) := by decide +kernel
theorem dX0_lay_17 : decode cX0_lay 17 = .ok (.getfield 45, 3) := by decide +kernel
theorem dX0_lay_20 : decode cX0_lay 20 = .ok (.invokevirtual 51, 3) := by decide +kernel
theorem dX0_lay_23 : decode cX0_lay 23 = .ok (.if_icmp .ge 48, 3) := by decide +kernel
theorem dX0_lay_26 : decode cX0_lay 26 = .ok (.aload_n 0, 1) := by decide +kernel
theorem dX0_lay_27 : decode cX0_lay 27 = .ok (.getfield 37, 3) := by decide +kernel
theorem dX0_lay_30 : decode cX0_lay 30 = .ok (.getfield 45, 3) := by decide +kernel
theorem dX0_lay_33 : decode cX0_lay 33 = .ok (.iload_n 2, 1) := by decide +kernel
theorem dX0_lay_34 : decode cX0_lay 34 = .ok (.invokevirtual 56, 3) := by decide +kernel
theorem dX0_lay_37 : decode cX0_lay 37 = .ok (.checkcast 60, 3) := by decide +kernel
theorem dX0_lay_40 : decode cX0_lay 40 = .ok (.astore_n 3, 1) := by decide +kernel
theorem dX0_lay_41 : decode cX0_lay 41 = .ok (.aload_n 0, 1) := by decide +kernel
theorem dX0_lay_42 : decode cX0_lay 42 = .ok (.aload_n 3, 1) := by decide +kernel
theorem dX0_lay_43 : decode cX0_lay 43 = .ok (.getfield 62, 3) := by decide +kernel
theorem dX0_lay_46 : decode cX0_lay 46 = .ok (.invokevirtual 65, 3) := by decide +kernel
theorem dX0_lay_49 : decode cX0_lay 49 = .ok (.aload_n 0, 1) := by decide +kernel
theorem dX0_lay_50 : decode cX0_lay 50 = .ok (.aload_n 3, 1) := by decide +kernel
theorem dX0_lay_51 : decode cX0_lay 51 = .ok (.getfield 62, 3) := by decide +kernel
theorem dX0_lay_54 : decode cX0_lay 54 = .ok (.putfield 33, 3) := by decide +kernel
theorem dX0_lay_57 : decode cX0_lay 57 = .ok (.aload_n 0, 1) := by decide +kernel
theorem dX0_lay_58 : decode cX0_lay 58 = .ok (.bipush 23, 2) := by decide +kernel
theorem dX0_lay_60 : decode cX0_lay 60 = .ok (.aconst_null, 1) := by decide +kernel
theorem dX0_lay_61 : decode cX0_lay 61 = .ok (.invokevirtual 69, 3) := by decide +kernel
theorem dX0_lay_64 : decode cX0_lay 64 = .ok (.pop, 1) := by decide +kernel
theorem dX0_lay_65 : decode cX0_lay 65 = .ok (.iinc 2 1, 3) := by decide +kernel
theorem dX0_lay_68 : decode cX0_lay 68 = .ok (.goto (-56), 3) := by decide +kernel
theorem dX0_lay_71 : decode cX0_lay 71 = .ok (.return_, 1) := by decide +kernel
abbrev cX11_place : ByteArray := prog_1_method_6_code
def yX11_place : MethodName := ⟨RX11, "place", "()I"⟩
theorem dX11_place_0 : decode cX11_place 0 = .ok (.aload_n 0, 1) := by decide +kernel
theorem dX11_place_1 : decode cX11_place 1 = .ok (.getfield 63, 3) := by decide +kernel
theorem dX11_place_4 : decode cX11_place 4 = .ok (.ireturn, 1) := by decide +kernel
abbrev cX11_judge : ByteArray := prog_1_method_7_code
def yX11_judge : MethodName := ⟨RX11, "judge", "()I"⟩
theorem dX11_judge_0 : decode cX11_judge 0 = .ok (.aload_n 0, 1) := by decide +kernel
theorem dX11_judge_1 : decode cX11_judge 1 = .ok (.aload_n 0, 1) := by decide +kernel
theorem dX11_judge_2 : decode cX11_judge 2 = .ok (.getfield 24, 3) := by decide +kernel
theorem dX11_judge_5 : decode cX11_judge 5 = .ok (.getfield 89, 3) := by decide +kernel
theorem dX11_judge_8 : decode cX11_judge 8 = .ok (.ifCond .ne 8, 3) := by decide +kernel
theorem dX11_judge_11 : decode cX11_judge 11 = .ok (.bipush (-2), 2) := by decide +kernel
theorem dX11_judge_13 : decode cX11_judge 13 = .ok (.goto 10, 3) := by decide +kernel
theorem dX11_judge_16 : decode cX11_judge 16 = .ok (.aload_n 0, 1) := by decide +kernel
theorem dX11_judge_17 : decode cX11_judge 17 = .ok (.getfield 24, 3) := by decide +kernel
theorem dX11_judge_20 : decode cX11_judge 20 = .ok (.getfield 104, 3) := by decide +kernel
theorem dX11_judge_23 : decode cX11_judge 23 = .ok (.putfield 63, 3) := by decide +kernel
theorem dX11_judge_26 : decode cX11_judge 26 = .ok (.aload_n 0, 1) := by decide +kernel
theorem dX11_judge_27 : decode cX11_judge 27 = .ok (.getfield 24, 3) := by decide +kernel
theorem dX11_judge_30 : decode cX11_judge 30 = .ok (.getfield 89, 3) := by decide +kernel
theorem dX11_judge_33 : decode cX11_judge 33 = .ok (.ireturn, 1) := by decide +kernel
abbrev cX11_told : ByteArray := prog_1_method_8_code
def yX11_told : MethodName := ⟨RX11, "told", "(I)I"⟩
theorem dX11_told_0 : decode cX11_told 0 = .ok (.iload_n 1, 1) := by decide +kernel
theorem dX11_told_1 : decode cX11_told 1 = .ok (.tableswitch 69 0 3 #[31, 42, 53, 64], 31) := by decide +kernel
theorem dX11_told_32 : decode cX11_told 32 = .ok (.aload_n 0, 1) := by decide +kernel
theorem dX11_told_33 : decode cX11_told 33 = .ok (.getfield 24, 3) := by decide +kernel
theorem dX11_told_36 : decode cX11_told 36 = .ok (.getfield 107, 3) := by decide +kernel
theorem dX11_told_39 : decode cX11_told 39 = .ok (.getfield 111, 3) := by decide +kernel
theorem dX11_told_42 : decode cX11_told 42 = .ok (.ireturn, 1) := by decide +kernel
theorem dX11_told_43 : decode cX11_told 43 = .ok (.aload_n 0, 1) := by decide +kernel
theorem dX11_told_44 : decode cX11_told 44 = .ok (.getfield 24, 3) := by decide +kernel
theorem dX11_told_47 : decode cX11_told 47 = .ok (.getfield 95, 3) := by decide +kernel
theorem dX11_told_50 : decode cX11_told 50 = .ok (.invokevirtual 99, 3) := by decide +kernel
theorem dX11_told_53 : decode cX11_told 53 = .ok (.ireturn, 1) := by decide +kernel
theorem dX11_told_54 : decode cX11_told 54 = .ok (.aload_n 0, 1) := by decide +kernel
theorem dX11_told_55 : decode cX11_told 55 = .ok (.getfield 24, 3) := by decide +kernel
theorem dX11_told_58 : decode cX11_told 58 = .ok (.getfield 116, 3) := by decide +kernel
theorem dX11_told_61 : decode cX11_told 61 = .ok (.invokevirtual 99, 3) := by decide +kernel
theorem dX11_told_64 : decode cX11_told 64 = .ok (.ireturn, 1) := by decide +kernel
theorem dX11_told_65 : decode cX11_told 65 = .ok (.aload_n 0, 1) := by decide +kernel
theorem dX11_told_66 : decode cX11_told 66 = .ok (.getfield 119, 3) := by decide +kernel
theorem dX11_told_69 : decode cX11_told 69 = .ok (.ireturn, 1) := by decide +kernel
theorem dX11_told_70 : decode cX11_told 70 = .ok (.iconst (-1), 1) := by decide +kernel
theorem dX11_told_71 : decode cX11_told 71 = .ok (.ireturn, 1) := by decide +kernel
abbrev cX11_token : ByteArray := prog_1_method_9_code
def yX11_token : MethodName := ⟨RX11, "token", "(II)I"⟩
theorem dX11_token_0 : decode cX11_token 0 = .ok (.aload_n 0, 1) := by decide +kernel
theorem dX11_token_1 : decode cX11_token 1 = .ok (.getfield 24, 3) := by decide +kernel
theorem dX11_token_4 : decode cX11_token 4 = .ok (.getfield 107, 3) := by decide +kernel
theorem dX11_token_7 : decode cX11_token 7 = .ok (.astore_n 3, 1) := by decide +kernel
theorem dX11_token_8 : decode cX11_token 8 = .ok (.iload_n 1, 1) := by decide +kernel
theorem dX11_token_9 : decode cX11_token 9 = .ok (.ifCond .lt 11, 3) := by decide +kernel
theorem dX11_token_12 : decode cX11_token 12 = .ok (.iload_n 1, 1) := by decide +kernel
theorem dX11_token_13 : decode cX11_token 13 = .ok (.aload_n 3, 1) := by decide +kernel
theorem dX11_token_14 : decode cX11_token 14 = .ok (.getfield 111, 3) := by decide +kernel
theorem dX11_token_17 : decode cX11_token 17 = .ok (.if_icmp .lt 5, 3) := by decide +kernel
theorem dX11_token_20 : decode cX11_token 20 = .ok (.iconst (-1), 1) := by decide +kernel
theorem dX11_token_21 : decode cX11_token 21 = .ok (.ireturn, 1) := by decide +kernel
theorem dX11_token_22 : decode cX11_token 22 = .ok (.iload_n 2, 1) := by decide +kernel
theorem dX11_token_23 : decode cX11_token 23 = .ok (.tableswitch 45 0 2 #[25, 32, 39], 25) := by decide +kernel
theorem dX11_token_48 : decode cX11_token 48 = .ok (.aload_n 3, 1) := by decide +kernel
theorem dX11_token_49 : decode cX11_token 49 = .ok (.getfield 122, 3) := by decide +kernel
theorem dX11_token_52 : decode cX11_token 52 = .ok (.iload_n 1, 1) := by decide +kernel
theorem dX11_token_53 : decode cX11_token 53 = .ok (.iaload, 1) := by decide +kernel
theorem dX11_token_54 : decode cX11_token 54 = .ok (.ireturn, 1) := by decide +kernel
theorem dX11_token_55 : decode cX11_token 55 = .ok (.aload_n 3, 1) := by decide +kernel
theorem dX11_token_56 : decode cX11_token 56 = .ok (.getfield 124, 3) := by decide +kernel
theorem dX11_token_59 : decode cX11_token 59 = .ok (.iload_n 1, 1) := by decide +kernel
theorem dX11_token_60 : decode cX11_token 60 = .ok (.iaload, 1) := by decide +kernel
theorem dX11_token_61 : decode cX11_token 61 = .ok (.ireturn, 1) := by decide +kernel
theorem dX11_token_62 : decode cX11_token 62 = .ok (.aload_n 3, 1) := by decide +kernel
theorem dX11_token_63 : decode cX11_token 63 = .ok (.iload_n 1, 1) := by decide +kernel
theorem dX11_token_64 : decode cX11_token 64 = .ok (.invokevirtual 126, 3) := by decide +kernel
theorem dX11_token_67 : decode cX11_token 67 = .ok (.ireturn, 1) := by decide +kernel
theorem dX11_token_68 : decode cX11_token 68 = .ok (.iconst (-1), 1) := by decide +kernel
theorem dX11_token_69 : decode cX11_token 69 = .ok (.ireturn, 1) := by decide +kernel
abbrev cX11_method : ByteArray := prog_1_method_10_code
def yX11_method : MethodName := ⟨RX11, "method", "(II)I"⟩
theorem dX11_method_0 : decode cX11_method 0 = .ok (.iload_n 1, 1) := by decide +kernel
theorem dX11_method_1 : decode cX11_method 1 = .ok (.ifCond .lt 17, 3) := by decide +kernel
theorem dX11_method_4 : decode cX11_method 4 = .ok (.iload_n 1, 1) := by decide +kernel
theorem dX11_method_5 : decode cX11_method 5 = .ok (.aload_n 0, 1) := by decide +kernel
theorem dX11_method_6 : decode cX11_method 6 = .ok (.getfield 24, 3) := by decide +kernel
theorem dX11_method_9 : decode cX11_method 9 = .ok (.getfield 95, 3) := by decide +kernel
theorem dX11_method_12 : decode cX11_method 12 = .ok (.invokevirtual 99, 3) := by decide +kernel
theorem dX11_method_15 : decode cX11_method 15 = .ok (.if_icmp .lt 5, 3) := by decide +kernel
theorem dX11_method_18 : decode cX11_method 18 = .ok (.iconst (-1), 1) := by decide +kernel
theorem dX11_method_19 : decode cX11_method 19 = .ok (.ireturn, 1) := by decide +kernel
theorem dX11_method_20 : decode cX11_method 20 = .ok (.aload_n 0, 1) := by decide +kernel
theorem dX11_method_21 : decode cX11_method 21 = .ok (.getfield 24, 3) := by decide +kernel
theorem dX11_method_24 : decode cX11_method 24 = .ok (.getfield 95, 3) := by decide +kernel
theorem dX11_method_27 : decode cX11_method 27 = .ok (.iload_n 1, 1) := by decide +kernel
theorem dX11_method_28 : decode cX11_method 28 = .ok (.invokevirtual 130, 3) := by decide +kernel
theorem dX11_method_31 : decode cX11_method 31 = .ok (.checkcast 134, 3) := by decide +kernel
theorem dX11_method_34 : decode cX11_method 34 = .ok (.astore_n 3, 1) := by decide +kernel
theorem dX11_method_35 : decode cX11_method 35 = .ok (.iload_n 2, 1) := by decide +kernel
theorem dX11_method_36 : decode cX11_method 36 = .ok (.tableswitch 43 0 2 #[28, 33, 38], 28) := by decide +kernel
theorem dX11_method_64 : decode cX11_method 64 = .ok (.aload_n 3, 1) := by decide +kernel
theorem dX11_method_65 : decode cX11_method 65 = .ok (.getfield 136, 3) := by decide +kernel
theorem dX11_method_68 : decode cX11_method 68 = .ok (.ireturn, 1) := by decide +kernel
theorem dX11_method_69 : decode cX11_method 69 = .ok (.aload_n 3, 1) := by decide +kernel
theorem dX11_method_70 : decode cX11_method 70 = .ok (.getfield 139, 3) := by decide +kernel
theorem dX11_method_73 : decode cX11_method 73 = .ok (.ireturn, 1) := by decide +kernel
theorem dX11_method_74 : decode cX11_method 74 = .ok (.aload_n 3, 1) := by decide +kernel
theorem dX11_method_75 : decode cX11_method 75 = .ok (.getfield 142, 3) := by decide +kernel
theorem dX11_method_78 : decode cX11_method 78 = .ok (.ireturn, 1) := by decide +kernel
theorem dX11_method_79 : decode cX11_method 79 = .ok (.iload_n 2, 1) := by decide +kernel
theorem dX11_method_80 : decode cX11_method 80 = .ok (.bipush 10, 2) := by decide +kernel
theorem dX11_method_82 : decode cX11_method 82 = .ok (.if_icmp .lt 26, 3) := by decide +kernel
theorem dX11_method_85 : decode cX11_method 85 = .ok (.iload_n 2, 1) := by decide +kernel
theorem dX11_method_86 : decode cX11_method 86 = .ok (.bipush 10, 2) := by decide +kernel
theorem dX11_method_88 : decode cX11_method 88 = .ok (.isub, 1) := by decide +kernel
theorem dX11_method_89 : decode cX11_method 89 = .ok (.aload_n 3, 1) := by decide +kernel
theorem dX11_method_90 : decode cX11_method 90 = .ok (.getfield 142, 3) := by decide +kernel
theorem dX11_method_93 : decode cX11_method 93 = .ok (.if_icmp .ge 15, 3) := by decide +kernel
theorem dX11_method_96 : decode cX11_method 96 = .ok (.aload_n 3, 1) := by decide +kernel
theorem dX11_method_97 : decode cX11_method 97 = .ok (.getfield 145, 3) := by decide +kernel
theorem dX11_method_100 : decode cX11_method 100 = .ok (.iload_n 2, 1) := by decide +kernel
theorem dX11_method_101 : decode cX11_method 101 = .ok (.bipush 10, 2) := by decide +kernel
theorem dX11_method_103 : decode cX11_method 103 = .ok (.isub, 1) := by decide +kernel
theorem dX11_method_104 : decode cX11_method 104 = .ok (.iaload, 1) := by decide +kernel
theorem dX11_method_105 : decode cX11_method 105 = .ok (.goto 4, 3) := by decide +kernel
theorem dX11_method_108 : decode cX11_method 108 = .ok (.iconst (-1), 1) := by decide +kernel
theorem dX11_method_109 : decode cX11_method 109 = .ok (.ireturn, 1) := by decide +kernel
abbrev cX11_variable : ByteArray := prog_1_method_11_code
def yX11_variable : MethodName := ⟨RX11, "variable", "(II)I"⟩
theorem dX11_variable_0 : decode cX11_variable 0 = .ok (.iload_n 1, 1) := by decide +kernel
theorem dX11_variable_1 : decode cX11_variable 1 = .ok (.ifCond .lt 17, 3) := by decide +kernel
theorem dX11_variable_4 : decode cX11_variable 4 = .ok (.iload_n 1, 1) := by decide +kernel
theorem dX11_variable_5 : decode cX11_variable 5 = .ok (.aload_n 0, 1) := by decide +kernel
theorem dX11_variable_6 : decode cX11_variable 6 = .ok (.getfield 24, 3) := by decide +kernel
theorem dX11_variable_9 : decode cX11_variable 9 = .ok (.getfield 116, 3) := by decide +kernel
theorem dX11_variable_12 : decode cX11_variable 12 = .ok (.invokevirtual 99, 3) := by decide +kernel
theorem dX11_variable_15 : decode cX11_variable 15 = .ok (.if_icmp .lt 5, 3) := by decide +kernel
theorem dX11_variable_18 : decode cX11_variable 18 = .ok (.iconst (-1), 1) := by decide +kernel
theorem dX11_variable_19 : decode cX11_variable 19 = .ok (.ireturn, 1) := by decide +kernel
theorem dX11_variable_20 : decode cX11_variable 20 = .ok (.aload_n 0, 1) := by decide +kernel
theorem dX11_variable_21 : decode cX11_variable 21 = .ok (.getfield 24, 3) := by decide +kernel
theorem dX11_variable_24 : decode cX11_variable 24 = .ok (.getfield 116, 3) := by decide +kernel
theorem dX11_variable_27 : decode cX11_variable 27 = .ok (.iload_n 1, 1) := by decide +kernel
theorem dX11_variable_28 : decode cX11_variable 28 = .ok (.invokevirtual 130, 3) := by decide +kernel
theorem dX11_variable_31 : decode cX11_variable 31 = .ok (.checkcast 148, 3) := by decide +kernel
theorem dX11_variable_34 : decode cX11_variable 34 = .ok (.astore_n 3, 1) := by decide +kernel
theorem dX11_variable_35 : decode cX11_variable 35 = .ok (.iload_n 2, 1) := by decide +kernel
theorem dX11_variable_36 : decode cX11_variable 36 = .ok (.tableswitch 60 0 3 #[32, 37, 42, 55], 32) := by decide +kernel
theorem dX11_variable_68 : decode cX11_variable 68 = .ok (.aload_n 3, 1) := by decide +kernel
theorem dX11_variable_69 : decode cX11_variable 69 = .ok (.getfield 150, 3) := by decide +kernel
theorem dX11_variable_72 : decode cX11_variable 72 = .ok (.ireturn, 1) := by decide +kernel
theorem dX11_variable_73 : decode cX11_variable 73 = .ok (.aload_n 3, 1) := by decide +kernel
theorem dX11_variable_74 : decode cX11_variable 74 = .ok (.getfield 151, 3) := by decide +kernel
theorem dX11_variable_77 : decode cX11_variable 77 = .ok (.ireturn, 1) := by decide +kernel
theorem dX11_variable_78 : decode cX11_variable 78 = .ok (.aload_n 3, 1) := by decide +kernel
theorem dX11_variable_79 : decode cX11_variable 79 = .ok (.getfield 152, 3) := by decide +kernel
theorem dX11_variable_82 : decode cX11_variable 82 = .ok (.ifCond .eq 7, 3) := by decide +kernel
theorem dX11_variable_85 : decode cX11_variable 85 = .ok (.iconst 1, 1) := by decide +kernel
theorem dX11_variable_86 : decode cX11_variable 86 = .ok (.goto 4, 3) := by decide +kernel
theorem dX11_variable_89 : decode cX11_variable 89 = .ok (.iconst 0, 1) := by decide +kernel
theorem dX11_variable_90 : decode cX11_variable 90 = .ok (.ireturn, 1) := by decide +kernel
theorem dX11_variable_91 : decode cX11_variable 91 = .ok (.aload_n 3, 1) := by decide +kernel
theorem dX11_variable_92 : decode cX11_variable 92 = .ok (.getfield 155, 3) := by decide +kernel
theorem dX11_variable_95 : decode cX11_variable 95 = .ok (.ireturn, 1) := by decide +kernel
theorem dX11_variable_96 : decode cX11_variable 96 = .ok (.iconst (-1), 1) := by decide +kernel
theorem dX11_variable_97 : decode cX11_variable 97 = .ok (.ireturn, 1) := by decide +kernel
abbrev cX11_means : ByteArray := prog_1_method_12_code
def yX11_means : MethodName := ⟨RX11, "means", "(I)I"⟩
theorem dX11_means_0 : decode cX11_means 0 = .ok (.aload_n 0, 1) := by decide +kernel
theorem dX11_means_1 : decode cX11_means 1 = .ok (.getfield 24, 3) := by decide +kernel
theorem dX11_means_4 : decode cX11_means 4 = .ok (.getfield 107, 3) := by decide +kernel
theorem dX11_means_7 : decode cX11_means 7 = .ok (.astore_n 2, 1) := by decide +kernel
theorem dX11_means_8 : decode cX11_means 8 = .ok (.iload_n 1, 1) := by decide +kernel
theorem dX11_means_9 : decode cX11_means 9 = .ok (.ifCond .lt 22, 3) := by decide +kernel
theorem dX11_means_12 : decode cX11_means 12 = .ok (.iload_n 1, 1) := by decide +kernel
theorem dX11_means_13 : decode cX11_means 13 = .ok (.aload_n 2, 1) := by decide +kernel
theorem dX11_means_14 : decode cX11_means 14 = .ok (.getfield 111, 3) := by decide +kernel
theorem dX11_means_17 : decode cX11_means 17 = .ok (.if_icmp .ge 14, 3) := by decide +kernel
theorem dX11_means_20 : decode cX11_means 20 = .ok (.aload_n 2, 1) := by decide +kernel
theorem dX11_means_21 : decode cX11_means 21 = .ok (.getfield 158, 3) := by decide +kernel
theorem dX11_means_24 : decode cX11_means 24 = .ok (.iload_n 1, 1) := by decide +kernel
theorem dX11_means_25 : decode cX11_means 25 = .ok (.iaload, 1) := by decide +kernel
theorem dX11_means_26 : decode cX11_means 26 = .ok (.bipush 80, 2) := by decide +kernel
theorem dX11_means_28 : decode cX11_means 28 = .ok (.if_icmp .eq 5, 3) := by decide +kernel
theorem dX11_means_31 : decode cX11_means 31 = .ok (.iconst (-1), 1) := by decide +kernel
theorem dX11_means_32 : decode cX11_means 32 = .ok (.ireturn, 1) := by decide +kernel
theorem dX11_means_33 : decode cX11_means 33 = .ok (.aload_n 0, 1) := by decide +kernel
theorem dX11_means_34 : decode cX11_means 34 = .ok (.getfield 24, 3) := by decide +kernel
theorem dX11_means_37 : decode cX11_means 37 = .ok (.getfield 89, 3) := by decide +kernel
theorem dX11_means_40 : decode cX11_means 40 = .ok (.ifCond .eq 8, 3) := by decide +kernel
theorem dX11_means_43 : decode cX11_means 43 = .ok (.bipush (-2), 2) := by decide +kernel
theorem dX11_means_45 : decode cX11_means 45 = .ok (.goto 9, 3) := by decide +kernel
theorem dX11_means_48 : decode cX11_means 48 = .ok (.aload_n 2, 1) := by decide +kernel
theorem dX11_means_49 : decode cX11_means 49 = .ok (.getfield 160, 3) := by decide +kernel
theorem dX11_means_52 : decode cX11_means 52 = .ok (.iload_n 1, 1) := by decide +kernel
theorem dX11_means_53 : decode cX11_means 53 = .ok (.iaload, 1) := by decide +kernel
theorem dX11_means_54 : decode cX11_means 54 = .ok (.ireturn, 1) := by decide +kernel
abbrev cX11_type : ByteArray := prog_1_method_13_code
def yX11_type : MethodName := ⟨RX11, "type", "(II)I"⟩
theorem dX11_type_0 : decode cX11_type 0 = .ok (.aload_n 0, 1) := by decide +kernel
theorem dX11_type_1 : decode cX11_type 1 = .ok (.getfield 24, 3) := by decide +kernel
theorem dX11_type_4 : decode cX11_type 4 = .ok (.getfield 89, 3) := by decide +kernel
theorem dX11_type_7 : decode cX11_type 7 = .ok (.ifCond .eq 6, 3) := by decide +kernel
theorem dX11_type_10 : decode cX11_type 10 = .ok (.bipush (-2), 2) := by decide +kernel
theorem dX11_type_12 : decode cX11_type 12 = .ok (.ireturn, 1) := by decide +kernel
theorem dX11_type_13 : decode cX11_type 13 = .ok (.aload_n 0, 1) := by decide +kernel
theorem dX11_type_14 : decode cX11_type 14 = .ok (.getfield 24, 3) := by decide +kernel
theorem dX11_type_17 : decode cX11_type 17 = .ok (.iload_n 1, 1) := by decide +kernel
theorem dX11_type_18 : decode cX11_type 18 = .ok (.iload_n 2, 1) := by decide +kernel
theorem dX11_type_19 : decode cX11_type 19 = .ok (.invokevirtual 163, 3) := by decide +kernel
theorem dX11_type_22 : decode cX11_type 22 = .ok (.astore_n 3, 1) := by decide +kernel
theorem dX11_type_23 : decode cX11_type 23 = .ok (.aload_n 3, 1) := by decide +kernel
theorem dX11_type_24 : decode cX11_type 24 = .ok (.ifnonnull 7, 3) := by decide +kernel
theorem dX11_type_27 : decode cX11_type 27 = .ok (.iconst (-1), 1) := by decide +kernel
theorem dX11_type_28 : decode cX11_type 28 = .ok (.goto 7, 3) := by decide +kernel
theorem dX11_type_31 : decode cX11_type 31 = .ok (.aload_n 3, 1) := by decide +kernel
theorem dX11_type_32 : decode cX11_type 32 = .ok (.getfield 167, 3) := by decide +kernel
theorem dX11_type_35 : decode cX11_type 35 = .ok (.ireturn, 1) := by decide +kernel
abbrev cX6_expAt : ByteArray := prog_8_method_5_code
def yX6_expAt : MethodName := ⟨RX6, "expAt", "(II)LPlainJava$Exp;"⟩
theorem dX6_expAt_0 : decode cX6_expAt 0 = .ok (.iconst 0, 1) := by decide +kernel
theorem dX6_expAt_1 : decode cX6_expAt 1 = .ok (.istore_n 3, 1) := by decide +kernel
theorem dX6_expAt_2 : decode cX6_expAt 2 = .ok (.iload_n 3, 1) := by decide +kernel
theorem dX6_expAt_3 : decode cX6_expAt 3 = .ok (.aload_n 0, 1) := by decide +kernel
theorem dX6_expAt_4 : decode cX6_expAt 4 = .ok (.getfield 28, 3) := by decide +kernel
theorem dX6_expAt_7 : decode cX6_expAt 7 = .ok (.invokevirtual 70, 3) := by decide +kernel
theorem dX6_expAt_10 : decode cX6_expAt 10 = .ok (.if_icmp .ge 53, 3) := by decide +kernel
theorem dX6_expAt_13 : decode cX6_expAt 13 = .ok (.aload_n 0, 1) := by decide +kernel
theorem dX6_expAt_14 : decode cX6_expAt 14 = .ok (.getfield 28, 3) := by decide +kernel
theorem dX6_expAt_17 : decode cX6_expAt 17 = .ok (.iload_n 3, 1) := by decide +kernel
theorem dX6_expAt_18 : decode cX6_expAt 18 = .ok (.invokevirtual 74, 3) := by decide +kernel
theorem dX6_expAt_21 : decode cX6_expAt 21 = .ok (.checkcast 78, 3) := by decide +kernel
theorem dX6_expAt_24 : decode cX6_expAt 24 = .ok (.astore 4, 2) := by decide +kernel
theorem dX6_expAt_26 : decode cX6_expAt 26 = .ok (.aload 4, 2) := by decide +kernel
theorem dX6_expAt_28 : decode cX6_expAt 28 = .ok (.getfield 80, 3) := by decide +kernel
theorem dX6_expAt_31 : decode cX6_expAt 31 = .ok (.bipush 10, 2) := by decide +kernel
theorem dX6_expAt_33 : decode cX6_expAt 33 = .ok (.if_icmp .gt 24, 3) := by decide +kernel
theorem dX6_expAt_36 : decode cX6_expAt 36 = .ok (.aload 4, 2) := by decide +kernel
theorem dX6_expAt_38 : decode cX6_expAt 38 = .ok (.getfield 83, 3) := by decide +kernel
theorem dX6_expAt_41 : decode cX6_expAt 41 = .ok (.iload_n 1, 1) := by decide +kernel
theorem dX6_expAt_42 : decode cX6_expAt 42 = .ok (.if_icmp .ne 15, 3) := by decide +kernel
theorem dX6_expAt_45 : decode cX6_expAt 45 = .ok (.aload 4, 2) := by decide +kernel
theorem dX6_expAt_47 : decode cX6_expAt 47 = .ok (.getfield 86, 3) := by decide +kernel
theorem dX6_expAt_50 : decode cX6_expAt 50 = .ok (.iload_n 2, 1) := by decide +kernel
theorem dX6_expAt_51 : decode cX6_expAt 51 = .ok (.if_icmp .ne 6, 3) := by decide +kernel
theorem dX6_expAt_54 : decode cX6_expAt 54 = .ok (.aload 4, 2) := by decide +kernel
theorem dX6_expAt_56 : decode cX6_expAt 56 = .ok (.areturn, 1) := by decide +kernel
theorem dX6_expAt_57 : decode cX6_expAt 57 = .ok (.iinc 3 1, 3) := by decide +kernel
theorem dX6_expAt_60 : decode cX6_expAt 60 = .ok (.goto (-58), 3) := by decide +kernel
theorem dX6_expAt_63 : decode cX6_expAt 63 = .ok (.aconst_null, 1) := by decide +kernel
theorem dX6_expAt_64 : decode cX6_expAt 64 = .ok (.areturn, 1) := by decide +kernel
abbrev cX11_constant : ByteArray := prog_1_method_14_code
def yX11_constant : MethodName := ⟨RX11, "constant", "(II)J"⟩
theorem dX11_constant_0 : decode cX11_constant 0 = .ok (.aload_n 0, 1) := by decide +kernel
theorem dX11_constant_1 : decode cX11_constant 1 = .ok (.getfield 24, 3) := by decide +kernel
theorem dX11_constant_4 : decode cX11_constant 4 = .ok (.getfield 89, 3) := by decide +kernel
theorem dX11_constant_7 : decode cX11_constant 7 = .ok (.ifCond .eq 7, 3) := by decide +kernel
theorem dX11_constant_10 : decode cX11_constant 10 = .ok (.ldc2_w 170, 3) := by decide +kernel
theorem dX11_constant_13 : decode cX11_constant 13 = .ok (.lreturn, 1) := by decide +kernel
theorem dX11_constant_14 : decode cX11_constant 14 = .ok (.aload_n 0, 1) := by decide +kernel
theorem dX11_constant_15 : decode cX11_constant 15 = .ok (.getfield 24, 3) := by decide +kernel
theorem dX11_constant_18 : decode cX11_constant 18 = .ok (.iload_n 1, 1) := by decide +kernel
theorem dX11_constant_19 : decode cX11_constant 19 = .ok (.iload_n 2, 1) := by decide +kernel
theorem dX11_constant_20 : decode cX11_constant 20 = .ok (.invokevirtual 163, 3) := by decide +kernel
theorem dX11_constant_23 : decode cX11_constant 23 = .ok (.astore_n 3, 1) := by decide +kernel
theorem dX11_constant_24 : decode cX11_constant 24 = .ok (.aload_n 3, 1) := by decide +kernel
theorem dX11_constant_25 : decode cX11_constant 25 = .ok (.ifnull 10, 3) := by decide +kernel
theorem dX11_constant_28 : decode cX11_constant 28 = .ok (.aload_n 3, 1) := by decide +kernel
theorem dX11_constant_29 : decode cX11_constant 29 = .ok (.getfield 172, 3) := by decide +kernel
theorem dX11_constant_32 : decode cX11_constant 32 = .ok (.ifCond .ne 9, 3) := by decide +kernel
theorem dX11_constant_35 : decode cX11_constant 35 = .ok (.ldc2_w 170, 3) := by decide +kernel
theorem dX11_constant_38 : decode cX11_constant 38 = .ok (.goto 7, 3) := by decide +kernel
theorem dX11_constant_41 : decode cX11_constant 41 = .ok (.aload_n 3, 1) := by decide +kernel
theorem dX11_constant_42 : decode cX11_constant 42 = .ok (.getfield 175, 3) := by decide +kernel
theorem dX11_constant_45 : decode cX11_constant 45 = .ok (.lreturn, 1) := by decide +kernel
abbrev cX11_ends : ByteArray := prog_1_method_15_code
def yX11_ends : MethodName := ⟨RX11, "ends", "(I)I"⟩
theorem dX11_ends_0 : decode cX11_ends 0 = .ok (.aload_n 0, 1) := by decide +kernel
theorem dX11_ends_1 : decode cX11_ends 1 = .ok (.getfield 24, 3) := by decide +kernel
theorem dX11_ends_4 : decode cX11_ends 4 = .ok (.getfield 89, 3) := by decide +kernel
theorem dX11_ends_7 : decode cX11_ends 7 = .ok (.ifCond .eq 6, 3) := by decide +kernel
theorem dX11_ends_10 : decode cX11_ends 10 = .ok (.bipush (-2), 2) := by decide +kernel
theorem dX11_ends_12 : decode cX11_ends 12 = .ok (.ireturn, 1) := by decide +kernel
theorem dX11_ends_13 : decode cX11_ends 13 = .ok (.aload_n 0, 1) := by decide +kernel
theorem dX11_ends_14 : decode cX11_ends 14 = .ok (.getfield 24, 3) := by decide +kernel
theorem dX11_ends_17 : decode cX11_ends 17 = .ok (.iload_n 1, 1) := by decide +kernel
theorem dX11_ends_18 : decode cX11_ends 18 = .ok (.invokevirtual 179, 3) := by decide +kernel
theorem dX11_ends_21 : decode cX11_ends 21 = .ok (.astore_n 2, 1) := by decide +kernel
theorem dX11_ends_22 : decode cX11_ends 22 = .ok (.aload_n 2, 1) := by decide +kernel
theorem dX11_ends_23 : decode cX11_ends 23 = .ok (.ifnonnull 5, 3) := by decide +kernel
theorem dX11_ends_26 : decode cX11_ends 26 = .ok (.iconst (-1), 1) := by decide +kernel
theorem dX11_ends_27 : decode cX11_ends 27 = .ok (.ireturn, 1) := by decide +kernel
theorem dX11_ends_28 : decode cX11_ends 28 = .ok (.aload_n 2, 1) := by decide +kernel
theorem dX11_ends_29 : decode cX11_ends 29 = .ok (.getfield 183, 3) := by decide +kernel
theorem dX11_ends_32 : decode cX11_ends 32 = .ok (.ifCond .eq 7, 3) := by decide +kernel
theorem dX11_ends_35 : decode cX11_ends 35 = .ok (.iconst 1, 1) := by decide +kernel
theorem dX11_ends_36 : decode cX11_ends 36 = .ok (.goto 4, 3) := by decide +kernel
theorem dX11_ends_39 : decode cX11_ends 39 = .ok (.iconst 0, 1) := by decide +kernel
theorem dX11_ends_40 : decode cX11_ends 40 = .ok (.ireturn, 1) := by decide +kernel
abbrev cX6_statementAt : ByteArray := prog_8_method_6_code
def yX6_statementAt : MethodName := ⟨RX6, "statementAt", "(I)LPlainJava$Statement;"⟩
theorem dX6_statementAt_0 : decode cX6_statementAt 0 = .ok (.iconst 0, 1) := by decide +kernel
theorem dX6_statementAt_1 : decode cX6_statementAt 1 = .ok (.istore_n 2, 1) := by decide +kernel
theorem dX6_statementAt_2 : decode cX6_statementAt 2 = .ok (.iload_n 2, 1) := by decide +kernel
theorem dX6_statementAt_3 : decode cX6_statementAt 3 = .ok (.aload_n 0, 1) := by decide +kernel
theorem dX6_statementAt_4 : decode cX6_statementAt 4 = .ok (.getfield 31, 3) := by decide +kernel
theorem dX6_statementAt_7 : decode cX6_statementAt 7 = .ok (.invokevirtual 70, 3) := by decide +kernel
theorem dX6_statementAt_10 : decode cX6_statementAt 10 = .ok (.if_icmp .ge 38, 3) := by decide +kernel
theorem dX6_statementAt_13 : decode cX6_statementAt 13 = .ok (.aload_n 0, 1) := by decide +kernel
theorem dX6_statementAt_14 : decode cX6_statementAt 14 = .ok (.getfield 31, 3) := by decide +kernel
theorem dX6_statementAt_17 : decode cX6_statementAt 17 = .ok (.iload_n 2, 1) := by decide +kernel
theorem dX6_statementAt_18 : decode cX6_statementAt 18 = .ok (.invokevirtual 74, 3) := by decide +kernel
theorem dX6_statementAt_21 : decode cX6_statementAt 21 = .ok (.checkcast 89, 3) := by decide +kernel
theorem dX6_statementAt_24 : decode cX6_statementAt 24 = .ok (.astore_n 3, 1) := by decide +kernel
theorem dX6_statementAt_25 : decode cX6_statementAt 25 = .ok (.aload_n 3, 1) := by decide +kernel
theorem dX6_statementAt_26 : decode cX6_statementAt 26 = .ok (.getfield 91, 3) := by decide +kernel
theorem dX6_statementAt_29 : decode cX6_statementAt 29 = .ok (.iload_n 1, 1) := by decide +kernel
theorem dX6_statementAt_30 : decode cX6_statementAt 30 = .ok (.if_icmp .ne 12, 3) := by decide +kernel
theorem dX6_statementAt_33 : decode cX6_statementAt 33 = .ok (.aload_n 3, 1) := by decide +kernel
theorem dX6_statementAt_34 : decode cX6_statementAt 34 = .ok (.invokevirtual 92, 3) := by decide +kernel
theorem dX6_statementAt_37 : decode cX6_statementAt 37 = .ok (.ifCond .ne 5, 3) := by decide +kernel
theorem dX6_statementAt_40 : decode cX6_statementAt 40 = .ok (.aload_n 3, 1) := by decide +kernel
theorem dX6_statementAt_41 : decode cX6_statementAt 41 = .ok (.areturn, 1) := by decide +kernel
theorem dX6_statementAt_42 : decode cX6_statementAt 42 = .ok (.iinc 2 1, 3) := by decide +kernel
theorem dX6_statementAt_45 : decode cX6_statementAt 45 = .ok (.goto (-43), 3) := by decide +kernel
theorem dX6_statementAt_48 : decode cX6_statementAt 48 = .ok (.aconst_null, 1) := by decide +kernel
theorem dX6_statementAt_49 : decode cX6_statementAt 49 = .ok (.areturn, 1) := by decide +kernel
abbrev cX11_assigned : ByteArray := prog_1_method_16_code
def yX11_assigned : MethodName := ⟨RX11, "assigned", "(II)I"⟩
theorem dX11_assigned_0 : decode cX11_assigned 0 = .ok (.aload_n 0, 1) := by decide +kernel
theorem dX11_assigned_1 : decode cX11_assigned 1 = .ok (.getfield 24, 3) := by decide +kernel
theorem dX11_assigned_4 : decode cX11_assigned 4 = .ok (.getfield 89, 3) := by decide +kernel
theorem dX11_assigned_7 : decode cX11_assigned 7 = .ok (.ifCond .eq 6, 3) := by decide +kernel
theorem dX11_assigned_10 : decode cX11_assigned 10 = .ok (.bipush (-2), 2) := by decide +kernel
theorem dX11_assigned_12 : decode cX11_assigned 12 = .ok (.ireturn, 1) := by decide +kernel
theorem dX11_assigned_13 : decode cX11_assigned 13 = .ok (.aload_n 0, 1) := by decide +kernel
theorem dX11_assigned_14 : decode cX11_assigned 14 = .ok (.getfield 24, 3) := by decide +kernel
theorem dX11_assigned_17 : decode cX11_assigned 17 = .ok (.iload_n 1, 1) := by decide +kernel
theorem dX11_assigned_18 : decode cX11_assigned 18 = .ok (.invokevirtual 179, 3) := by decide +kernel
theorem dX11_assigned_21 : decode cX11_assigned 21 = .ok (.astore_n 3, 1) := by decide +kernel
theorem dX11_assigned_22 : decode cX11_assigned 22 = .ok (.aload_n 3, 1) := by decide +kernel
theorem dX11_assigned_23 : decode cX11_assigned 23 = .ok (.ifnull 32, 3) := by decide +kernel
theorem dX11_assigned_26 : decode cX11_assigned 26 = .ok (.iload_n 2, 1) := by decide +kernel
theorem dX11_assigned_27 : decode cX11_assigned 27 = .ok (.ifCond .lt 28, 3) := by decide +kernel
theorem dX11_assigned_30 : decode cX11_assigned 30 = .ok (.iload_n 2, 1) := by decide +kernel
theorem dX11_assigned_31 : decode cX11_assigned 31 = .ok (.aload_n 0, 1) := by decide +kernel
theorem dX11_assigned_32 : decode cX11_assigned 32 = .ok (.getfield 24, 3) := by decide +kernel
theorem dX11_assigned_35 : decode cX11_assigned 35 = .ok (.getfield 116, 3) := by decide +kernel
theorem dX11_assigned_38 : decode cX11_assigned 38 = .ok (.invokevirtual 99, 3) := by decide +kernel
theorem dX11_assigned_41 : decode cX11_assigned 41 = .ok (.if_icmp .ge 14, 3) := by decide +kernel
theorem dX11_assigned_44 : decode cX11_assigned 44 = .ok (.aload_n 3, 1) := by decide +kernel
theorem dX11_assigned_45 : decode cX11_assigned 45 = .ok (.getfield 188, 3) := by decide +kernel
theorem dX11_assigned_48 : decode cX11_assigned 48 = .ok (.iload_n 2, 1) := by decide +kernel
theorem dX11_assigned_49 : decode cX11_assigned 49 = .ok (.invokestatic 191, 3) := by decide +kernel
theorem dX11_assigned_52 : decode cX11_assigned 52 = .ok (.ifCond .ne 5, 3) := by decide +kernel
theorem dX11_assigned_55 : decode cX11_assigned 55 = .ok (.iconst (-1), 1) := by decide +kernel
theorem dX11_assigned_56 : decode cX11_assigned 56 = .ok (.ireturn, 1) := by decide +kernel
theorem dX11_assigned_57 : decode cX11_assigned 57 = .ok (.aload_n 3, 1) := by decide +kernel
theorem dX11_assigned_58 : decode cX11_assigned 58 = .ok (.getfield 195, 3) := by decide +kernel
theorem dX11_assigned_61 : decode cX11_assigned 61 = .ok (.iload_n 2, 1) := by decide +kernel
theorem dX11_assigned_62 : decode cX11_assigned 62 = .ok (.invokestatic 191, 3) := by decide +kernel
theorem dX11_assigned_65 : decode cX11_assigned 65 = .ok (.ifCond .eq 7, 3) := by decide +kernel
theorem dX11_assigned_68 : decode cX11_assigned 68 = .ok (.iconst 1, 1) := by decide +kernel
theorem dX11_assigned_69 : decode cX11_assigned 69 = .ok (.goto 4, 3) := by decide +kernel
theorem dX11_assigned_72 : decode cX11_assigned 72 = .ok (.iconst 0, 1) := by decide +kernel
theorem dX11_assigned_73 : decode cX11_assigned 73 = .ok (.ireturn, 1) := by decide +kernel
abbrev cX11_argument : ByteArray := prog_1_method_17_code
def yX11_argument : MethodName := ⟨RX11, "argument", "(IJ)I"⟩
theorem dX11_argument_0 : decode cX11_argument 0 = .ok (.iload_n 1, 1) := by decide +kernel
theorem dX11_argument_1 : decode cX11_argument 1 = .ok (.ifCond .lt 9, 3) := by decide +kernel
theorem dX11_argument_4 : decode cX11_argument 4 = .ok (.iload_n 1, 1) := by decide +kernel
theorem dX11_argument_5 : decode cX11_argument 5 = .ok (.bipush 6, 2) := by decide +kernel
theorem dX11_argument_7 : decode cX11_argument 7 = .ok (.if_icmp .lt 5, 3) := by decide +kernel
theorem dX11_argument_10 : decode cX11_argument 10 = .ok (.iconst (-1), 1) := by decide +kernel
theorem dX11_argument_11 : decode cX11_argument 11 = .ok (.ireturn, 1) := by decide +kernel
theorem dX11_argument_12 : decode cX11_argument 12 = .ok (.aload_n 0, 1) := by decide +kernel
theorem dX11_argument_13 : decode cX11_argument 13 = .ok (.getfield 17, 3) := by decide +kernel
theorem dX11_argument_16 : decode cX11_argument 16 = .ok (.iload_n 1, 1) := by decide +kernel
theorem dX11_argument_17 : decode cX11_argument 17 = .ok (.lload_n 2, 1) := by decide +kernel
theorem dX11_argument_18 : decode cX11_argument 18 = .ok (.lastore, 1) := by decide +kernel
theorem dX11_argument_19 : decode cX11_argument 19 = .ok (.iconst 1, 1) := by decide +kernel
theorem dX11_argument_20 : decode cX11_argument 20 = .ok (.ireturn, 1) := by decide +kernel
abbrev cX11_input : ByteArray := prog_1_method_18_code
def yX11_input : MethodName := ⟨RX11, "input", "(I)I"⟩
theorem dX11_input_0 : decode cX11_input 0 = .ok (.aload_n 0, 1) := by decide +kernel
theorem dX11_input_1 : decode cX11_input 1 = .ok (.getfield 119, 3) := by decide +kernel
theorem dX11_input_4 : decode cX11_input 4 = .ok (.bipush 40, 2) := by decide +kernel
theorem dX11_input_6 : decode cX11_input 6 = .ok (.if_icmp .lt 6, 3) := by decide +kernel
theorem dX11_input_9 : decode cX11_input 9 = .ok (.bipush (-3), 2) := by decide +kernel
theorem dX11_input_11 : decode cX11_input 11 = .ok (.ireturn, 1) := by decide +kernel
theorem dX11_input_12 : decode cX11_input 12 = .ok (.aload_n 0, 1) := by decide +kernel
theorem dX11_input_13 : decode cX11_input 13 = .ok (.getfield 13, 3) := by decide +kernel
theorem dX11_input_16 : decode cX11_input 16 = .ok (.aload_n 0, 1) := by decide +kernel
theorem dX11_input_17 : decode cX11_input 17 = .ok (.getfield 119, 3) := by decide +kernel
theorem dX11_input_20 : decode cX11_input 20 = .ok (.iload_n 1, 1) := by decide +kernel
theorem dX11_input_21 : decode cX11_input 21 = .ok (.iastore, 1) := by decide +kernel
theorem dX11_input_22 : decode cX11_input 22 = .ok (.aload_n 0, 1) := by decide +kernel
theorem dX11_input_23 : decode cX11_input 23 = .ok (.dup, 1) := by decide +kernel
theorem dX11_input_24 : decode cX11_input 24 = .ok (.getfield 119, 3) := by decide +kernel
theorem dX11_input_27 : decode cX11_input 27 = .ok (.iconst 1, 1) := by decide +kernel
theorem dX11_input_28 : decode cX11_input 28 = .ok (.iadd, 1) := by decide +kernel
theorem dX11_input_29 : decode cX11_input 29 = .ok (.putfield 119, 3) := by decide +kernel
theorem dX11_input_32 : decode cX11_input 32 = .ok (.aload_n 0, 1) := by decide +kernel
theorem dX11_input_33 : decode cX11_input 33 = .ok (.getfield 119, 3) := by decide +kernel
theorem dX11_input_36 : decode cX11_input 36 = .ok (.ireturn, 1) := by decide +kernel
abbrev cX11_drain : ByteArray := prog_1_method_19_code
def yX11_drain : MethodName := ⟨RX11, "drain", "()I"⟩
theorem dX11_drain_0 : decode cX11_drain 0 = .ok (.aload_n 0, 1) := by decide +kernel
theorem dX11_drain_1 : decode cX11_drain 1 = .ok (.getfield 119, 3) := by decide +kernel
theorem dX11_drain_4 : decode cX11_drain 4 = .ok (.istore_n 1, 1) := by decide +kernel
theorem dX11_drain_5 : decode cX11_drain 5 = .ok (.aload_n 0, 1) := by decide +kernel
theorem dX11_drain_6 : decode cX11_drain 6 = .ok (.iconst 0, 1) := by decide +kernel
theorem dX11_drain_7 : decode cX11_drain 7 = .ok (.putfield 119, 3) := by decide +kernel
theorem dX11_drain_10 : decode cX11_drain 10 = .ok (.iload_n 1, 1) := by decide +kernel
theorem dX11_drain_11 : decode cX11_drain 11 = .ok (.ireturn, 1) := by decide +kernel
abbrev cX11_run : ByteArray := prog_1_method_20_code
def yX11_run : MethodName := ⟨RX11, "run", "(II)I"⟩
theorem dX11_run_0 : decode cX11_run 0 = .ok (.iload_n 1, 1) := by decide +kernel
theorem dX11_run_1 : decode cX11_run 1 = .ok (.ifCond .lt 29, 3) := by decide +kernel
theorem dX11_run_4 : decode cX11_run 4 = .ok (.iload_n 1, 1) := by decide +kernel
theorem dX11_run_5 : decode cX11_run 5 = .ok (.aload_n 0, 1) := by decide +kernel
theorem dX11_run_6 : decode cX11_run 6 = .ok (.getfield 24, 3) := by decide +kernel
theorem dX11_run_9 : decode cX11_run 9 = .ok (.getfield 95, 3) := by decide +kernel
theorem dX11_run_12 : decode cX11_run 12 = .ok (.invokevirtual 99, 3) := by decide +kernel
theorem dX11_run_15 : decode cX11_run 15 = .ok (.if_icmp .ge 15, 3) := by decide +kernel
theorem dX11_run_18 : decode cX11_run 18 = .ok (.iload_n 2, 1) := by decide +kernel
theorem dX11_run_19 : decode cX11_run 19 = .ok (.iconst 1, 1) := by decide +kernel
theorem dX11_run_20 : decode cX11_run 20 = .ok (.if_icmp .lt 10, 3) := by decide +kernel
theorem dX11_run_23 : decode cX11_run 23 = .ok (.iload_n 2, 1) := by decide +kernel
theorem dX11_run_24 : decode cX11_run 24 = .ok (.sipush 20000, 3) := by decide +kernel
theorem dX11_run_27 : decode cX11_run 27 = .ok (.if_icmp .le 5, 3) := by decide +kernel
theorem dX11_run_30 : decode cX11_run 30 = .ok (.iconst (-1), 1) := by decide +kernel
theorem dX11_run_31 : decode cX11_run 31 = .ok (.ireturn, 1) := by decide +kernel
theorem dX11_run_32 : decode cX11_run 32 = .ok (.aload_n 0, 1) := by decide +kernel
theorem dX11_run_33 : decode cX11_run 33 = .ok (.getfield 24, 3) := by decide +kernel
theorem dX11_run_36 : decode cX11_run 36 = .ok (.getfield 89, 3) := by decide +kernel
theorem dX11_run_39 : decode cX11_run 39 = .ok (.ifCond .eq 6, 3) := by decide +kernel
theorem dX11_run_42 : decode cX11_run 42 = .ok (.bipush (-2), 2) := by decide +kernel
theorem dX11_run_44 : decode cX11_run 44 = .ok (.ireturn, 1) := by decide +kernel
theorem dX11_run_45 : decode cX11_run 45 = .ok (.aload_n 0, 1) := by decide +kernel
theorem dX11_run_46 : decode cX11_run 46 = .ok (.iconst 1, 1) := by decide +kernel
theorem dX11_run_47 : decode cX11_run 47 = .ok (.putfield 82, 3) := by decide +kernel
theorem dX11_run_50 : decode cX11_run 50 = .ok (.aload_n 0, 1) := by decide +kernel
theorem dX11_run_51 : decode cX11_run 51 = .ok (.getfield 59, 3) := by decide +kernel
theorem dX11_run_54 : decode cX11_run 54 = .ok (.aload_n 0, 1) := by decide +kernel
theorem dX11_run_55 : decode cX11_run 55 = .ok (.getfield 13, 3) := by decide +kernel
theorem dX11_run_58 : decode cX11_run 58 = .ok (.aload_n 0, 1) := by decide +kernel
theorem dX11_run_59 : decode cX11_run 59 = .ok (.getfield 119, 3) := by decide +kernel
theorem dX11_run_62 : decode cX11_run 62 = .ok (.invokevirtual 198, 3) := by decide +kernel
theorem dX11_run_65 : decode cX11_run 65 = .ok (.aload_n 0, 1) := by decide +kernel
theorem dX11_run_66 : decode cX11_run 66 = .ok (.getfield 59, 3) := by decide +kernel
theorem dX11_run_69 : decode cX11_run 69 = .ok (.aload_n 0, 1) := by decide +kernel
theorem dX11_run_70 : decode cX11_run 70 = .ok (.getfield 24, 3) := by decide +kernel
theorem dX11_run_73 : decode cX11_run 73 = .ok (.getfield 95, 3) := by decide +kernel
theorem dX11_run_76 : decode cX11_run 76 = .ok (.iload_n 1, 1) := by decide +kernel
theorem dX11_run_77 : decode cX11_run 77 = .ok (.invokevirtual 130, 3) := by decide +kernel
theorem dX11_run_80 : decode cX11_run 80 = .ok (.checkcast 134, 3) := by decide +kernel
theorem dX11_run_83 : decode cX11_run 83 = .ok (.aload_n 0, 1) := by decide +kernel
theorem dX11_run_84 : decode cX11_run 84 = .ok (.getfield 17, 3) := by decide +kernel
theorem dX11_run_87 : decode cX11_run 87 = .ok (.iload_n 2, 1) := by decide +kernel
theorem dX11_run_88 : decode cX11_run 88 = .ok (.invokevirtual 202, 3) := by decide +kernel
theorem dX11_run_91 : decode cX11_run 91 = .ok (.ireturn, 1) := by decide +kernel
abbrev cX11_ran : ByteArray := prog_1_method_21_code
def yX11_ran : MethodName := ⟨RX11, "ran", "(I)J"⟩
theorem dX11_ran_0 : decode cX11_ran 0 = .ok (.aload_n 0, 1) := by decide +kernel
theorem dX11_ran_1 : decode cX11_ran 1 = .ok (.getfield 82, 3) := by decide +kernel
theorem dX11_ran_4 : decode cX11_ran 4 = .ok (.ifCond .eq 14, 3) := by decide +kernel
theorem dX11_ran_7 : decode cX11_ran 7 = .ok (.aload_n 0, 1) := by decide +kernel
theorem dX11_ran_8 : decode cX11_ran 8 = .ok (.getfield 59, 3) := by decide +kernel
theorem dX11_ran_11 : decode cX11_ran 11 = .ok (.iload_n 1, 1) := by decide +kernel
theorem dX11_ran_12 : decode cX11_ran 12 = .ok (.invokevirtual 206, 3) := by decide +kernel
theorem dX11_ran_15 : decode cX11_ran 15 = .ok (.goto 6, 3) := by decide +kernel
theorem dX11_ran_18 : decode cX11_ran 18 = .ok (.ldc2_w 170, 3) := by decide +kernel
theorem dX11_ran_21 : decode cX11_ran 21 = .ok (.lreturn, 1) := by decide +kernel
abbrev cX12_feed : ByteArray := prog_14_method_2_code
def yX12_feed : MethodName := ⟨RX12, "feed", "(IIIII)I"⟩
theorem dX12_feed_0 : decode cX12_feed 0 = .ok (.aload_n 0, 1) := by decide +kernel
theorem dX12_feed_1 : decode cX12_feed 1 = .ok (.getfield 310, 3) := by decide +kernel
theorem dX12_feed_4 : decode cX12_feed 4 = .ok (.bipush 20, 2) := by decide +kernel
theorem dX12_feed_6 : decode cX12_feed 6 = .ok (.iadd, 1) := by decide +kernel
theorem dX12_feed_7 : decode cX12_feed 7 = .ok (.sipush 2500, 3) := by decide +kernel
theorem dX12_feed_10 : decode cX12_feed 10 = .ok (.if_icmp .le 6, 3) := by decide +kernel
theorem dX12_feed_13 : decode cX12_feed 13 = .ok (.bipush (-3), 2) := by decide +kernel
theorem dX12_feed_15 : decode cX12_feed 15 = .ok (.ireturn, 1) := by decide +kernel
theorem dX12_feed_16 : decode cX12_feed 16 = .ok (.aload_n 0, 1) := by decide +kernel
theorem dX12_feed_17 : decode cX12_feed 17 = .ok (.iload_n 1, 1) := by decide +kernel
theorem dX12_feed_18 : decode cX12_feed 18 = .ok (.invokevirtual 313, 3) := by decide +kernel
theorem dX12_feed_21 : decode cX12_feed 21 = .ok (.aload_n 0, 1) := by decide +kernel
theorem dX12_feed_22 : decode cX12_feed 22 = .ok (.iload_n 2, 1) := by decide +kernel
theorem dX12_feed_23 : decode cX12_feed 23 = .ok (.invokevirtual 313, 3) := by decide +kernel
theorem dX12_feed_26 : decode cX12_feed 26 = .ok (.aload_n 0, 1) := by decide +kernel
theorem dX12_feed_27 : decode cX12_feed 27 = .ok (.iload_n 3, 1) := by decide +kernel
theorem dX12_feed_28 : decode cX12_feed 28 = .ok (.invokevirtual 313, 3) := by decide +kernel
theorem dX12_feed_31 : decode cX12_feed 31 = .ok (.aload_n 0, 1) := by decide +kernel
theorem dX12_feed_32 : decode cX12_feed 32 = .ok (.iload 4, 2) := by decide +kernel
theorem dX12_feed_34 : decode cX12_feed 34 = .ok (.invokevirtual 313, 3) := by decide +kernel
theorem dX12_feed_37 : decode cX12_feed 37 = .ok (.aload_n 0, 1) := by decide +kernel
theorem dX12_feed_38 : decode cX12_feed 38 = .ok (.iload 5, 2) := by decide +kernel
theorem dX12_feed_40 : decode cX12_feed 40 = .ok (.invokevirtual 313, 3) := by decide +kernel
theorem dX12_feed_43 : decode cX12_feed 43 = .ok (.aload_n 0, 1) := by decide +kernel
theorem dX12_feed_44 : decode cX12_feed 44 = .ok (.getfield 310, 3) := by decide +kernel
theorem dX12_feed_47 : decode cX12_feed 47 = .ok (.ireturn, 1) := by decide +kernel
abbrev cX12_lay : ByteArray := prog_14_method_3_code
def yX12_lay : MethodName := ⟨RX12, "lay", "(I)V"⟩
theorem dX12_lay_0 : decode cX12_lay 0 = .ok (.bipush 24, 2) := by decide +kernel
theorem dX12_lay_2 : decode cX12_lay 2 = .ok (.istore_n 2, 1) := by decide +kernel
theorem dX12_lay_3 : decode cX12_lay 3 = .ok (.iload_n 2, 1) := by decide +kernel
theorem dX12_lay_4 : decode cX12_lay 4 = .ok (.ifCond .lt 35, 3) := by decide +kernel
theorem dX12_lay_7 : decode cX12_lay 7 = .ok (.aload_n 0, 1) := by decide +kernel
theorem dX12_lay_8 : decode cX12_lay 8 = .ok (.getfield 7, 3) := by decide +kernel
theorem dX12_lay_11 : decode cX12_lay 11 = .ok (.aload_n 0, 1) := by decide +kernel
theorem dX12_lay_12 : decode cX12_lay 12 = .ok (.getfield 310, 3) := by decide +kernel
theorem dX12_lay_15 : decode cX12_lay 15 = .ok (.iload_n 1, 1) := by decide +kernel
theorem dX12_lay_16 : decode cX12_lay 16 = .ok (.iload_n 2, 1) := by decide +kernel
theorem dX12_lay_17 : decode cX12_lay 17 = .ok (.ishr, 1) := by decide +kernel
theorem dX12_lay_18 : decode cX12_lay 18 = .ok (.sipush 255, 3) := by decide +kernel
theorem dX12_lay_21 : decode cX12_lay 21 = .ok (.iand, 1) := by decide +kernel
theorem dX12_lay_22 : decode cX12_lay 22 = .ok (.iastore, 1) := by decide +kernel
theorem dX12_lay_23 : decode cX12_lay 23 = .ok (.aload_n 0, 1) := by decide +kernel
theorem dX12_lay_24 : decode cX12_lay 24 = .ok (.dup, 1) := by decide +kernel
theorem dX12_lay_25 : decode cX12_lay 25 = .ok (.getfield 310, 3) := by decide +kernel
theorem dX12_lay_28 : decode cX12_lay 28 = .ok (.iconst 1, 1) := by decide +kernel
theorem dX12_lay_29 : decode cX12_lay 29 = .ok (.iadd, 1) := by decide +kernel
theorem dX12_lay_30 : decode cX12_lay 30 = .ok (.putfield 310, 3) := by decide +kernel
theorem dX12_lay_33 : decode cX12_lay 33 = .ok (.iinc 2 (-8), 3) := by decide +kernel
theorem dX12_lay_36 : decode cX12_lay 36 = .ok (.goto (-33), 3) := by decide +kernel
theorem dX12_lay_39 : decode cX12_lay 39 = .ok (.return_, 1) := by decide +kernel
abbrev cX12_cut : ByteArray := prog_14_method_4_code
def yX12_cut : MethodName := ⟨RX12, "cut", "(I)I"⟩
theorem dX12_cut_0 : decode cX12_cut 0 = .ok (.iload_n 1, 1) := by decide +kernel
theorem dX12_cut_1 : decode cX12_cut 1 = .ok (.ifCond .lt 11, 3) := by decide +kernel
theorem dX12_cut_4 : decode cX12_cut 4 = .ok (.iload_n 1, 1) := by decide +kernel
theorem dX12_cut_5 : decode cX12_cut 5 = .ok (.aload_n 0, 1) := by decide +kernel
theorem dX12_cut_6 : decode cX12_cut 6 = .ok (.getfield 310, 3) := by decide +kernel
theorem dX12_cut_9 : decode cX12_cut 9 = .ok (.if_icmp .le 5, 3) := by decide +kernel
theorem dX12_cut_12 : decode cX12_cut 12 = .ok (.iconst (-1), 1) := by decide +kernel
theorem dX12_cut_13 : decode cX12_cut 13 = .ok (.ireturn, 1) := by decide +kernel
theorem dX12_cut_14 : decode cX12_cut 14 = .ok (.aload_n 0, 1) := by decide +kernel
theorem dX12_cut_15 : decode cX12_cut 15 = .ok (.dup, 1) := by decide +kernel
theorem dX12_cut_16 : decode cX12_cut 16 = .ok (.getfield 310, 3) := by decide +kernel
theorem dX12_cut_19 : decode cX12_cut 19 = .ok (.iload_n 1, 1) := by decide +kernel
theorem dX12_cut_20 : decode cX12_cut 20 = .ok (.isub, 1) := by decide +kernel
theorem dX12_cut_21 : decode cX12_cut 21 = .ok (.putfield 310, 3) := by decide +kernel
theorem dX12_cut_24 : decode cX12_cut 24 = .ok (.aload_n 0, 1) := by decide +kernel
theorem dX12_cut_25 : decode cX12_cut 25 = .ok (.getfield 310, 3) := by decide +kernel
theorem dX12_cut_28 : decode cX12_cut 28 = .ok (.ireturn, 1) := by decide +kernel
abbrev cX12_read : ByteArray := prog_14_method_125_code
def yX12_read : MethodName := ⟨RX12, "read", "()I"⟩
theorem dX12_read_0 : decode cX12_read 0 = .ok (.aload_n 0, 1) := by decide +kernel
theorem dX12_read_1 : decode cX12_read 1 = .ok (.getfield 310, 3) := by decide +kernel
theorem dX12_read_4 : decode cX12_read 4 = .ok (.istore_n 1, 1) := by decide +kernel
theorem dX12_read_5 : decode cX12_read 5 = .ok (.aload_n 0, 1) := by decide +kernel
theorem dX12_read_6 : decode cX12_read 6 = .ok (.invokevirtual 869, 3) := by decide +kernel
theorem dX12_read_9 : decode cX12_read 9 = .ok (.aload_n 0, 1) := by decide +kernel
theorem dX12_read_10 : decode cX12_read 10 = .ok (.invokevirtual 872, 3) := by decide +kernel
theorem dX12_read_13 : decode cX12_read 13 = .ok (.istore_n 2, 1) := by decide +kernel
theorem dX12_read_14 : decode cX12_read 14 = .ok (.aload_n 0, 1) := by decide +kernel
theorem dX12_read_15 : decode cX12_read 15 = .ok (.iconst 0, 1) := by decide +kernel
theorem dX12_read_16 : decode cX12_read 16 = .ok (.putfield 310, 3) := by decide +kernel
theorem dX12_read_19 : decode cX12_read 19 = .ok (.iload_n 2, 1) := by decide +kernel
theorem dX12_read_20 : decode cX12_read 20 = .ok (.ifCond .eq 54, 3) := by decide +kernel
theorem dX12_read_23 : decode cX12_read 23 = .ok (.aload_n 0, 1) := by decide +kernel
theorem dX12_read_24 : decode cX12_read 24 = .ok (.iload_n 1, 1) := by decide +kernel
theorem dX12_read_25 : decode cX12_read 25 = .ok (.putfield 875, 3) := by decide +kernel
theorem dX12_read_28 : decode cX12_read 28 = .ok (.iconst 0, 1) := by decide +kernel
theorem dX12_read_29 : decode cX12_read 29 = .ok (.istore_n 3, 1) := by decide +kernel
theorem dX12_read_30 : decode cX12_read 30 = .ok (.iload_n 3, 1) := by decide +kernel
theorem dX12_read_31 : decode cX12_read 31 = .ok (.iload_n 1, 1) := by decide +kernel
theorem dX12_read_32 : decode cX12_read 32 = .ok (.if_icmp .ge 21, 3) := by decide +kernel
theorem dX12_read_35 : decode cX12_read 35 = .ok (.aload_n 0, 1) := by decide +kernel
theorem dX12_read_36 : decode cX12_read 36 = .ok (.getfield 255, 3) := by decide +kernel
theorem dX12_read_39 : decode cX12_read 39 = .ok (.iload_n 3, 1) := by decide +kernel
theorem dX12_read_40 : decode cX12_read 40 = .ok (.aload_n 0, 1) := by decide +kernel
theorem dX12_read_41 : decode cX12_read 41 = .ok (.getfield 7, 3) := by decide +kernel
theorem dX12_read_44 : decode cX12_read 44 = .ok (.iload_n 3, 1) := by decide +kernel
theorem dX12_read_45 : decode cX12_read 45 = .ok (.iaload, 1) := by decide +kernel
theorem dX12_read_46 : decode cX12_read 46 = .ok (.iastore, 1) := by decide +kernel
theorem dX12_read_47 : decode cX12_read 47 = .ok (.iinc 3 1, 3) := by decide +kernel
theorem dX12_read_50 : decode cX12_read 50 = .ok (.goto (-20), 3) := by decide +kernel
theorem dX12_read_53 : decode cX12_read 53 = .ok (.aload_n 0, 1) := by decide +kernel
theorem dX12_read_54 : decode cX12_read 54 = .ok (.iconst 0, 1) := by decide +kernel
theorem dX12_read_55 : decode cX12_read 55 = .ok (.putfield 675, 3) := by decide +kernel
theorem dX12_read_58 : decode cX12_read 58 = .ok (.aload_n 0, 1) := by decide +kernel
theorem dX12_read_59 : decode cX12_read 59 = .ok (.iconst 0, 1) := by decide +kernel
theorem dX12_read_60 : decode cX12_read 60 = .ok (.putfield 878, 3) := by decide +kernel
theorem dX12_read_63 : decode cX12_read 63 = .ok (.aload_n 0, 1) := by decide +kernel
theorem dX12_read_64 : decode cX12_read 64 = .ok (.bipush (-2), 2) := by decide +kernel
theorem dX12_read_66 : decode cX12_read 66 = .ok (.putfield 258, 3) := by decide +kernel
theorem dX12_read_69 : decode cX12_read 69 = .ok (.aload_n 0, 1) := by decide +kernel
theorem dX12_read_70 : decode cX12_read 70 = .ok (.getfield 516, 3) := by decide +kernel
theorem dX12_read_73 : decode cX12_read 73 = .ok (.ireturn, 1) := by decide +kernel
theorem dX12_read_74 : decode cX12_read 74 = .ok (.aload_n 0, 1) := by decide +kernel
theorem dX12_read_75 : decode cX12_read 75 = .ok (.aload_n 0, 1) := by decide +kernel
theorem dX12_read_76 : decode cX12_read 76 = .ok (.getfield 410, 3) := by decide +kernel
theorem dX12_read_79 : decode cX12_read 79 = .ok (.putfield 258, 3) := by decide +kernel
theorem dX12_read_82 : decode cX12_read 82 = .ok (.aload_n 0, 1) := by decide +kernel
theorem dX12_read_83 : decode cX12_read 83 = .ok (.getfield 407, 3) := by decide +kernel
theorem dX12_read_86 : decode cX12_read 86 = .ok (.istore_n 3, 1) := by decide +kernel
theorem dX12_read_87 : decode cX12_read 87 = .ok (.aload_n 0, 1) := by decide +kernel
theorem dX12_read_88 : decode cX12_read 88 = .ok (.aload_n 0, 1) := by decide +kernel
theorem dX12_read_89 : decode cX12_read 89 = .ok (.getfield 875, 3) := by decide +kernel
theorem dX12_read_92 : decode cX12_read 92 = .ok (.putfield 310, 3) := by decide +kernel
theorem dX12_read_95 : decode cX12_read 95 = .ok (.iconst 0, 1) := by decide +kernel
theorem dX12_read_96 : decode cX12_read 96 = .ok (.istore 4, 2) := by decide +kernel
theorem dX12_read_98 : decode cX12_read 98 = .ok (.iload 4, 2) := by decide +kernel
theorem dX12_read_100 : decode cX12_read 100 = .ok (.aload_n 0, 1) := by decide +kernel
theorem dX12_read_101 : decode cX12_read 101 = .ok (.getfield 875, 3) := by decide +kernel
theorem dX12_read_104 : decode cX12_read 104 = .ok (.if_icmp .ge 23, 3) := by decide +kernel
theorem dX12_read_107 : decode cX12_read 107 = .ok (.aload_n 0, 1) := by decide +kernel
theorem dX12_read_108 : decode cX12_read 108 = .ok (.getfield 7, 3) := by decide +kernel
theorem dX12_read_111 : decode cX12_read 111 = .ok (.iload 4, 2) := by decide +kernel
theorem dX12_read_113 : decode cX12_read 113 = .ok (.aload_n 0, 1) := by decide +kernel
theorem dX12_read_114 : decode cX12_read 114 = .ok (.getfield 255, 3) := by decide +kernel
theorem dX12_read_117 : decode cX12_read 117 = .ok (.iload 4, 2) := by decide +kernel
theorem dX12_read_119 : decode cX12_read 119 = .ok (.iaload, 1) := by decide +kernel
theorem dX12_read_120 : decode cX12_read 120 = .ok (.iastore, 1) := by decide +kernel
theorem dX12_read_121 : decode cX12_read 121 = .ok (.iinc 4 1, 3) := by decide +kernel
theorem dX12_read_124 : decode cX12_read 124 = .ok (.goto (-26), 3) := by decide +kernel
theorem dX12_read_127 : decode cX12_read 127 = .ok (.aload_n 0, 1) := by decide +kernel
theorem dX12_read_128 : decode cX12_read 128 = .ok (.invokevirtual 869, 3) := by decide +kernel
theorem dX12_read_131 : decode cX12_read 131 = .ok (.aload_n 0, 1) := by decide +kernel
theorem dX12_read_132 : decode cX12_read 132 = .ok (.invokevirtual 872, 3) := by decide +kernel
theorem dX12_read_135 : decode cX12_read 135 = .ok (.istore 4, 2) := by decide +kernel
theorem dX12_read_137 : decode cX12_read 137 = .ok (.aload_n 0, 1) := by decide +kernel
theorem dX12_read_138 : decode cX12_read 138 = .ok (.iconst 0, 1) := by decide +kernel
theorem dX12_read_139 : decode cX12_read 139 = .ok (.putfield 310, 3) := by decide +kernel
theorem dX12_read_142 : decode cX12_read 142 = .ok (.aload_n 0, 1) := by decide +kernel
theorem dX12_read_143 : decode cX12_read 143 = .ok (.getfield 675, 3) := by decide +kernel
theorem dX12_read_146 : decode cX12_read 146 = .ok (.ifCond .eq 7, 3) := by decide +kernel
theorem dX12_read_149 : decode cX12_read 149 = .ok (.aload_n 0, 1) := by decide +kernel
theorem dX12_read_150 : decode cX12_read 150 = .ok (.invokevirtual 881, 3) := by decide +kernel
theorem dX12_read_153 : decode cX12_read 153 = .ok (.bipush (-10), 2) := by decide +kernel
theorem dX12_read_155 : decode cX12_read 155 = .ok (.iload_n 3, 1) := by decide +kernel
theorem dX12_read_156 : decode cX12_read 156 = .ok (.isub, 1) := by decide +kernel
theorem dX12_read_157 : decode cX12_read 157 = .ok (.ireturn, 1) := by decide +kernel
abbrev cX12_lexer : ByteArray := prog_14_method_8_code
def yX12_lexer : MethodName := ⟨RX12, "lexer", "()V"⟩
theorem dX12_lexer_0 : decode cX12_lexer 0 = .ok (.aload_n 0, 1) := by decide +kernel
theorem dX12_lexer_1 : decode cX12_lexer 1 = .ok (.aload_n 0, 1) := by decide +kernel
theorem dX12_lexer_2 : decode cX12_lexer 2 = .ok (.getfield 310, 3) := by decide +kernel
theorem dX12_lexer_5 : decode cX12_lexer 5 = .ok (.putfield 317, 3) := by decide +kernel
theorem dX12_lexer_8 : decode cX12_lexer 8 = .ok (.aload_n 0, 1) := by decide +kernel
theorem dX12_lexer_9 : decode cX12_lexer 9 = .ok (.iconst 0, 1) := by decide +kernel
theorem dX12_lexer_10 : decode cX12_lexer 10 = .ok (.putfield 320, 3) := by decide +kernel
theorem dX12_lexer_13 : decode cX12_lexer 13 = .ok (.aload_n 0, 1) := by decide +kernel
theorem dX12_lexer_14 : decode cX12_lexer 14 = .ok (.iconst 0, 1) := by decide +kernel
theorem dX12_lexer_15 : decode cX12_lexer 15 = .ok (.putfield 323, 3) := by decide +kernel
theorem dX12_lexer_18 : decode cX12_lexer 18 = .ok (.iconst 1, 1) := by decide +kernel
theorem dX12_lexer_19 : decode cX12_lexer 19 = .ok (.istore_n 1, 1) := by decide +kernel
theorem dX12_lexer_20 : decode cX12_lexer 20 = .ok (.iload_n 1, 1) := by decide +kernel
theorem dX12_lexer_21 : decode cX12_lexer 21 = .ok (.ifCond .eq 340, 3) := by decide +kernel
theorem dX12_lexer_24 : decode cX12_lexer 24 = .ok (.iconst 0, 1) := by decide +kernel
theorem dX12_lexer_25 : decode cX12_lexer 25 = .ok (.istore_n 2, 1) := by decide +kernel
theorem dX12_lexer_26 : decode cX12_lexer 26 = .ok (.aload_n 0, 1) := by decide +kernel
theorem dX12_lexer_27 : decode cX12_lexer 27 = .ok (.getfield 320, 3) := by decide +kernel
theorem dX12_lexer_30 : decode cX12_lexer 30 = .ok (.aload_n 0, 1) := by decide +kernel
theorem dX12_lexer_31 : decode cX12_lexer 31 = .ok (.getfield 317, 3) := by decide +kernel
theorem dX12_lexer_34 : decode cX12_lexer 34 = .ok (.if_icmp .ge 143, 3) := by decide +kernel
theorem dX12_lexer_37 : decode cX12_lexer 37 = .ok (.iload_n 2, 1) := by decide +kernel
theorem dX12_lexer_38 : decode cX12_lexer 38 = .ok (.ifCond .ne 88, 3) := by decide +kernel
theorem dX12_lexer_41 : decode cX12_lexer 41 = .ok (.aload_n 0, 1) := by decide +kernel
theorem dX12_lexer_42 : decode cX12_lexer 42 = .ok (.getfield 7, 3) := by decide +kernel
theorem dX12_lexer_45 : decode cX12_lexer 45 = .ok (.aload_n 0, 1) := by decide +kernel
theorem dX12_lexer_46 : decode cX12_lexer 46 = .ok (.getfield 320, 3) := by decide +kernel
theorem dX12_lexer_49 : decode cX12_lexer 49 = .ok (.iaload, 1) := by decide +kernel
theorem dX12_lexer_50 : decode cX12_lexer 50 = .ok (.bipush 9, 2) := by decide +kernel
theorem dX12_lexer_52 : decode cX12_lexer 52 = .ok (.if_icmp .eq 74, 3) := by decide +kernel
theorem dX12_lexer_55 : decode cX12_lexer 55 = .ok (.aload_n 0, 1) := by decide +kernel
theorem dX12_lexer_56 : decode cX12_lexer 56 = .ok (.getfield 7, 3) := by decide +kernel
theorem dX12_lexer_59 : decode cX12_lexer 59 = .ok (.aload_n 0, 1) := by decide +kernel
theorem dX12_lexer_60 : decode cX12_lexer 60 = .ok (.getfield 320, 3) := by decide +kernel
theorem dX12_lexer_63 : decode cX12_lexer 63 = .ok (.iaload, 1) := by decide +kernel
theorem dX12_lexer_64 : decode cX12_lexer 64 = .ok (.bipush 10, 2) := by decide +kernel
theorem dX12_lexer_66 : decode cX12_lexer 66 = .ok (.if_icmp .eq 60, 3) := by decide +kernel
theorem dX12_lexer_69 : decode cX12_lexer 69 = .ok (.aload_n 0, 1) := by decide +kernel
theorem dX12_lexer_70 : decode cX12_lexer 70 = .ok (.getfield 7, 3) := by decide +kernel
theorem dX12_lexer_73 : decode cX12_lexer 73 = .ok (.aload_n 0, 1) := by decide +kernel
theorem dX12_lexer_74 : decode cX12_lexer 74 = .ok (.getfield 320, 3) := by decide +kernel
theorem dX12_lexer_77 : decode cX12_lexer 77 = .ok (.iaload, 1) := by decide +kernel
theorem dX12_lexer_78 : decode cX12_lexer 78 = .ok (.bipush 13, 2) := by decide +kernel
theorem dX12_lexer_80 : decode cX12_lexer 80 = .ok (.if_icmp .eq 46, 3) := by decide +kernel
theorem dX12_lexer_83 : decode cX12_lexer 83 = .ok (.aload_n 0, 1) := by decide +kernel
theorem dX12_lexer_84 : decode cX12_lexer 84 = .ok (.getfield 7, 3) := by decide +kernel
theorem dX12_lexer_87 : decode cX12_lexer 87 = .ok (.aload_n 0, 1) := by decide +kernel
theorem dX12_lexer_88 : decode cX12_lexer 88 = .ok (.getfield 320, 3) := by decide +kernel
theorem dX12_lexer_91 : decode cX12_lexer 91 = .ok (.iaload, 1) := by decide +kernel
theorem dX12_lexer_92 : decode cX12_lexer 92 = .ok (.bipush 32, 2) := by decide +kernel
theorem dX12_lexer_94 : decode cX12_lexer 94 = .ok (.if_icmp .eq 32, 3) := by decide +kernel
theorem dX12_lexer_97 : decode cX12_lexer 97 = .ok (.aload_n 0, 1) := by decide +kernel
theorem dX12_lexer_98 : decode cX12_lexer 98 = .ok (.getfield 7, 3) := by decide +kernel
theorem dX12_lexer_101 : decode cX12_lexer 101 = .ok (.aload_n 0, 1) := by decide +kernel
theorem dX12_lexer_102 : decode cX12_lexer 102 = .ok (.getfield 320, 3) := by decide +kernel
theorem dX12_lexer_105 : decode cX12_lexer 105 = .ok (.iaload, 1) := by decide +kernel
theorem dX12_lexer_106 : decode cX12_lexer 106 = .ok (.bipush 47, 2) := by decide +kernel
theorem dX12_lexer_108 : decode cX12_lexer 108 = .ok (.if_icmp .ne 69, 3) := by decide +kernel
theorem dX12_lexer_111 : decode cX12_lexer 111 = .ok (.aload_n 0, 1) := by decide +kernel
theorem dX12_lexer_112 : decode cX12_lexer 112 = .ok (.aload_n 0, 1) := by decide +kernel
theorem dX12_lexer_113 : decode cX12_lexer 113 = .ok (.getfield 320, 3) := by decide +kernel
theorem dX12_lexer_116 : decode cX12_lexer 116 = .ok (.iconst 1, 1) := by decide +kernel
theorem dX12_lexer_117 : decode cX12_lexer 117 = .ok (.iadd, 1) := by decide +kernel
theorem dX12_lexer_118 : decode cX12_lexer 118 = .ok (.invokevirtual 326, 3) := by decide +kernel
theorem dX12_lexer_121 : decode cX12_lexer 121 = .ok (.bipush 47, 2) := by decide +kernel
theorem dX12_lexer_123 : decode cX12_lexer 123 = .ok (.if_icmp .ne 54, 3) := by decide +kernel
theorem dX12_lexer_126 : decode cX12_lexer 126 = .ok (.aload_n 0, 1) := by decide +kernel
theorem dX12_lexer_127 : decode cX12_lexer 127 = .ok (.getfield 7, 3) := by decide +kernel
theorem dX12_lexer_130 : decode cX12_lexer 130 = .ok (.aload_n 0, 1) := by decide +kernel
theorem dX12_lexer_131 : decode cX12_lexer 131 = .ok (.getfield 320, 3) := by decide +kernel
theorem dX12_lexer_134 : decode cX12_lexer 134 = .ok (.iaload, 1) := by decide +kernel
theorem dX12_lexer_135 : decode cX12_lexer 135 = .ok (.bipush 10, 2) := by decide +kernel
theorem dX12_lexer_137 : decode cX12_lexer 137 = .ok (.if_icmp .eq 25, 3) := by decide +kernel
theorem dX12_lexer_140 : decode cX12_lexer 140 = .ok (.iload_n 2, 1) := by decide +kernel
theorem dX12_lexer_141 : decode cX12_lexer 141 = .ok (.ifCond .ne 17, 3) := by decide +kernel
theorem dX12_lexer_144 : decode cX12_lexer 144 = .ok (.aload_n 0, 1) := by decide +kernel
theorem dX12_lexer_145 : decode cX12_lexer 145 = .ok (.getfield 7, 3) := by decide +kernel
theorem dX12_lexer_148 : decode cX12_lexer 148 = .ok (.aload_n 0, 1) := by decide +kernel
theorem dX12_lexer_149 : decode cX12_lexer 149 = .ok (.getfield 320, 3) := by decide +kernel
theorem dX12_lexer_152 : decode cX12_lexer 152 = .ok (.iaload, 1) := by decide +kernel
theorem dX12_lexer_153 : decode cX12_lexer 153 = .ok (.bipush 47, 2) := by decide +kernel
theorem dX12_lexer_155 : decode cX12_lexer 155 = .ok (.if_icmp .ne 7, 3) := by decide +kernel
theorem dX12_lexer_158 : decode cX12_lexer 158 = .ok (.iconst 1, 1) := by decide +kernel
theorem dX12_lexer_159 : decode cX12_lexer 159 = .ok (.goto 4, 3) := by decide +kernel
theorem dX12_lexer_162 : decode cX12_lexer 162 = .ok (.iconst 0, 1) := by decide +kernel
theorem dX12_lexer_163 : decode cX12_lexer 163 = .ok (.istore_n 2, 1) := by decide +kernel
theorem dX12_lexer_164 : decode cX12_lexer 164 = .ok (.aload_n 0, 1) := by decide +kernel
theorem dX12_lexer_165 : decode cX12_lexer 165 = .ok (.dup, 1) := by decide +kernel
theorem dX12_lexer_166 : decode cX12_lexer 166 = .ok (.getfield 320, 3) := by decide +kernel
theorem dX12_lexer_169 : decode cX12_lexer 169 = .ok (.iconst 1, 1) := by decide +kernel
theorem dX12_lexer_170 : decode cX12_lexer 170 = .ok (.iadd, 1) := by decide +kernel
theorem dX12_lexer_171 : decode cX12_lexer 171 = .ok (.putfield 320, 3) := by decide +kernel
theorem dX12_lexer_174 : decode cX12_lexer 174 = .ok (.goto (-148), 3) := by decide +kernel
theorem dX12_lexer_177 : decode cX12_lexer 177 = .ok (.aload_n 0, 1) := by decide +kernel
theorem dX12_lexer_178 : decode cX12_lexer 178 = .ok (.getfield 323, 3) := by decide +kernel
theorem dX12_lexer_181 : decode cX12_lexer 181 = .ok (.istore_n 3, 1) := by decide +kernel
theorem dX12_lexer_182 : decode cX12_lexer 182 = .ok (.aload_n 0, 1) := by decide +kernel
theorem dX12_lexer_183 : decode cX12_lexer 183 = .ok (.getfield 16, 3) := by decide +kernel
theorem dX12_lexer_186 : decode cX12_lexer 186 = .ok (.iload_n 3, 1) := by decide +kernel
theorem dX12_lexer_187 : decode cX12_lexer 187 = .ok (.aload_n 0, 1) := by decide +kernel
theorem dX12_lexer_188 : decode cX12_lexer 188 = .ok (.getfield 320, 3) := by decide +kernel
theorem dX12_lexer_191 : decode cX12_lexer 191 = .ok (.iastore, 1) := by decide +kernel
theorem dX12_lexer_192 : decode cX12_lexer 192 = .ok (.aload_n 0, 1) := by decide +kernel
theorem dX12_lexer_193 : decode cX12_lexer 193 = .ok (.getfield 22, 3) := by decide +kernel
theorem dX12_lexer_196 : decode cX12_lexer 196 = .ok (.iload_n 3, 1) := by decide +kernel
theorem dX12_lexer_197 : decode cX12_lexer 197 = .ok (.iconst 0, 1) := by decide +kernel
theorem dX12_lexer_198 : decode cX12_lexer 198 = .ok (.iastore, 1) := by decide +kernel
theorem dX12_lexer_199 : decode cX12_lexer 199 = .ok (.aload_n 0, 1) := by decide +kernel
theorem dX12_lexer_200 : decode cX12_lexer 200 = .ok (.getfield 320, 3) := by decide +kernel
theorem dX12_lexer_203 : decode cX12_lexer 203 = .ok (.aload_n 0, 1) := by decide +kernel
theorem dX12_lexer_204 : decode cX12_lexer 204 = .ok (.getfield 317, 3) := by decide +kernel
theorem dX12_lexer_207 : decode cX12_lexer 207 = .ok (.if_icmp .ne 13, 3) := by decide +kernel
theorem dX12_lexer_210 : decode cX12_lexer 210 = .ok (.aload_n 0, 1) := by decide +kernel
theorem dX12_lexer_211 : decode cX12_lexer 211 = .ok (.getfield 13, 3) := by decide +kernel
theorem dX12_lexer_214 : decode cX12_lexer 214 = .ok (.iload_n 3, 1) := by decide +kernel
theorem dX12_lexer_215 : decode cX12_lexer 215 = .ok (.iconst 0, 1) := by decide +kernel
theorem dX12_lexer_216 : decode cX12_lexer 216 = .ok (.iastore, 1) := by decide +kernel
theorem dX12_lexer_217 : decode cX12_lexer 217 = .ok (.goto 78, 3) := by decide +kernel
theorem dX12_lexer_220 : decode cX12_lexer 220 = .ok (.aload_n 0, 1) := by decide +kernel
theorem dX12_lexer_221 : decode cX12_lexer 221 = .ok (.aload_n 0, 1) := by decide +kernel
theorem dX12_lexer_222 : decode cX12_lexer 222 = .ok (.getfield 7, 3) := by decide +kernel
theorem dX12_lexer_225 : decode cX12_lexer 225 = .ok (.aload_n 0, 1) := by decide +kernel
theorem dX12_lexer_226 : decode cX12_lexer 226 = .ok (.getfield 320, 3) := by decide +kernel
theorem dX12_lexer_229 : decode cX12_lexer 229 = .ok (.iaload, 1) := by decide +kernel
theorem dX12_lexer_230 : decode cX12_lexer 230 = .ok (.invokevirtual 330, 3) := by decide +kernel
theorem dX12_lexer_233 : decode cX12_lexer 233 = .ok (.ifCond .eq 11, 3) := by decide +kernel
theorem dX12_lexer_236 : decode cX12_lexer 236 = .ok (.aload_n 0, 1) := by decide +kernel
theorem dX12_lexer_237 : decode cX12_lexer 237 = .ok (.iload_n 3, 1) := by decide +kernel
theorem dX12_lexer_238 : decode cX12_lexer 238 = .ok (.invokevirtual 334, 3) := by decide +kernel
theorem dX12_lexer_241 : decode cX12_lexer 241 = .ok (.goto 54, 3) := by decide +kernel
theorem dX12_lexer_244 : decode cX12_lexer 244 = .ok (.aload_n 0, 1) := by decide +kernel
theorem dX12_lexer_245 : decode cX12_lexer 245 = .ok (.aload_n 0, 1) := by decide +kernel
theorem dX12_lexer_246 : decode cX12_lexer 246 = .ok (.getfield 7, 3) := by decide +kernel
theorem dX12_lexer_249 : decode cX12_lexer 249 = .ok (.aload_n 0, 1) := by decide +kernel
theorem dX12_lexer_250 : decode cX12_lexer 250 = .ok (.getfield 320, 3) := by decide +kernel
theorem dX12_lexer_253 : decode cX12_lexer 253 = .ok (.iaload, 1) := by decide +kernel
theorem dX12_lexer_254 : decode cX12_lexer 254 = .ok (.invokevirtual 337, 3) := by decide +kernel
theorem dX12_lexer_257 : decode cX12_lexer 257 = .ok (.ifCond .eq 11, 3) := by decide +kernel
theorem dX12_lexer_260 : decode cX12_lexer 260 = .ok (.aload_n 0, 1) := by decide +kernel
theorem dX12_lexer_261 : decode cX12_lexer 261 = .ok (.iload_n 3, 1) := by decide +kernel
theorem dX12_lexer_262 : decode cX12_lexer 262 = .ok (.invokevirtual 340, 3) := by decide +kernel
theorem dX12_lexer_265 : decode cX12_lexer 265 = .ok (.goto 30, 3) := by decide +kernel
theorem dX12_lexer_268 : decode cX12_lexer 268 = .ok (.aload_n 0, 1) := by decide +kernel
theorem dX12_lexer_269 : decode cX12_lexer 269 = .ok (.getfield 7, 3) := by decide +kernel
theorem dX12_lexer_272 : decode cX12_lexer 272 = .ok (.aload_n 0, 1) := by decide +kernel
theorem dX12_lexer_273 : decode cX12_lexer 273 = .ok (.getfield 320, 3) := by decide +kernel
theorem dX12_lexer_276 : decode cX12_lexer 276 = .ok (.iaload, 1) := by decide +kernel
theorem dX12_lexer_277 : decode cX12_lexer 277 = .ok (.bipush 39, 2) := by decide +kernel
theorem dX12_lexer_279 : decode cX12_lexer 279 = .ok (.if_icmp .ne 11, 3) := by decide +kernel
theorem dX12_lexer_282 : decode cX12_lexer 282 = .ok (.aload_n 0, 1) := by decide +kernel
theorem dX12_lexer_283 : decode cX12_lexer 283 = .ok (.iload_n 3, 1) := by decide +kernel
theorem dX12_lexer_284 : decode cX12_lexer 284 = .ok (.invokevirtual 343, 3) := by decide +kernel
theorem dX12_lexer_287 : decode cX12_lexer 287 = .ok (.goto 8, 3) := by decide +kernel
theorem dX12_lexer_290 : decode cX12_lexer 290 = .ok (.aload_n 0, 1) := by decide +kernel
theorem dX12_lexer_291 : decode cX12_lexer 291 = .ok (.iload_n 3, 1) := by decide +kernel
theorem dX12_lexer_292 : decode cX12_lexer 292 = .ok (.invokevirtual 346, 3) := by decide +kernel
theorem dX12_lexer_295 : decode cX12_lexer 295 = .ok (.aload_n 0, 1) := by decide +kernel
theorem dX12_lexer_296 : decode cX12_lexer 296 = .ok (.getfield 19, 3) := by decide +kernel
theorem dX12_lexer_299 : decode cX12_lexer 299 = .ok (.iload_n 3, 1) := by decide +kernel
theorem dX12_lexer_300 : decode cX12_lexer 300 = .ok (.aload_n 0, 1) := by decide +kernel
theorem dX12_lexer_301 : decode cX12_lexer 301 = .ok (.getfield 320, 3) := by decide +kernel
theorem dX12_lexer_304 : decode cX12_lexer 304 = .ok (.aload_n 0, 1) := by decide +kernel
theorem dX12_lexer_305 : decode cX12_lexer 305 = .ok (.getfield 16, 3) := by decide +kernel
theorem dX12_lexer_308 : decode cX12_lexer 308 = .ok (.iload_n 3, 1) := by decide +kernel
theorem dX12_lexer_309 : decode cX12_lexer 309 = .ok (.iaload, 1) := by decide +kernel
theorem dX12_lexer_310 : decode cX12_lexer 310 = .ok (.isub, 1) := by decide +kernel
theorem dX12_lexer_311 : decode cX12_lexer 311 = .ok (.iastore, 1) := by decide +kernel
theorem dX12_lexer_312 : decode cX12_lexer 312 = .ok (.aload_n 0, 1) := by decide +kernel
theorem dX12_lexer_313 : decode cX12_lexer 313 = .ok (.dup, 1) := by decide +kernel
theorem dX12_lexer_314 : decode cX12_lexer 314 = .ok (.getfield 323, 3) := by decide +kernel
theorem dX12_lexer_317 : decode cX12_lexer 317 = .ok (.iconst 1, 1) := by decide +kernel
theorem dX12_lexer_318 : decode cX12_lexer 318 = .ok (.iadd, 1) := by decide +kernel
theorem dX12_lexer_319 : decode cX12_lexer 319 = .ok (.putfield 323, 3) := by decide +kernel
theorem dX12_lexer_322 : decode cX12_lexer 322 = .ok (.aload_n 0, 1) := by decide +kernel
theorem dX12_lexer_323 : decode cX12_lexer 323 = .ok (.getfield 13, 3) := by decide +kernel
theorem dX12_lexer_326 : decode cX12_lexer 326 = .ok (.iload_n 3, 1) := by decide +kernel
theorem dX12_lexer_327 : decode cX12_lexer 327 = .ok (.iaload, 1) := by decide +kernel
theorem dX12_lexer_328 : decode cX12_lexer 328 = .ok (.ifCond .eq 28, 3) := by decide +kernel
theorem dX12_lexer_331 : decode cX12_lexer 331 = .ok (.aload_n 0, 1) := by decide +kernel
theorem dX12_lexer_332 : decode cX12_lexer 332 = .ok (.getfield 13, 3) := by decide +kernel
theorem dX12_lexer_335 : decode cX12_lexer 335 = .ok (.iload_n 3, 1) := by decide +kernel
theorem dX12_lexer_336 : decode cX12_lexer 336 = .ok (.iaload, 1) := by decide +kernel
theorem dX12_lexer_337 : decode cX12_lexer 337 = .ok (.bipush 6, 2) := by decide +kernel
theorem dX12_lexer_339 : decode cX12_lexer 339 = .ok (.if_icmp .eq 17, 3) := by decide +kernel
theorem dX12_lexer_342 : decode cX12_lexer 342 = .ok (.aload_n 0, 1) := by decide +kernel
theorem dX12_lexer_343 : decode cX12_lexer 343 = .ok (.getfield 323, 3) := by decide +kernel
theorem dX12_lexer_346 : decode cX12_lexer 346 = .ok (.sipush 2590, 3) := by decide +kernel
theorem dX12_lexer_349 : decode cX12_lexer 349 = .ok (.if_icmp .ge 7, 3) := by decide +kernel
theorem dX12_lexer_352 : decode cX12_lexer 352 = .ok (.iconst 1, 1) := by decide +kernel
theorem dX12_lexer_353 : decode cX12_lexer 353 = .ok (.goto 4, 3) := by decide +kernel
theorem dX12_lexer_356 : decode cX12_lexer 356 = .ok (.iconst 0, 1) := by decide +kernel
theorem dX12_lexer_357 : decode cX12_lexer 357 = .ok (.istore_n 1, 1) := by decide +kernel
theorem dX12_lexer_358 : decode cX12_lexer 358 = .ok (.goto (-338), 3) := by decide +kernel
theorem dX12_lexer_361 : decode cX12_lexer 361 = .ok (.return_, 1) := by decide +kernel
abbrev cX12_parse : ByteArray := prog_14_method_39_code
def yX12_parse : MethodName := ⟨RX12, "parse", "()Z"⟩
theorem dX12_parse_0 : decode cX12_parse 0 = .ok (.aload_n 0, 1) := by decide +kernel
theorem dX12_parse_1 : decode cX12_parse 1 = .ok (.iconst 0, 1) := by decide +kernel
theorem dX12_parse_2 : decode cX12_parse 2 = .ok (.putfield 516, 3) := by decide +kernel
theorem dX12_parse_5 : decode cX12_parse 5 = .ok (.aload_n 0, 1) := by decide +kernel
theorem dX12_parse_6 : decode cX12_parse 6 = .ok (.iconst 0, 1) := by decide +kernel
theorem dX12_parse_7 : decode cX12_parse 7 = .ok (.putfield 519, 3) := by decide +kernel
theorem dX12_parse_10 : decode cX12_parse 10 = .ok (.aload_n 0, 1) := by decide +kernel
theorem dX12_parse_11 : decode cX12_parse 11 = .ok (.iconst 0, 1) := by decide +kernel
theorem dX12_parse_12 : decode cX12_parse 12 = .ok (.putfield 510, 3) := by decide +kernel
theorem dX12_parse_15 : decode cX12_parse 15 = .ok (.aload_n 0, 1) := by decide +kernel
theorem dX12_parse_16 : decode cX12_parse 16 = .ok (.iconst 0, 1) := by decide +kernel
theorem dX12_parse_17 : decode cX12_parse 17 = .ok (.putfield 433, 3) := by decide +kernel
theorem dX12_parse_20 : decode cX12_parse 20 = .ok (.aload_n 0, 1) := by decide +kernel
theorem dX12_parse_21 : decode cX12_parse 21 = .ok (.iconst 0, 1) := by decide +kernel
theorem dX12_parse_22 : decode cX12_parse 22 = .ok (.putfield 413, 3) := by decide +kernel
theorem dX12_parse_25 : decode cX12_parse 25 = .ok (.aload_n 0, 1) := by decide +kernel
theorem dX12_parse_26 : decode cX12_parse 26 = .ok (.iconst 0, 1) := by decide +kernel
theorem dX12_parse_27 : decode cX12_parse 27 = .ok (.putfield 407, 3) := by decide +kernel
theorem dX12_parse_30 : decode cX12_parse 30 = .ok (.aload_n 0, 1) := by decide +kernel
theorem dX12_parse_31 : decode cX12_parse 31 = .ok (.iconst 0, 1) := by decide +kernel
theorem dX12_parse_32 : decode cX12_parse 32 = .ok (.putfield 430, 3) := by decide +kernel
theorem dX12_parse_35 : decode cX12_parse 35 = .ok (.aload_n 0, 1) := by decide +kernel
theorem dX12_parse_36 : decode cX12_parse 36 = .ok (.getfield 13, 3) := by decide +kernel
theorem dX12_parse_39 : decode cX12_parse 39 = .ok (.aload_n 0, 1) := by decide +kernel
theorem dX12_parse_40 : decode cX12_parse 40 = .ok (.getfield 413, 3) := by decide +kernel
theorem dX12_parse_43 : decode cX12_parse 43 = .ok (.iaload, 1) := by decide +kernel
theorem dX12_parse_44 : decode cX12_parse 44 = .ok (.ifCond .eq 12, 3) := by decide +kernel
theorem dX12_parse_47 : decode cX12_parse 47 = .ok (.aload_n 0, 1) := by decide +kernel
theorem dX12_parse_48 : decode cX12_parse 48 = .ok (.invokevirtual 522, 3) := by decide +kernel
theorem dX12_parse_51 : decode cX12_parse 51 = .ok (.ifCond .ne (-16), 3) := by decide +kernel
theorem dX12_parse_54 : decode cX12_parse 54 = .ok (.iconst 0, 1) := by decide +kernel
theorem dX12_parse_55 : decode cX12_parse 55 = .ok (.ireturn, 1) := by decide +kernel
theorem dX12_parse_56 : decode cX12_parse 56 = .ok (.iconst 1, 1) := by decide +kernel
theorem dX12_parse_57 : decode cX12_parse 57 = .ok (.ireturn, 1) := by decide +kernel
abbrev cX12_place : ByteArray := prog_14_method_126_code
def yX12_place : MethodName := ⟨RX12, "place", "()I"⟩
theorem dX12_place_0 : decode cX12_place 0 = .ok (.aload_n 0, 1) := by decide +kernel
theorem dX12_place_1 : decode cX12_place 1 = .ok (.getfield 258, 3) := by decide +kernel
theorem dX12_place_4 : decode cX12_place 4 = .ok (.ireturn, 1) := by decide +kernel
abbrev cX12_judge : ByteArray := prog_14_method_128_code
def yX12_judge : MethodName := ⟨RX12, "judge", "()I"⟩
theorem dX12_judge_0 : decode cX12_judge 0 = .ok (.aload_n 0, 1) := by decide +kernel
theorem dX12_judge_1 : decode cX12_judge 1 = .ok (.invokevirtual 884, 3) := by decide +kernel
theorem dX12_judge_4 : decode cX12_judge 4 = .ok (.istore_n 1, 1) := by decide +kernel
theorem dX12_judge_5 : decode cX12_judge 5 = .ok (.aload_n 0, 1) := by decide +kernel
theorem dX12_judge_6 : decode cX12_judge 6 = .ok (.iload_n 1, 1) := by decide +kernel
theorem dX12_judge_7 : decode cX12_judge 7 = .ok (.ifCond .eq 8, 3) := by decide +kernel
theorem dX12_judge_10 : decode cX12_judge 10 = .ok (.bipush (-2), 2) := by decide +kernel
theorem dX12_judge_12 : decode cX12_judge 12 = .ok (.goto 7, 3) := by decide +kernel
theorem dX12_judge_15 : decode cX12_judge 15 = .ok (.aload_n 0, 1) := by decide +kernel
theorem dX12_judge_16 : decode cX12_judge 16 = .ok (.getfield 637, 3) := by decide +kernel
theorem dX12_judge_19 : decode cX12_judge 19 = .ok (.putfield 258, 3) := by decide +kernel
theorem dX12_judge_22 : decode cX12_judge 22 = .ok (.aload_n 0, 1) := by decide +kernel
theorem dX12_judge_23 : decode cX12_judge 23 = .ok (.getfield 634, 3) := by decide +kernel
theorem dX12_judge_26 : decode cX12_judge 26 = .ok (.ireturn, 1) := by decide +kernel
abbrev cX12_isGood : ByteArray := prog_14_method_127_code
def yX12_isGood : MethodName := ⟨RX12, "isGood", "()Z"⟩
theorem dX12_isGood_0 : decode cX12_isGood 0 = .ok (.aload_n 0, 1) := by decide +kernel
theorem dX12_isGood_1 : decode cX12_isGood 1 = .ok (.getfield 675, 3) := by decide +kernel
theorem dX12_isGood_4 : decode cX12_isGood 4 = .ok (.ifCond .ne 7, 3) := by decide +kernel
theorem dX12_isGood_7 : decode cX12_isGood 7 = .ok (.aload_n 0, 1) := by decide +kernel
theorem dX12_isGood_8 : decode cX12_isGood 8 = .ok (.invokevirtual 881, 3) := by decide +kernel
theorem dX12_isGood_11 : decode cX12_isGood 11 = .ok (.aload_n 0, 1) := by decide +kernel
theorem dX12_isGood_12 : decode cX12_isGood 12 = .ok (.getfield 634, 3) := by decide +kernel
theorem dX12_isGood_15 : decode cX12_isGood 15 = .ok (.ifCond .ne 7, 3) := by decide +kernel
theorem dX12_isGood_18 : decode cX12_isGood 18 = .ok (.iconst 1, 1) := by decide +kernel
theorem dX12_isGood_19 : decode cX12_isGood 19 = .ok (.goto 4, 3) := by decide +kernel
theorem dX12_isGood_22 : decode cX12_isGood 22 = .ok (.iconst 0, 1) := by decide +kernel
theorem dX12_isGood_23 : decode cX12_isGood 23 = .ok (.ireturn, 1) := by decide +kernel
abbrev cX12_judgeAll : ByteArray := prog_14_method_84_code
def yX12_judgeAll : MethodName := ⟨RX12, "judgeAll", "()V"⟩
theorem dX12_judgeAll_0 : decode cX12_judgeAll 0 = .ok (.aload_n 0, 1) := by decide +kernel
theorem dX12_judgeAll_1 : decode cX12_judgeAll 1 = .ok (.iconst 1, 1) := by decide +kernel
theorem dX12_judgeAll_2 : decode cX12_judgeAll 2 = .ok (.putfield 675, 3) := by decide +kernel
theorem dX12_judgeAll_5 : decode cX12_judgeAll 5 = .ok (.aload_n 0, 1) := by decide +kernel
theorem dX12_judgeAll_6 : decode cX12_judgeAll 6 = .ok (.iconst 0, 1) := by decide +kernel
theorem dX12_judgeAll_7 : decode cX12_judgeAll 7 = .ok (.putfield 634, 3) := by decide +kernel
theorem dX12_judgeAll_10 : decode cX12_judgeAll 10 = .ok (.aload_n 0, 1) := by decide +kernel
theorem dX12_judgeAll_11 : decode cX12_judgeAll 11 = .ok (.bipush (-2), 2) := by decide +kernel
theorem dX12_judgeAll_13 : decode cX12_judgeAll 13 = .ok (.putfield 637, 3) := by decide +kernel
theorem dX12_judgeAll_16 : decode cX12_judgeAll 16 = .ok (.aload_n 0, 1) := by decide +kernel
theorem dX12_judgeAll_17 : decode cX12_judgeAll 17 = .ok (.iconst 0, 1) := by decide +kernel
theorem dX12_judgeAll_18 : decode cX12_judgeAll 18 = .ok (.putfield 659, 3) := by decide +kernel
theorem dX12_judgeAll_21 : decode cX12_judgeAll 21 = .ok (.aload_n 0, 1) := by decide +kernel
theorem dX12_judgeAll_22 : decode cX12_judgeAll 22 = .ok (.iconst 0, 1) := by decide +kernel
theorem dX12_judgeAll_23 : decode cX12_judgeAll 23 = .ok (.putfield 656, 3) := by decide +kernel
theorem dX12_judgeAll_26 : decode cX12_judgeAll 26 = .ok (.aload_n 0, 1) := by decide +kernel
theorem dX12_judgeAll_27 : decode cX12_judgeAll 27 = .ok (.iconst 0, 1) := by decide +kernel
theorem dX12_judgeAll_28 : decode cX12_judgeAll 28 = .ok (.putfield 640, 3) := by decide +kernel
theorem dX12_judgeAll_31 : decode cX12_judgeAll 31 = .ok (.iconst 0, 1) := by decide +kernel
theorem dX12_judgeAll_32 : decode cX12_judgeAll 32 = .ok (.istore_n 1, 1) := by decide +kernel
theorem dX12_judgeAll_33 : decode cX12_judgeAll 33 = .ok (.iload_n 1, 1) := by decide +kernel
theorem dX12_judgeAll_34 : decode cX12_judgeAll 34 = .ok (.aload_n 0, 1) := by decide +kernel
theorem dX12_judgeAll_35 : decode cX12_judgeAll 35 = .ok (.getfield 323, 3) := by decide +kernel
theorem dX12_judgeAll_38 : decode cX12_judgeAll 38 = .ok (.if_icmp .ge 17, 3) := by decide +kernel
theorem dX12_judgeAll_41 : decode cX12_judgeAll 41 = .ok (.aload_n 0, 1) := by decide +kernel
theorem dX12_judgeAll_42 : decode cX12_judgeAll 42 = .ok (.getfield 180, 3) := by decide +kernel
theorem dX12_judgeAll_45 : decode cX12_judgeAll 45 = .ok (.iload_n 1, 1) := by decide +kernel
theorem dX12_judgeAll_46 : decode cX12_judgeAll 46 = .ok (.bipush (-2), 2) := by decide +kernel
theorem dX12_judgeAll_48 : decode cX12_judgeAll 48 = .ok (.iastore, 1) := by decide +kernel
theorem dX12_judgeAll_49 : decode cX12_judgeAll 49 = .ok (.iinc 1 1, 3) := by decide +kernel
theorem dX12_judgeAll_52 : decode cX12_judgeAll 52 = .ok (.goto (-19), 3) := by decide +kernel
theorem dX12_judgeAll_55 : decode cX12_judgeAll 55 = .ok (.aload_n 0, 1) := by decide +kernel
theorem dX12_judgeAll_56 : decode cX12_judgeAll 56 = .ok (.invokevirtual 678, 3) := by decide +kernel
theorem dX12_judgeAll_59 : decode cX12_judgeAll 59 = .ok (.iconst 0, 1) := by decide +kernel
theorem dX12_judgeAll_60 : decode cX12_judgeAll 60 = .ok (.istore_n 1, 1) := by decide +kernel
theorem dX12_judgeAll_61 : decode cX12_judgeAll 61 = .ok (.iload_n 1, 1) := by decide +kernel
theorem dX12_judgeAll_62 : decode cX12_judgeAll 62 = .ok (.aload_n 0, 1) := by decide +kernel
theorem dX12_judgeAll_63 : decode cX12_judgeAll 63 = .ok (.getfield 519, 3) := by decide +kernel
theorem dX12_judgeAll_66 : decode cX12_judgeAll 66 = .ok (.if_icmp .ge 62, 3) := by decide +kernel
theorem dX12_judgeAll_69 : decode cX12_judgeAll 69 = .ok (.aload_n 0, 1) := by decide +kernel
theorem dX12_judgeAll_70 : decode cX12_judgeAll 70 = .ok (.getfield 198, 3) := by decide +kernel
theorem dX12_judgeAll_73 : decode cX12_judgeAll 73 = .ok (.iload_n 1, 1) := by decide +kernel
theorem dX12_judgeAll_74 : decode cX12_judgeAll 74 = .ok (.iconst 0, 1) := by decide +kernel
theorem dX12_judgeAll_75 : decode cX12_judgeAll 75 = .ok (.bastore, 1) := by decide +kernel
theorem dX12_judgeAll_76 : decode cX12_judgeAll 76 = .ok (.aload_n 0, 1) := by decide +kernel
theorem dX12_judgeAll_77 : decode cX12_judgeAll 77 = .ok (.getfield 180, 3) := by decide +kernel
theorem dX12_judgeAll_80 : decode cX12_judgeAll 80 = .ok (.aload_n 0, 1) := by decide +kernel
theorem dX12_judgeAll_81 : decode cX12_judgeAll 81 = .ok (.getfield 90, 3) := by decide +kernel
theorem dX12_judgeAll_84 : decode cX12_judgeAll 84 = .ok (.iload_n 1, 1) := by decide +kernel
theorem dX12_judgeAll_85 : decode cX12_judgeAll 85 = .ok (.iaload, 1) := by decide +kernel
theorem dX12_judgeAll_86 : decode cX12_judgeAll 86 = .ok (.iload_n 1, 1) := by decide +kernel
theorem dX12_judgeAll_87 : decode cX12_judgeAll 87 = .ok (.iastore, 1) := by decide +kernel
theorem dX12_judgeAll_88 : decode cX12_judgeAll 88 = .ok (.aload_n 0, 1) := by decide +kernel
theorem dX12_judgeAll_89 : decode cX12_judgeAll 89 = .ok (.aload_n 0, 1) := by decide +kernel
theorem dX12_judgeAll_90 : decode cX12_judgeAll 90 = .ok (.getfield 99, 3) := by decide +kernel
theorem dX12_judgeAll_93 : decode cX12_judgeAll 93 = .ok (.iload_n 1, 1) := by decide +kernel
theorem dX12_judgeAll_94 : decode cX12_judgeAll 94 = .ok (.iaload, 1) := by decide +kernel
theorem dX12_judgeAll_95 : decode cX12_judgeAll 95 = .ok (.putfield 640, 3) := by decide +kernel
theorem dX12_judgeAll_98 : decode cX12_judgeAll 98 = .ok (.aload_n 0, 1) := by decide +kernel
theorem dX12_judgeAll_99 : decode cX12_judgeAll 99 = .ok (.aload_n 0, 1) := by decide +kernel
theorem dX12_judgeAll_100 : decode cX12_judgeAll 100 = .ok (.getfield 90, 3) := by decide +kernel
theorem dX12_judgeAll_103 : decode cX12_judgeAll 103 = .ok (.iload_n 1, 1) := by decide +kernel
theorem dX12_judgeAll_104 : decode cX12_judgeAll 104 = .ok (.iaload, 1) := by decide +kernel
theorem dX12_judgeAll_105 : decode cX12_judgeAll 105 = .ok (.invokevirtual 681, 3) := by decide +kernel
theorem dX12_judgeAll_108 : decode cX12_judgeAll 108 = .ok (.ifCond .lt 14, 3) := by decide +kernel
theorem dX12_judgeAll_111 : decode cX12_judgeAll 111 = .ok (.aload_n 0, 1) := by decide +kernel
theorem dX12_judgeAll_112 : decode cX12_judgeAll 112 = .ok (.iconst 2, 1) := by decide +kernel
theorem dX12_judgeAll_113 : decode cX12_judgeAll 113 = .ok (.aload_n 0, 1) := by decide +kernel
theorem dX12_judgeAll_114 : decode cX12_judgeAll 114 = .ok (.getfield 90, 3) := by decide +kernel
theorem dX12_judgeAll_117 : decode cX12_judgeAll 117 = .ok (.iload_n 1, 1) := by decide +kernel
theorem dX12_judgeAll_118 : decode cX12_judgeAll 118 = .ok (.iaload, 1) := by decide +kernel
theorem dX12_judgeAll_119 : decode cX12_judgeAll 119 = .ok (.invokevirtual 672, 3) := by decide +kernel
theorem dX12_judgeAll_122 : decode cX12_judgeAll 122 = .ok (.iinc 1 1, 3) := by decide +kernel
theorem dX12_judgeAll_125 : decode cX12_judgeAll 125 = .ok (.goto (-64), 3) := by decide +kernel
theorem dX12_judgeAll_128 : decode cX12_judgeAll 128 = .ok (.aload_n 0, 1) := by decide +kernel
theorem dX12_judgeAll_129 : decode cX12_judgeAll 129 = .ok (.iconst 0, 1) := by decide +kernel
theorem dX12_judgeAll_130 : decode cX12_judgeAll 130 = .ok (.putfield 640, 3) := by decide +kernel
theorem dX12_judgeAll_133 : decode cX12_judgeAll 133 = .ok (.iconst 0, 1) := by decide +kernel
theorem dX12_judgeAll_134 : decode cX12_judgeAll 134 = .ok (.istore_n 1, 1) := by decide +kernel
theorem dX12_judgeAll_135 : decode cX12_judgeAll 135 = .ok (.iload_n 1, 1) := by decide +kernel
theorem dX12_judgeAll_136 : decode cX12_judgeAll 136 = .ok (.aload_n 0, 1) := by decide +kernel
theorem dX12_judgeAll_137 : decode cX12_judgeAll 137 = .ok (.getfield 433, 3) := by decide +kernel
theorem dX12_judgeAll_140 : decode cX12_judgeAll 140 = .ok (.if_icmp .ge 33, 3) := by decide +kernel
theorem dX12_judgeAll_143 : decode cX12_judgeAll 143 = .ok (.aload_n 0, 1) := by decide +kernel
theorem dX12_judgeAll_144 : decode cX12_judgeAll 144 = .ok (.getfield 42, 3) := by decide +kernel
theorem dX12_judgeAll_147 : decode cX12_judgeAll 147 = .ok (.iload_n 1, 1) := by decide +kernel
theorem dX12_judgeAll_148 : decode cX12_judgeAll 148 = .ok (.iaload, 1) := by decide +kernel
theorem dX12_judgeAll_149 : decode cX12_judgeAll 149 = .ok (.bipush 18, 2) := by decide +kernel
theorem dX12_judgeAll_151 : decode cX12_judgeAll 151 = .ok (.if_icmp .gt 11, 3) := by decide +kernel
theorem dX12_judgeAll_154 : decode cX12_judgeAll 154 = .ok (.aload_n 0, 1) := by decide +kernel
theorem dX12_judgeAll_155 : decode cX12_judgeAll 155 = .ok (.iload_n 1, 1) := by decide +kernel
theorem dX12_judgeAll_156 : decode cX12_judgeAll 156 = .ok (.invokevirtual 684, 3) := by decide +kernel
theorem dX12_judgeAll_159 : decode cX12_judgeAll 159 = .ok (.goto 8, 3) := by decide +kernel
theorem dX12_judgeAll_162 : decode cX12_judgeAll 162 = .ok (.aload_n 0, 1) := by decide +kernel
theorem dX12_judgeAll_163 : decode cX12_judgeAll 163 = .ok (.iload_n 1, 1) := by decide +kernel
theorem dX12_judgeAll_164 : decode cX12_judgeAll 164 = .ok (.invokevirtual 687, 3) := by decide +kernel
theorem dX12_judgeAll_167 : decode cX12_judgeAll 167 = .ok (.iinc 1 1, 3) := by decide +kernel
theorem dX12_judgeAll_170 : decode cX12_judgeAll 170 = .ok (.goto (-35), 3) := by decide +kernel
theorem dX12_judgeAll_173 : decode cX12_judgeAll 173 = .ok (.aload_n 0, 1) := by decide +kernel
theorem dX12_judgeAll_174 : decode cX12_judgeAll 174 = .ok (.getfield 634, 3) := by decide +kernel
theorem dX12_judgeAll_177 : decode cX12_judgeAll 177 = .ok (.ifCond .ne 7, 3) := by decide +kernel
theorem dX12_judgeAll_180 : decode cX12_judgeAll 180 = .ok (.aload_n 0, 1) := by decide +kernel
theorem dX12_judgeAll_181 : decode cX12_judgeAll 181 = .ok (.invokevirtual 690, 3) := by decide +kernel
theorem dX12_judgeAll_184 : decode cX12_judgeAll 184 = .ok (.return_, 1) := by decide +kernel
abbrev cX12_methodsTold : ByteArray := prog_14_method_89_code
def yX12_methodsTold : MethodName := ⟨RX12, "methodsTold", "()V"⟩
theorem dX12_methodsTold_0 : decode cX12_methodsTold 0 = .ok (.iconst 0, 1) := by decide +kernel
theorem dX12_methodsTold_1 : decode cX12_methodsTold 1 = .ok (.istore_n 1, 1) := by decide +kernel
theorem dX12_methodsTold_2 : decode cX12_methodsTold 2 = .ok (.iload_n 1, 1) := by decide +kernel
theorem dX12_methodsTold_3 : decode cX12_methodsTold 3 = .ok (.aload_n 0, 1) := by decide +kernel
theorem dX12_methodsTold_4 : decode cX12_methodsTold 4 = .ok (.getfield 516, 3) := by decide +kernel
theorem dX12_methodsTold_7 : decode cX12_methodsTold 7 = .ok (.if_icmp .ge 158, 3) := by decide +kernel
theorem dX12_methodsTold_10 : decode cX12_methodsTold 10 = .ok (.aload_n 0, 1) := by decide +kernel
theorem dX12_methodsTold_11 : decode cX12_methodsTold 11 = .ok (.getfield 180, 3) := by decide +kernel
theorem dX12_methodsTold_14 : decode cX12_methodsTold 14 = .ok (.aload_n 0, 1) := by decide +kernel
theorem dX12_methodsTold_15 : decode cX12_methodsTold 15 = .ok (.getfield 75, 3) := by decide +kernel
theorem dX12_methodsTold_18 : decode cX12_methodsTold 18 = .ok (.iload_n 1, 1) := by decide +kernel
theorem dX12_methodsTold_19 : decode cX12_methodsTold 19 = .ok (.iaload, 1) := by decide +kernel
theorem dX12_methodsTold_20 : decode cX12_methodsTold 20 = .ok (.bipush 100, 2) := by decide +kernel
theorem dX12_methodsTold_22 : decode cX12_methodsTold 22 = .ok (.iload_n 1, 1) := by decide +kernel
theorem dX12_methodsTold_23 : decode cX12_methodsTold 23 = .ok (.iadd, 1) := by decide +kernel
theorem dX12_methodsTold_24 : decode cX12_methodsTold 24 = .ok (.iastore, 1) := by decide +kernel
theorem dX12_methodsTold_25 : decode cX12_methodsTold 25 = .ok (.iconst 0, 1) := by decide +kernel
theorem dX12_methodsTold_26 : decode cX12_methodsTold 26 = .ok (.istore_n 2, 1) := by decide +kernel
theorem dX12_methodsTold_27 : decode cX12_methodsTold 27 = .ok (.iload_n 2, 1) := by decide +kernel
theorem dX12_methodsTold_28 : decode cX12_methodsTold 28 = .ok (.bipush 12, 2) := by decide +kernel
theorem dX12_methodsTold_30 : decode cX12_methodsTold 30 = .ok (.if_icmp .ge 129, 3) := by decide +kernel
theorem dX12_methodsTold_33 : decode cX12_methodsTold 33 = .ok (.iload_n 2, 1) := by decide +kernel
theorem dX12_methodsTold_34 : decode cX12_methodsTold 34 = .ok (.iload_n 1, 1) := by decide +kernel
theorem dX12_methodsTold_35 : decode cX12_methodsTold 35 = .ok (.if_icmp .lt 9, 3) := by decide +kernel
theorem dX12_methodsTold_38 : decode cX12_methodsTold 38 = .ok (.iload_n 2, 1) := by decide +kernel
theorem dX12_methodsTold_39 : decode cX12_methodsTold 39 = .ok (.bipush 10, 2) := by decide +kernel
theorem dX12_methodsTold_41 : decode cX12_methodsTold 41 = .ok (.if_icmp .lt 7, 3) := by decide +kernel
theorem dX12_methodsTold_44 : decode cX12_methodsTold 44 = .ok (.iconst 1, 1) := by decide +kernel
theorem dX12_methodsTold_45 : decode cX12_methodsTold 45 = .ok (.goto 4, 3) := by decide +kernel
theorem dX12_methodsTold_48 : decode cX12_methodsTold 48 = .ok (.iconst 0, 1) := by decide +kernel
theorem dX12_methodsTold_49 : decode cX12_methodsTold 49 = .ok (.istore_n 3, 1) := by decide +kernel
theorem dX12_methodsTold_50 : decode cX12_methodsTold 50 = .ok (.iload_n 3, 1) := by decide +kernel
theorem dX12_methodsTold_51 : decode cX12_methodsTold 51 = .ok (.ifCond .eq 102, 3) := by decide +kernel
theorem dX12_methodsTold_54 : decode cX12_methodsTold 54 = .ok (.aload_n 0, 1) := by decide +kernel
theorem dX12_methodsTold_55 : decode cX12_methodsTold 55 = .ok (.iload_n 2, 1) := by decide +kernel
theorem dX12_methodsTold_56 : decode cX12_methodsTold 56 = .ok (.aload_n 0, 1) := by decide +kernel
theorem dX12_methodsTold_57 : decode cX12_methodsTold 57 = .ok (.getfield 75, 3) := by decide +kernel
theorem dX12_methodsTold_60 : decode cX12_methodsTold 60 = .ok (.iload_n 1, 1) := by decide +kernel
theorem dX12_methodsTold_61 : decode cX12_methodsTold 61 = .ok (.iaload, 1) := by decide +kernel
theorem dX12_methodsTold_62 : decode cX12_methodsTold 62 = .ok (.invokevirtual 697, 3) := by decide +kernel
theorem dX12_methodsTold_65 : decode cX12_methodsTold 65 = .ok (.ifCond .eq 88, 3) := by decide +kernel
theorem dX12_methodsTold_68 : decode cX12_methodsTold 68 = .ok (.aload_n 0, 1) := by decide +kernel
theorem dX12_methodsTold_69 : decode cX12_methodsTold 69 = .ok (.iload_n 2, 1) := by decide +kernel
theorem dX12_methodsTold_70 : decode cX12_methodsTold 70 = .ok (.invokevirtual 700, 3) := by decide +kernel
theorem dX12_methodsTold_73 : decode cX12_methodsTold 73 = .ok (.aload_n 0, 1) := by decide +kernel
theorem dX12_methodsTold_74 : decode cX12_methodsTold 74 = .ok (.getfield 81, 3) := by decide +kernel
theorem dX12_methodsTold_77 : decode cX12_methodsTold 77 = .ok (.iload_n 1, 1) := by decide +kernel
theorem dX12_methodsTold_78 : decode cX12_methodsTold 78 = .ok (.iaload, 1) := by decide +kernel
theorem dX12_methodsTold_79 : decode cX12_methodsTold 79 = .ok (.if_icmp .eq 6, 3) := by decide +kernel
theorem dX12_methodsTold_82 : decode cX12_methodsTold 82 = .ok (.goto 71, 3) := by decide +kernel
theorem dX12_methodsTold_85 : decode cX12_methodsTold 85 = .ok (.iconst 1, 1) := by decide +kernel
theorem dX12_methodsTold_86 : decode cX12_methodsTold 86 = .ok (.istore 4, 2) := by decide +kernel
theorem dX12_methodsTold_88 : decode cX12_methodsTold 88 = .ok (.iconst 0, 1) := by decide +kernel
theorem dX12_methodsTold_89 : decode cX12_methodsTold 89 = .ok (.istore 5, 2) := by decide +kernel
theorem dX12_methodsTold_91 : decode cX12_methodsTold 91 = .ok (.iload 5, 2) := by decide +kernel
theorem dX12_methodsTold_93 : decode cX12_methodsTold 93 = .ok (.aload_n 0, 1) := by decide +kernel
theorem dX12_methodsTold_94 : decode cX12_methodsTold 94 = .ok (.getfield 81, 3) := by decide +kernel
theorem dX12_methodsTold_97 : decode cX12_methodsTold 97 = .ok (.iload_n 1, 1) := by decide +kernel
theorem dX12_methodsTold_98 : decode cX12_methodsTold 98 = .ok (.iaload, 1) := by decide +kernel
theorem dX12_methodsTold_99 : decode cX12_methodsTold 99 = .ok (.if_icmp .ge 38, 3) := by decide +kernel
theorem dX12_methodsTold_102 : decode cX12_methodsTold 102 = .ok (.iload 4, 2) := by decide +kernel
theorem dX12_methodsTold_104 : decode cX12_methodsTold 104 = .ok (.ifCond .eq 24, 3) := by decide +kernel
theorem dX12_methodsTold_107 : decode cX12_methodsTold 107 = .ok (.aload_n 0, 1) := by decide +kernel
theorem dX12_methodsTold_108 : decode cX12_methodsTold 108 = .ok (.iload_n 2, 1) := by decide +kernel
theorem dX12_methodsTold_109 : decode cX12_methodsTold 109 = .ok (.iload 5, 2) := by decide +kernel
theorem dX12_methodsTold_111 : decode cX12_methodsTold 111 = .ok (.invokevirtual 703, 3) := by decide +kernel
theorem dX12_methodsTold_114 : decode cX12_methodsTold 114 = .ok (.aload_n 0, 1) := by decide +kernel
theorem dX12_methodsTold_115 : decode cX12_methodsTold 115 = .ok (.iload_n 1, 1) := by decide +kernel
theorem dX12_methodsTold_116 : decode cX12_methodsTold 116 = .ok (.iload 5, 2) := by decide +kernel
theorem dX12_methodsTold_118 : decode cX12_methodsTold 118 = .ok (.invokevirtual 703, 3) := by decide +kernel
theorem dX12_methodsTold_121 : decode cX12_methodsTold 121 = .ok (.if_icmp .ne 7, 3) := by decide +kernel
theorem dX12_methodsTold_124 : decode cX12_methodsTold 124 = .ok (.iconst 1, 1) := by decide +kernel
theorem dX12_methodsTold_125 : decode cX12_methodsTold 125 = .ok (.goto 4, 3) := by decide +kernel
theorem dX12_methodsTold_128 : decode cX12_methodsTold 128 = .ok (.iconst 0, 1) := by decide +kernel
theorem dX12_methodsTold_129 : decode cX12_methodsTold 129 = .ok (.istore 4, 2) := by decide +kernel
theorem dX12_methodsTold_131 : decode cX12_methodsTold 131 = .ok (.iinc 5 1, 3) := by decide +kernel
theorem dX12_methodsTold_134 : decode cX12_methodsTold 134 = .ok (.goto (-43), 3) := by decide +kernel
theorem dX12_methodsTold_137 : decode cX12_methodsTold 137 = .ok (.iload 4, 2) := by decide +kernel
theorem dX12_methodsTold_139 : decode cX12_methodsTold 139 = .ok (.ifCond .eq 14, 3) := by decide +kernel
theorem dX12_methodsTold_142 : decode cX12_methodsTold 142 = .ok (.aload_n 0, 1) := by decide +kernel
theorem dX12_methodsTold_143 : decode cX12_methodsTold 143 = .ok (.iconst 1, 1) := by decide +kernel
theorem dX12_methodsTold_144 : decode cX12_methodsTold 144 = .ok (.aload_n 0, 1) := by decide +kernel
theorem dX12_methodsTold_145 : decode cX12_methodsTold 145 = .ok (.getfield 75, 3) := by decide +kernel
theorem dX12_methodsTold_148 : decode cX12_methodsTold 148 = .ok (.iload_n 1, 1) := by decide +kernel
theorem dX12_methodsTold_149 : decode cX12_methodsTold 149 = .ok (.iaload, 1) := by decide +kernel
theorem dX12_methodsTold_150 : decode cX12_methodsTold 150 = .ok (.invokevirtual 672, 3) := by decide +kernel
theorem dX12_methodsTold_153 : decode cX12_methodsTold 153 = .ok (.iinc 2 1, 3) := by decide +kernel
theorem dX12_methodsTold_156 : decode cX12_methodsTold 156 = .ok (.goto (-129), 3) := by decide +kernel
theorem dX12_methodsTold_159 : decode cX12_methodsTold 159 = .ok (.iinc 1 1, 3) := by decide +kernel
theorem dX12_methodsTold_162 : decode cX12_methodsTold 162 = .ok (.goto (-160), 3) := by decide +kernel
theorem dX12_methodsTold_165 : decode cX12_methodsTold 165 = .ok (.return_, 1) := by decide +kernel
abbrev cX12_flow : ByteArray := prog_14_method_115_code
def yX12_flow : MethodName := ⟨RX12, "flow", "()V"⟩
theorem dX12_flow_0 : decode cX12_flow 0 = .ok (.aload_n 0, 1) := by decide +kernel
theorem dX12_flow_1 : decode cX12_flow 1 = .ok (.iconst 0, 1) := by decide +kernel
theorem dX12_flow_2 : decode cX12_flow 2 = .ok (.putfield 796, 3) := by decide +kernel
theorem dX12_flow_5 : decode cX12_flow 5 = .ok (.aload_n 0, 1) := by decide +kernel
theorem dX12_flow_6 : decode cX12_flow 6 = .ok (.iconst 0, 1) := by decide +kernel
theorem dX12_flow_7 : decode cX12_flow 7 = .ok (.putfield 809, 3) := by decide +kernel
theorem dX12_flow_10 : decode cX12_flow 10 = .ok (.iconst 0, 1) := by decide +kernel
theorem dX12_flow_11 : decode cX12_flow 11 = .ok (.istore_n 1, 1) := by decide +kernel
theorem dX12_flow_12 : decode cX12_flow 12 = .ok (.iload_n 1, 1) := by decide +kernel
theorem dX12_flow_13 : decode cX12_flow 13 = .ok (.aload_n 0, 1) := by decide +kernel
theorem dX12_flow_14 : decode cX12_flow 14 = .ok (.getfield 323, 3) := by decide +kernel
theorem dX12_flow_17 : decode cX12_flow 17 = .ok (.if_icmp .ge 16, 3) := by decide +kernel
theorem dX12_flow_20 : decode cX12_flow 20 = .ok (.aload_n 0, 1) := by decide +kernel
theorem dX12_flow_21 : decode cX12_flow 21 = .ok (.getfield 246, 3) := by decide +kernel
theorem dX12_flow_24 : decode cX12_flow 24 = .ok (.iload_n 1, 1) := by decide +kernel
theorem dX12_flow_25 : decode cX12_flow 25 = .ok (.iconst 0, 1) := by decide +kernel
theorem dX12_flow_26 : decode cX12_flow 26 = .ok (.bastore, 1) := by decide +kernel
theorem dX12_flow_27 : decode cX12_flow 27 = .ok (.iinc 1 1, 3) := by decide +kernel
theorem dX12_flow_30 : decode cX12_flow 30 = .ok (.goto (-18), 3) := by decide +kernel
theorem dX12_flow_33 : decode cX12_flow 33 = .ok (.aload_n 0, 1) := by decide +kernel
theorem dX12_flow_34 : decode cX12_flow 34 = .ok (.iconst 0, 1) := by decide +kernel
theorem dX12_flow_35 : decode cX12_flow 35 = .ok (.putfield 812, 3) := by decide +kernel
theorem dX12_flow_38 : decode cX12_flow 38 = .ok (.aload_n 0, 1) := by decide +kernel
theorem dX12_flow_39 : decode cX12_flow 39 = .ok (.iconst 0, 1) := by decide +kernel
theorem dX12_flow_40 : decode cX12_flow 40 = .ok (.putfield 815, 3) := by decide +kernel
theorem dX12_flow_43 : decode cX12_flow 43 = .ok (.aload_n 0, 1) := by decide +kernel
theorem dX12_flow_44 : decode cX12_flow 44 = .ok (.bipush (-2), 2) := by decide +kernel
theorem dX12_flow_46 : decode cX12_flow 46 = .ok (.putfield 818, 3) := by decide +kernel
theorem dX12_flow_49 : decode cX12_flow 49 = .ok (.iconst 0, 1) := by decide +kernel
theorem dX12_flow_50 : decode cX12_flow 50 = .ok (.istore_n 1, 1) := by decide +kernel
theorem dX12_flow_51 : decode cX12_flow 51 = .ok (.aload_n 0, 1) := by decide +kernel
theorem dX12_flow_52 : decode cX12_flow 52 = .ok (.iload_n 1, 1) := by decide +kernel
theorem dX12_flow_53 : decode cX12_flow 53 = .ok (.invokevirtual 821, 3) := by decide +kernel
theorem dX12_flow_56 : decode cX12_flow 56 = .ok (.iconst 0, 1) := by decide +kernel
theorem dX12_flow_57 : decode cX12_flow 57 = .ok (.istore_n 2, 1) := by decide +kernel
theorem dX12_flow_58 : decode cX12_flow 58 = .ok (.iload_n 2, 1) := by decide +kernel
theorem dX12_flow_59 : decode cX12_flow 59 = .ok (.aload_n 0, 1) := by decide +kernel
theorem dX12_flow_60 : decode cX12_flow 60 = .ok (.getfield 433, 3) := by decide +kernel
theorem dX12_flow_63 : decode cX12_flow 63 = .ok (.if_icmp .ge 59, 3) := by decide +kernel
theorem dX12_flow_66 : decode cX12_flow 66 = .ok (.aload_n 0, 1) := by decide +kernel
theorem dX12_flow_67 : decode cX12_flow 67 = .ok (.getfield 42, 3) := by decide +kernel
theorem dX12_flow_70 : decode cX12_flow 70 = .ok (.iload_n 2, 1) := by decide +kernel
theorem dX12_flow_71 : decode cX12_flow 71 = .ok (.iaload, 1) := by decide +kernel
theorem dX12_flow_72 : decode cX12_flow 72 = .ok (.bipush 18, 2) := by decide +kernel
theorem dX12_flow_74 : decode cX12_flow 74 = .ok (.if_icmp .gt 14, 3) := by decide +kernel
theorem dX12_flow_77 : decode cX12_flow 77 = .ok (.aload_n 0, 1) := by decide +kernel
theorem dX12_flow_78 : decode cX12_flow 78 = .ok (.iload_n 2, 1) := by decide +kernel
theorem dX12_flow_79 : decode cX12_flow 79 = .ok (.invokevirtual 824, 3) := by decide +kernel
theorem dX12_flow_82 : decode cX12_flow 82 = .ok (.iinc 2 1, 3) := by decide +kernel
theorem dX12_flow_85 : decode cX12_flow 85 = .ok (.goto (-27), 3) := by decide +kernel
theorem dX12_flow_88 : decode cX12_flow 88 = .ok (.aload_n 0, 1) := by decide +kernel
theorem dX12_flow_89 : decode cX12_flow 89 = .ok (.iload_n 2, 1) := by decide +kernel
theorem dX12_flow_90 : decode cX12_flow 90 = .ok (.invokevirtual 827, 3) := by decide +kernel
theorem dX12_flow_93 : decode cX12_flow 93 = .ok (.istore_n 2, 1) := by decide +kernel
theorem dX12_flow_94 : decode cX12_flow 94 = .ok (.iload_n 2, 1) := by decide +kernel
theorem dX12_flow_95 : decode cX12_flow 95 = .ok (.ifCond .le (-37), 3) := by decide +kernel
theorem dX12_flow_98 : decode cX12_flow 98 = .ok (.aload_n 0, 1) := by decide +kernel
theorem dX12_flow_99 : decode cX12_flow 99 = .ok (.getfield 42, 3) := by decide +kernel
theorem dX12_flow_102 : decode cX12_flow 102 = .ok (.iload_n 2, 1) := by decide +kernel
theorem dX12_flow_103 : decode cX12_flow 103 = .ok (.iconst 1, 1) := by decide +kernel
theorem dX12_flow_104 : decode cX12_flow 104 = .ok (.isub, 1) := by decide +kernel
theorem dX12_flow_105 : decode cX12_flow 105 = .ok (.iaload, 1) := by decide +kernel
theorem dX12_flow_106 : decode cX12_flow 106 = .ok (.bipush 54, 2) := by decide +kernel
theorem dX12_flow_108 : decode cX12_flow 108 = .ok (.if_icmp .ne (-50), 3) := by decide +kernel
theorem dX12_flow_111 : decode cX12_flow 111 = .ok (.iinc 1 1, 3) := by decide +kernel
theorem dX12_flow_114 : decode cX12_flow 114 = .ok (.aload_n 0, 1) := by decide +kernel
theorem dX12_flow_115 : decode cX12_flow 115 = .ok (.iload_n 1, 1) := by decide +kernel
theorem dX12_flow_116 : decode cX12_flow 116 = .ok (.invokevirtual 821, 3) := by decide +kernel
theorem dX12_flow_119 : decode cX12_flow 119 = .ok (.goto (-61), 3) := by decide +kernel
theorem dX12_flow_122 : decode cX12_flow 122 = .ok (.aload_n 0, 1) := by decide +kernel
theorem dX12_flow_123 : decode cX12_flow 123 = .ok (.getfield 796, 3) := by decide +kernel
theorem dX12_flow_126 : decode cX12_flow 126 = .ok (.ifCond .eq 22, 3) := by decide +kernel
theorem dX12_flow_129 : decode cX12_flow 129 = .ok (.aload_n 0, 1) := by decide +kernel
theorem dX12_flow_130 : decode cX12_flow 130 = .ok (.aload_n 0, 1) := by decide +kernel
theorem dX12_flow_131 : decode cX12_flow 131 = .ok (.getfield 796, 3) := by decide +kernel
theorem dX12_flow_134 : decode cX12_flow 134 = .ok (.putfield 634, 3) := by decide +kernel
theorem dX12_flow_137 : decode cX12_flow 137 = .ok (.aload_n 0, 1) := by decide +kernel
theorem dX12_flow_138 : decode cX12_flow 138 = .ok (.aload_n 0, 1) := by decide +kernel
theorem dX12_flow_139 : decode cX12_flow 139 = .ok (.getfield 799, 3) := by decide +kernel
theorem dX12_flow_142 : decode cX12_flow 142 = .ok (.putfield 637, 3) := by decide +kernel
theorem dX12_flow_145 : decode cX12_flow 145 = .ok (.goto 24, 3) := by decide +kernel
theorem dX12_flow_148 : decode cX12_flow 148 = .ok (.aload_n 0, 1) := by decide +kernel
theorem dX12_flow_149 : decode cX12_flow 149 = .ok (.getfield 809, 3) := by decide +kernel
theorem dX12_flow_152 : decode cX12_flow 152 = .ok (.ifCond .eq 17, 3) := by decide +kernel
theorem dX12_flow_155 : decode cX12_flow 155 = .ok (.aload_n 0, 1) := by decide +kernel
theorem dX12_flow_156 : decode cX12_flow 156 = .ok (.bipush 15, 2) := by decide +kernel
theorem dX12_flow_158 : decode cX12_flow 158 = .ok (.putfield 634, 3) := by decide +kernel
theorem dX12_flow_161 : decode cX12_flow 161 = .ok (.aload_n 0, 1) := by decide +kernel
theorem dX12_flow_162 : decode cX12_flow 162 = .ok (.aload_n 0, 1) := by decide +kernel
theorem dX12_flow_163 : decode cX12_flow 163 = .ok (.getfield 830, 3) := by decide +kernel
theorem dX12_flow_166 : decode cX12_flow 166 = .ok (.putfield 637, 3) := by decide +kernel
theorem dX12_flow_169 : decode cX12_flow 169 = .ok (.return_, 1) := by decide +kernel
abbrev cX12_start : ByteArray := prog_14_method_116_code
def yX12_start : MethodName := ⟨RX12, "start", "(I)V"⟩
theorem dX12_start_0 : decode cX12_start 0 = .ok (.aload_n 0, 1) := by decide +kernel
theorem dX12_start_1 : decode cX12_start 1 = .ok (.iconst 1, 1) := by decide +kernel
theorem dX12_start_2 : decode cX12_start 2 = .ok (.putfield 833, 3) := by decide +kernel
theorem dX12_start_5 : decode cX12_start 5 = .ok (.lconst 0, 1) := by decide +kernel
theorem dX12_start_6 : decode cX12_start 6 = .ok (.lstore_n 2, 1) := by decide +kernel
theorem dX12_start_7 : decode cX12_start 7 = .ok (.iconst 0, 1) := by decide +kernel
theorem dX12_start_8 : decode cX12_start 8 = .ok (.istore 4, 2) := by decide +kernel
theorem dX12_start_10 : decode cX12_start 10 = .ok (.iload 4, 2) := by decide +kernel
theorem dX12_start_12 : decode cX12_start 12 = .ok (.aload_n 0, 1) := by decide +kernel
theorem dX12_start_13 : decode cX12_start 13 = .ok (.getfield 519, 3) := by decide +kernel
theorem dX12_start_16 : decode cX12_start 16 = .ok (.if_icmp .ge 53, 3) := by decide +kernel
theorem dX12_start_19 : decode cX12_start 19 = .ok (.iload_n 1, 1) := by decide +kernel
theorem dX12_start_20 : decode cX12_start 20 = .ok (.aload_n 0, 1) := by decide +kernel
theorem dX12_start_21 : decode cX12_start 21 = .ok (.getfield 516, 3) := by decide +kernel
theorem dX12_start_24 : decode cX12_start 24 = .ok (.if_icmp .ge 39, 3) := by decide +kernel
theorem dX12_start_27 : decode cX12_start 27 = .ok (.aload_n 0, 1) := by decide +kernel
theorem dX12_start_28 : decode cX12_start 28 = .ok (.getfield 99, 3) := by decide +kernel
theorem dX12_start_31 : decode cX12_start 31 = .ok (.iload 4, 2) := by decide +kernel
theorem dX12_start_33 : decode cX12_start 33 = .ok (.iaload, 1) := by decide +kernel
theorem dX12_start_34 : decode cX12_start 34 = .ok (.iload_n 1, 1) := by decide +kernel
theorem dX12_start_35 : decode cX12_start 35 = .ok (.if_icmp .ne 28, 3) := by decide +kernel
theorem dX12_start_38 : decode cX12_start 38 = .ok (.iload 4, 2) := by decide +kernel
theorem dX12_start_40 : decode cX12_start 40 = .ok (.aload_n 0, 1) := by decide +kernel
theorem dX12_start_41 : decode cX12_start 41 = .ok (.getfield 84, 3) := by decide +kernel
theorem dX12_start_44 : decode cX12_start 44 = .ok (.iload_n 1, 1) := by decide +kernel
theorem dX12_start_45 : decode cX12_start 45 = .ok (.iaload, 1) := by decide +kernel
theorem dX12_start_46 : decode cX12_start 46 = .ok (.aload_n 0, 1) := by decide +kernel
theorem dX12_start_47 : decode cX12_start 47 = .ok (.getfield 81, 3) := by decide +kernel
theorem dX12_start_50 : decode cX12_start 50 = .ok (.iload_n 1, 1) := by decide +kernel
theorem dX12_start_51 : decode cX12_start 51 = .ok (.iaload, 1) := by decide +kernel
theorem dX12_start_52 : decode cX12_start 52 = .ok (.iadd, 1) := by decide +kernel
theorem dX12_start_53 : decode cX12_start 53 = .ok (.if_icmp .ge 10, 3) := by decide +kernel
theorem dX12_start_56 : decode cX12_start 56 = .ok (.lload_n 2, 1) := by decide +kernel
theorem dX12_start_57 : decode cX12_start 57 = .ok (.lconst 1, 1) := by decide +kernel
theorem dX12_start_58 : decode cX12_start 58 = .ok (.iload 4, 2) := by decide +kernel
theorem dX12_start_60 : decode cX12_start 60 = .ok (.lshl, 1) := by decide +kernel
theorem dX12_start_61 : decode cX12_start 61 = .ok (.lor, 1) := by decide +kernel
theorem dX12_start_62 : decode cX12_start 62 = .ok (.lstore_n 2, 1) := by decide +kernel
theorem dX12_start_63 : decode cX12_start 63 = .ok (.iinc 4 1, 3) := by decide +kernel
theorem dX12_start_66 : decode cX12_start 66 = .ok (.goto (-56), 3) := by decide +kernel
theorem dX12_start_69 : decode cX12_start 69 = .ok (.aload_n 0, 1) := by decide +kernel
theorem dX12_start_70 : decode cX12_start 70 = .ok (.lload_n 2, 1) := by decide +kernel
theorem dX12_start_71 : decode cX12_start 71 = .ok (.invokevirtual 836, 3) := by decide +kernel
theorem dX12_start_74 : decode cX12_start 74 = .ok (.return_, 1) := by decide +kernel
abbrev cX12_be : ByteArray := prog_14_method_114_code
def yX12_be : MethodName := ⟨RX12, "be", "(J)V"⟩
theorem dX12_be_0 : decode cX12_be 0 = .ok (.aload_n 0, 1) := by decide +kernel
theorem dX12_be_1 : decode cX12_be 1 = .ok (.lload_n 1, 1) := by decide +kernel
theorem dX12_be_2 : decode cX12_be 2 = .ok (.putfield 802, 3) := by decide +kernel
theorem dX12_be_5 : decode cX12_be 5 = .ok (.aload_n 0, 1) := by decide +kernel
theorem dX12_be_6 : decode cX12_be 6 = .ok (.lload_n 1, 1) := by decide +kernel
theorem dX12_be_7 : decode cX12_be 7 = .ok (.putfield 806, 3) := by decide +kernel
theorem dX12_be_10 : decode cX12_be 10 = .ok (.return_, 1) := by decide +kernel
abbrev cX12_told_ : ByteArray := prog_14_method_130_code
def yX12_told_ : MethodName := ⟨RX12, "told", "(I)I"⟩
theorem dX12_told__0 : decode cX12_told_ 0 = .ok (.iload_n 1, 1) := by decide +kernel
theorem dX12_told__1 : decode cX12_told_ 1 = .ok (.ifCond .ne 10, 3) := by decide +kernel
theorem dX12_told__4 : decode cX12_told_ 4 = .ok (.aload_n 0, 1) := by decide +kernel
theorem dX12_told__5 : decode cX12_told_ 5 = .ok (.invokevirtual 887, 3) := by decide +kernel
theorem dX12_told__8 : decode cX12_told_ 8 = .ok (.goto 40, 3) := by decide +kernel
theorem dX12_told__11 : decode cX12_told_ 11 = .ok (.iload_n 1, 1) := by decide +kernel
theorem dX12_told__12 : decode cX12_told_ 12 = .ok (.iconst 1, 1) := by decide +kernel
theorem dX12_told__13 : decode cX12_told_ 13 = .ok (.if_icmp .ne 10, 3) := by decide +kernel
theorem dX12_told__16 : decode cX12_told_ 16 = .ok (.aload_n 0, 1) := by decide +kernel
theorem dX12_told__17 : decode cX12_told_ 17 = .ok (.getfield 516, 3) := by decide +kernel
theorem dX12_told__20 : decode cX12_told_ 20 = .ok (.goto 28, 3) := by decide +kernel
theorem dX12_told__23 : decode cX12_told_ 23 = .ok (.iload_n 1, 1) := by decide +kernel
theorem dX12_told__24 : decode cX12_told_ 24 = .ok (.iconst 2, 1) := by decide +kernel
theorem dX12_told__25 : decode cX12_told_ 25 = .ok (.if_icmp .ne 10, 3) := by decide +kernel
theorem dX12_told__28 : decode cX12_told_ 28 = .ok (.aload_n 0, 1) := by decide +kernel
theorem dX12_told__29 : decode cX12_told_ 29 = .ok (.getfield 519, 3) := by decide +kernel
theorem dX12_told__32 : decode cX12_told_ 32 = .ok (.goto 16, 3) := by decide +kernel
theorem dX12_told__35 : decode cX12_told_ 35 = .ok (.iload_n 1, 1) := by decide +kernel
theorem dX12_told__36 : decode cX12_told_ 36 = .ok (.iconst 3, 1) := by decide +kernel
theorem dX12_told__37 : decode cX12_told_ 37 = .ok (.if_icmp .ne 10, 3) := by decide +kernel
theorem dX12_told__40 : decode cX12_told_ 40 = .ok (.aload_n 0, 1) := by decide +kernel
theorem dX12_told__41 : decode cX12_told_ 41 = .ok (.getfield 890, 3) := by decide +kernel
theorem dX12_told__44 : decode cX12_told_ 44 = .ok (.goto 4, 3) := by decide +kernel
theorem dX12_told__47 : decode cX12_told_ 47 = .ok (.iconst (-1), 1) := by decide +kernel
theorem dX12_told__48 : decode cX12_told_ 48 = .ok (.ireturn, 1) := by decide +kernel
abbrev cX12_tokens : ByteArray := prog_14_method_129_code
def yX12_tokens : MethodName := ⟨RX12, "tokens", "()I"⟩
theorem dX12_tokens_0 : decode cX12_tokens 0 = .ok (.aload_n 0, 1) := by decide +kernel
theorem dX12_tokens_1 : decode cX12_tokens 1 = .ok (.getfield 323, 3) := by decide +kernel
theorem dX12_tokens_4 : decode cX12_tokens 4 = .ok (.ifCond .le 12, 3) := by decide +kernel
theorem dX12_tokens_7 : decode cX12_tokens 7 = .ok (.aload_n 0, 1) := by decide +kernel
theorem dX12_tokens_8 : decode cX12_tokens 8 = .ok (.getfield 323, 3) := by decide +kernel
theorem dX12_tokens_11 : decode cX12_tokens 11 = .ok (.iconst 1, 1) := by decide +kernel
theorem dX12_tokens_12 : decode cX12_tokens 12 = .ok (.isub, 1) := by decide +kernel
theorem dX12_tokens_13 : decode cX12_tokens 13 = .ok (.goto 4, 3) := by decide +kernel
theorem dX12_tokens_16 : decode cX12_tokens 16 = .ok (.iconst 0, 1) := by decide +kernel
theorem dX12_tokens_17 : decode cX12_tokens 17 = .ok (.ireturn, 1) := by decide +kernel
abbrev cX12_token : ByteArray := prog_14_method_132_code
def yX12_token : MethodName := ⟨RX12, "token", "(II)I"⟩
theorem dX12_token_0 : decode cX12_token 0 = .ok (.aload_n 0, 1) := by decide +kernel
theorem dX12_token_1 : decode cX12_token 1 = .ok (.iload_n 1, 1) := by decide +kernel
theorem dX12_token_2 : decode cX12_token 2 = .ok (.invokevirtual 893, 3) := by decide +kernel
theorem dX12_token_5 : decode cX12_token 5 = .ok (.ifCond .eq 12, 3) := by decide +kernel
theorem dX12_token_8 : decode cX12_token 8 = .ok (.iload_n 2, 1) := by decide +kernel
theorem dX12_token_9 : decode cX12_token 9 = .ok (.ifCond .lt 8, 3) := by decide +kernel
theorem dX12_token_12 : decode cX12_token 12 = .ok (.iload_n 2, 1) := by decide +kernel
theorem dX12_token_13 : decode cX12_token 13 = .ok (.iconst 2, 1) := by decide +kernel
theorem dX12_token_14 : decode cX12_token 14 = .ok (.if_icmp .le 5, 3) := by decide +kernel
theorem dX12_token_17 : decode cX12_token 17 = .ok (.iconst (-1), 1) := by decide +kernel
theorem dX12_token_18 : decode cX12_token 18 = .ok (.ireturn, 1) := by decide +kernel
theorem dX12_token_19 : decode cX12_token 19 = .ok (.iload_n 2, 1) := by decide +kernel
theorem dX12_token_20 : decode cX12_token 20 = .ok (.ifCond .ne 12, 3) := by decide +kernel
theorem dX12_token_23 : decode cX12_token 23 = .ok (.aload_n 0, 1) := by decide +kernel
theorem dX12_token_24 : decode cX12_token 24 = .ok (.getfield 16, 3) := by decide +kernel
theorem dX12_token_27 : decode cX12_token 27 = .ok (.iload_n 1, 1) := by decide +kernel
theorem dX12_token_28 : decode cX12_token 28 = .ok (.iaload, 1) := by decide +kernel
theorem dX12_token_29 : decode cX12_token 29 = .ok (.goto 23, 3) := by decide +kernel
theorem dX12_token_32 : decode cX12_token 32 = .ok (.iload_n 2, 1) := by decide +kernel
theorem dX12_token_33 : decode cX12_token 33 = .ok (.iconst 1, 1) := by decide +kernel
theorem dX12_token_34 : decode cX12_token 34 = .ok (.if_icmp .ne 12, 3) := by decide +kernel
theorem dX12_token_37 : decode cX12_token 37 = .ok (.aload_n 0, 1) := by decide +kernel
theorem dX12_token_38 : decode cX12_token 38 = .ok (.getfield 19, 3) := by decide +kernel
theorem dX12_token_41 : decode cX12_token 41 = .ok (.iload_n 1, 1) := by decide +kernel
theorem dX12_token_42 : decode cX12_token 42 = .ok (.iaload, 1) := by decide +kernel
theorem dX12_token_43 : decode cX12_token 43 = .ok (.goto 9, 3) := by decide +kernel
theorem dX12_token_46 : decode cX12_token 46 = .ok (.aload_n 0, 1) := by decide +kernel
theorem dX12_token_47 : decode cX12_token 47 = .ok (.getfield 13, 3) := by decide +kernel
theorem dX12_token_50 : decode cX12_token 50 = .ok (.iload_n 1, 1) := by decide +kernel
theorem dX12_token_51 : decode cX12_token 51 = .ok (.iaload, 1) := by decide +kernel
theorem dX12_token_52 : decode cX12_token 52 = .ok (.ireturn, 1) := by decide +kernel
abbrev cX12_isToken : ByteArray := prog_14_method_131_code
def yX12_isToken : MethodName := ⟨RX12, "isToken", "(I)Z"⟩
theorem dX12_isToken_0 : decode cX12_isToken 0 = .ok (.iload_n 1, 1) := by decide +kernel
theorem dX12_isToken_1 : decode cX12_isToken 1 = .ok (.ifCond .lt 15, 3) := by decide +kernel
theorem dX12_isToken_4 : decode cX12_isToken 4 = .ok (.iload_n 1, 1) := by decide +kernel
theorem dX12_isToken_5 : decode cX12_isToken 5 = .ok (.aload_n 0, 1) := by decide +kernel
theorem dX12_isToken_6 : decode cX12_isToken 6 = .ok (.invokevirtual 887, 3) := by decide +kernel
theorem dX12_isToken_9 : decode cX12_isToken 9 = .ok (.if_icmp .ge 7, 3) := by decide +kernel
theorem dX12_isToken_12 : decode cX12_isToken 12 = .ok (.iconst 1, 1) := by decide +kernel
theorem dX12_isToken_13 : decode cX12_isToken 13 = .ok (.goto 4, 3) := by decide +kernel
theorem dX12_isToken_16 : decode cX12_isToken 16 = .ok (.iconst 0, 1) := by decide +kernel
theorem dX12_isToken_17 : decode cX12_isToken 17 = .ok (.ireturn, 1) := by decide +kernel
abbrev cX12_method_ : ByteArray := prog_14_method_133_code
def yX12_method_ : MethodName := ⟨RX12, "method", "(II)I"⟩
theorem dX12_method__0 : decode cX12_method_ 0 = .ok (.iload_n 1, 1) := by decide +kernel
theorem dX12_method__1 : decode cX12_method_ 1 = .ok (.ifCond .lt 11, 3) := by decide +kernel
theorem dX12_method__4 : decode cX12_method_ 4 = .ok (.iload_n 1, 1) := by decide +kernel
theorem dX12_method__5 : decode cX12_method_ 5 = .ok (.aload_n 0, 1) := by decide +kernel
theorem dX12_method__6 : decode cX12_method_ 6 = .ok (.getfield 516, 3) := by decide +kernel
theorem dX12_method__9 : decode cX12_method_ 9 = .ok (.if_icmp .lt 5, 3) := by decide +kernel
theorem dX12_method__12 : decode cX12_method_ 12 = .ok (.iconst (-1), 1) := by decide +kernel
theorem dX12_method__13 : decode cX12_method_ 13 = .ok (.ireturn, 1) := by decide +kernel
theorem dX12_method__14 : decode cX12_method_ 14 = .ok (.iload_n 2, 1) := by decide +kernel
theorem dX12_method__15 : decode cX12_method_ 15 = .ok (.bipush 10, 2) := by decide +kernel
theorem dX12_method__17 : decode cX12_method_ 17 = .ok (.if_icmp .lt 33, 3) := by decide +kernel
theorem dX12_method__20 : decode cX12_method_ 20 = .ok (.iload_n 2, 1) := by decide +kernel
theorem dX12_method__21 : decode cX12_method_ 21 = .ok (.bipush 10, 2) := by decide +kernel
theorem dX12_method__23 : decode cX12_method_ 23 = .ok (.aload_n 0, 1) := by decide +kernel
theorem dX12_method__24 : decode cX12_method_ 24 = .ok (.getfield 81, 3) := by decide +kernel
theorem dX12_method__27 : decode cX12_method_ 27 = .ok (.iload_n 1, 1) := by decide +kernel
theorem dX12_method__28 : decode cX12_method_ 28 = .ok (.iaload, 1) := by decide +kernel
theorem dX12_method__29 : decode cX12_method_ 29 = .ok (.iadd, 1) := by decide +kernel
theorem dX12_method__30 : decode cX12_method_ 30 = .ok (.if_icmp .ge 20, 3) := by decide +kernel
theorem dX12_method__33 : decode cX12_method_ 33 = .ok (.aload_n 0, 1) := by decide +kernel
theorem dX12_method__34 : decode cX12_method_ 34 = .ok (.getfield 93, 3) := by decide +kernel
theorem dX12_method__37 : decode cX12_method_ 37 = .ok (.aload_n 0, 1) := by decide +kernel
theorem dX12_method__38 : decode cX12_method_ 38 = .ok (.getfield 84, 3) := by decide +kernel
theorem dX12_method__41 : decode cX12_method_ 41 = .ok (.iload_n 1, 1) := by decide +kernel
theorem dX12_method__42 : decode cX12_method_ 42 = .ok (.iaload, 1) := by decide +kernel
theorem dX12_method__43 : decode cX12_method_ 43 = .ok (.iload_n 2, 1) := by decide +kernel
theorem dX12_method__44 : decode cX12_method_ 44 = .ok (.iadd, 1) := by decide +kernel
theorem dX12_method__45 : decode cX12_method_ 45 = .ok (.bipush 10, 2) := by decide +kernel
theorem dX12_method__47 : decode cX12_method_ 47 = .ok (.isub, 1) := by decide +kernel
theorem dX12_method__48 : decode cX12_method_ 48 = .ok (.iaload, 1) := by decide +kernel
theorem dX12_method__49 : decode cX12_method_ 49 = .ok (.ireturn, 1) := by decide +kernel
theorem dX12_method__50 : decode cX12_method_ 50 = .ok (.iload_n 2, 1) := by decide +kernel
theorem dX12_method__51 : decode cX12_method_ 51 = .ok (.ifCond .ne 12, 3) := by decide +kernel
theorem dX12_method__54 : decode cX12_method_ 54 = .ok (.aload_n 0, 1) := by decide +kernel
theorem dX12_method__55 : decode cX12_method_ 55 = .ok (.getfield 75, 3) := by decide +kernel
theorem dX12_method__58 : decode cX12_method_ 58 = .ok (.iload_n 1, 1) := by decide +kernel
theorem dX12_method__59 : decode cX12_method_ 59 = .ok (.iaload, 1) := by decide +kernel
theorem dX12_method__60 : decode cX12_method_ 60 = .ok (.goto 32, 3) := by decide +kernel
theorem dX12_method__63 : decode cX12_method_ 63 = .ok (.iload_n 2, 1) := by decide +kernel
theorem dX12_method__64 : decode cX12_method_ 64 = .ok (.iconst 1, 1) := by decide +kernel
theorem dX12_method__65 : decode cX12_method_ 65 = .ok (.if_icmp .ne 12, 3) := by decide +kernel
theorem dX12_method__68 : decode cX12_method_ 68 = .ok (.aload_n 0, 1) := by decide +kernel
theorem dX12_method__69 : decode cX12_method_ 69 = .ok (.getfield 78, 3) := by decide +kernel
theorem dX12_method__72 : decode cX12_method_ 72 = .ok (.iload_n 1, 1) := by decide +kernel
theorem dX12_method__73 : decode cX12_method_ 73 = .ok (.iaload, 1) := by decide +kernel
theorem dX12_method__74 : decode cX12_method_ 74 = .ok (.goto 18, 3) := by decide +kernel
theorem dX12_method__77 : decode cX12_method_ 77 = .ok (.iload_n 2, 1) := by decide +kernel
theorem dX12_method__78 : decode cX12_method_ 78 = .ok (.iconst 2, 1) := by decide +kernel
theorem dX12_method__79 : decode cX12_method_ 79 = .ok (.if_icmp .ne 12, 3) := by decide +kernel
theorem dX12_method__82 : decode cX12_method_ 82 = .ok (.aload_n 0, 1) := by decide +kernel
theorem dX12_method__83 : decode cX12_method_ 83 = .ok (.getfield 81, 3) := by decide +kernel
theorem dX12_method__86 : decode cX12_method_ 86 = .ok (.iload_n 1, 1) := by decide +kernel
theorem dX12_method__87 : decode cX12_method_ 87 = .ok (.iaload, 1) := by decide +kernel
theorem dX12_method__88 : decode cX12_method_ 88 = .ok (.goto 4, 3) := by decide +kernel
theorem dX12_method__91 : decode cX12_method_ 91 = .ok (.iconst (-1), 1) := by decide +kernel
theorem dX12_method__92 : decode cX12_method_ 92 = .ok (.ireturn, 1) := by decide +kernel
abbrev cX12_variable_ : ByteArray := prog_14_method_134_code
def yX12_variable_ : MethodName := ⟨RX12, "variable", "(II)I"⟩
theorem dX12_variable__0 : decode cX12_variable_ 0 = .ok (.iload_n 1, 1) := by decide +kernel
theorem dX12_variable__1 : decode cX12_variable_ 1 = .ok (.ifCond .lt 11, 3) := by decide +kernel
theorem dX12_variable__4 : decode cX12_variable_ 4 = .ok (.iload_n 1, 1) := by decide +kernel
theorem dX12_variable__5 : decode cX12_variable_ 5 = .ok (.aload_n 0, 1) := by decide +kernel
theorem dX12_variable__6 : decode cX12_variable_ 6 = .ok (.getfield 519, 3) := by decide +kernel
theorem dX12_variable__9 : decode cX12_variable_ 9 = .ok (.if_icmp .lt 5, 3) := by decide +kernel
theorem dX12_variable__12 : decode cX12_variable_ 12 = .ok (.iconst (-1), 1) := by decide +kernel
theorem dX12_variable__13 : decode cX12_variable_ 13 = .ok (.ireturn, 1) := by decide +kernel
theorem dX12_variable__14 : decode cX12_variable_ 14 = .ok (.iload_n 2, 1) := by decide +kernel
theorem dX12_variable__15 : decode cX12_variable_ 15 = .ok (.ifCond .ne 12, 3) := by decide +kernel
theorem dX12_variable__18 : decode cX12_variable_ 18 = .ok (.aload_n 0, 1) := by decide +kernel
theorem dX12_variable__19 : decode cX12_variable_ 19 = .ok (.getfield 90, 3) := by decide +kernel
theorem dX12_variable__22 : decode cX12_variable_ 22 = .ok (.iload_n 1, 1) := by decide +kernel
theorem dX12_variable__23 : decode cX12_variable_ 23 = .ok (.iaload, 1) := by decide +kernel
theorem dX12_variable__24 : decode cX12_variable_ 24 = .ok (.goto 54, 3) := by decide +kernel
theorem dX12_variable__27 : decode cX12_variable_ 27 = .ok (.iload_n 2, 1) := by decide +kernel
theorem dX12_variable__28 : decode cX12_variable_ 28 = .ok (.iconst 1, 1) := by decide +kernel
theorem dX12_variable__29 : decode cX12_variable_ 29 = .ok (.if_icmp .ne 12, 3) := by decide +kernel
theorem dX12_variable__32 : decode cX12_variable_ 32 = .ok (.aload_n 0, 1) := by decide +kernel
theorem dX12_variable__33 : decode cX12_variable_ 33 = .ok (.getfield 93, 3) := by decide +kernel
theorem dX12_variable__36 : decode cX12_variable_ 36 = .ok (.iload_n 1, 1) := by decide +kernel
theorem dX12_variable__37 : decode cX12_variable_ 37 = .ok (.iaload, 1) := by decide +kernel
theorem dX12_variable__38 : decode cX12_variable_ 38 = .ok (.goto 40, 3) := by decide +kernel
theorem dX12_variable__41 : decode cX12_variable_ 41 = .ok (.iload_n 2, 1) := by decide +kernel
theorem dX12_variable__42 : decode cX12_variable_ 42 = .ok (.iconst 2, 1) := by decide +kernel
theorem dX12_variable__43 : decode cX12_variable_ 43 = .ok (.if_icmp .ne 20, 3) := by decide +kernel
theorem dX12_variable__46 : decode cX12_variable_ 46 = .ok (.aload_n 0, 1) := by decide +kernel
theorem dX12_variable__47 : decode cX12_variable_ 47 = .ok (.getfield 96, 3) := by decide +kernel
theorem dX12_variable__50 : decode cX12_variable_ 50 = .ok (.iload_n 1, 1) := by decide +kernel
theorem dX12_variable__51 : decode cX12_variable_ 51 = .ok (.baload, 1) := by decide +kernel
theorem dX12_variable__52 : decode cX12_variable_ 52 = .ok (.ifCond .eq 7, 3) := by decide +kernel
theorem dX12_variable__55 : decode cX12_variable_ 55 = .ok (.iconst 1, 1) := by decide +kernel
theorem dX12_variable__56 : decode cX12_variable_ 56 = .ok (.goto 22, 3) := by decide +kernel
theorem dX12_variable__59 : decode cX12_variable_ 59 = .ok (.iconst 0, 1) := by decide +kernel
theorem dX12_variable__60 : decode cX12_variable_ 60 = .ok (.goto 18, 3) := by decide +kernel
theorem dX12_variable__63 : decode cX12_variable_ 63 = .ok (.iload_n 2, 1) := by decide +kernel
theorem dX12_variable__64 : decode cX12_variable_ 64 = .ok (.iconst 3, 1) := by decide +kernel
theorem dX12_variable__65 : decode cX12_variable_ 65 = .ok (.if_icmp .ne 12, 3) := by decide +kernel
theorem dX12_variable__68 : decode cX12_variable_ 68 = .ok (.aload_n 0, 1) := by decide +kernel
theorem dX12_variable__69 : decode cX12_variable_ 69 = .ok (.getfield 99, 3) := by decide +kernel
theorem dX12_variable__72 : decode cX12_variable_ 72 = .ok (.iload_n 1, 1) := by decide +kernel
theorem dX12_variable__73 : decode cX12_variable_ 73 = .ok (.iaload, 1) := by decide +kernel
theorem dX12_variable__74 : decode cX12_variable_ 74 = .ok (.goto 4, 3) := by decide +kernel
theorem dX12_variable__77 : decode cX12_variable_ 77 = .ok (.iconst (-1), 1) := by decide +kernel
theorem dX12_variable__78 : decode cX12_variable_ 78 = .ok (.ireturn, 1) := by decide +kernel
abbrev cX12_means : ByteArray := prog_14_method_135_code
def yX12_means : MethodName := ⟨RX12, "means", "(I)I"⟩
theorem dX12_means_0 : decode cX12_means 0 = .ok (.aload_n 0, 1) := by decide +kernel
theorem dX12_means_1 : decode cX12_means 1 = .ok (.iload_n 1, 1) := by decide +kernel
theorem dX12_means_2 : decode cX12_means 2 = .ok (.invokevirtual 893, 3) := by decide +kernel
theorem dX12_means_5 : decode cX12_means 5 = .ok (.ifCond .eq 13, 3) := by decide +kernel
theorem dX12_means_8 : decode cX12_means 8 = .ok (.aload_n 0, 1) := by decide +kernel
theorem dX12_means_9 : decode cX12_means 9 = .ok (.getfield 13, 3) := by decide +kernel
theorem dX12_means_12 : decode cX12_means 12 = .ok (.iload_n 1, 1) := by decide +kernel
theorem dX12_means_13 : decode cX12_means 13 = .ok (.iaload, 1) := by decide +kernel
theorem dX12_means_14 : decode cX12_means 14 = .ok (.iconst 1, 1) := by decide +kernel
theorem dX12_means_15 : decode cX12_means 15 = .ok (.if_icmp .eq 5, 3) := by decide +kernel
theorem dX12_means_18 : decode cX12_means 18 = .ok (.iconst (-1), 1) := by decide +kernel
theorem dX12_means_19 : decode cX12_means 19 = .ok (.ireturn, 1) := by decide +kernel
theorem dX12_means_20 : decode cX12_means 20 = .ok (.aload_n 0, 1) := by decide +kernel
theorem dX12_means_21 : decode cX12_means 21 = .ok (.invokevirtual 884, 3) := by decide +kernel
theorem dX12_means_24 : decode cX12_means 24 = .ok (.ifCond .eq 12, 3) := by decide +kernel
theorem dX12_means_27 : decode cX12_means 27 = .ok (.aload_n 0, 1) := by decide +kernel
theorem dX12_means_28 : decode cX12_means 28 = .ok (.getfield 180, 3) := by decide +kernel
theorem dX12_means_31 : decode cX12_means 31 = .ok (.iload_n 1, 1) := by decide +kernel
theorem dX12_means_32 : decode cX12_means 32 = .ok (.iaload, 1) := by decide +kernel
theorem dX12_means_33 : decode cX12_means 33 = .ok (.goto 5, 3) := by decide +kernel
theorem dX12_means_36 : decode cX12_means 36 = .ok (.bipush (-2), 2) := by decide +kernel
theorem dX12_means_38 : decode cX12_means 38 = .ok (.ireturn, 1) := by decide +kernel
abbrev cX12_type : ByteArray := prog_14_method_137_code
def yX12_type : MethodName := ⟨RX12, "type", "(II)I"⟩
theorem dX12_type_0 : decode cX12_type 0 = .ok (.aload_n 0, 1) := by decide +kernel
theorem dX12_type_1 : decode cX12_type 1 = .ok (.invokevirtual 884, 3) := by decide +kernel
theorem dX12_type_4 : decode cX12_type 4 = .ok (.ifCond .ne 6, 3) := by decide +kernel
theorem dX12_type_7 : decode cX12_type 7 = .ok (.bipush (-2), 2) := by decide +kernel
theorem dX12_type_9 : decode cX12_type 9 = .ok (.ireturn, 1) := by decide +kernel
theorem dX12_type_10 : decode cX12_type 10 = .ok (.aload_n 0, 1) := by decide +kernel
theorem dX12_type_11 : decode cX12_type 11 = .ok (.iload_n 1, 1) := by decide +kernel
theorem dX12_type_12 : decode cX12_type 12 = .ok (.iload_n 2, 1) := by decide +kernel
theorem dX12_type_13 : decode cX12_type 13 = .ok (.invokevirtual 896, 3) := by decide +kernel
theorem dX12_type_16 : decode cX12_type 16 = .ok (.istore_n 3, 1) := by decide +kernel
theorem dX12_type_17 : decode cX12_type 17 = .ok (.iload_n 3, 1) := by decide +kernel
theorem dX12_type_18 : decode cX12_type 18 = .ok (.ifCond .ge 7, 3) := by decide +kernel
theorem dX12_type_21 : decode cX12_type 21 = .ok (.iconst (-1), 1) := by decide +kernel
theorem dX12_type_22 : decode cX12_type 22 = .ok (.goto 9, 3) := by decide +kernel
theorem dX12_type_25 : decode cX12_type 25 = .ok (.aload_n 0, 1) := by decide +kernel
theorem dX12_type_26 : decode cX12_type 26 = .ok (.getfield 171, 3) := by decide +kernel
theorem dX12_type_29 : decode cX12_type 29 = .ok (.iload_n 3, 1) := by decide +kernel
theorem dX12_type_30 : decode cX12_type 30 = .ok (.iaload, 1) := by decide +kernel
theorem dX12_type_31 : decode cX12_type 31 = .ok (.ireturn, 1) := by decide +kernel
abbrev cX12_expAt : ByteArray := prog_14_method_136_code
def yX12_expAt : MethodName := ⟨RX12, "expAt", "(II)I"⟩
theorem dX12_expAt_0 : decode cX12_expAt 0 = .ok (.bipush (-2), 2) := by decide +kernel
theorem dX12_expAt_2 : decode cX12_expAt 2 = .ok (.istore_n 3, 1) := by decide +kernel
theorem dX12_expAt_3 : decode cX12_expAt 3 = .ok (.iconst 0, 1) := by decide +kernel
theorem dX12_expAt_4 : decode cX12_expAt 4 = .ok (.istore 4, 2) := by decide +kernel
theorem dX12_expAt_6 : decode cX12_expAt 6 = .ok (.iload 4, 2) := by decide +kernel
theorem dX12_expAt_8 : decode cX12_expAt 8 = .ok (.aload_n 0, 1) := by decide +kernel
theorem dX12_expAt_9 : decode cX12_expAt 9 = .ok (.getfield 659, 3) := by decide +kernel
theorem dX12_expAt_12 : decode cX12_expAt 12 = .ok (.if_icmp .ge 34, 3) := by decide +kernel
theorem dX12_expAt_15 : decode cX12_expAt 15 = .ok (.aload_n 0, 1) := by decide +kernel
theorem dX12_expAt_16 : decode cX12_expAt 16 = .ok (.getfield 165, 3) := by decide +kernel
theorem dX12_expAt_19 : decode cX12_expAt 19 = .ok (.iload 4, 2) := by decide +kernel
theorem dX12_expAt_21 : decode cX12_expAt 21 = .ok (.iaload, 1) := by decide +kernel
theorem dX12_expAt_22 : decode cX12_expAt 22 = .ok (.iload_n 1, 1) := by decide +kernel
theorem dX12_expAt_23 : decode cX12_expAt 23 = .ok (.if_icmp .ne 17, 3) := by decide +kernel
theorem dX12_expAt_26 : decode cX12_expAt 26 = .ok (.aload_n 0, 1) := by decide +kernel
theorem dX12_expAt_27 : decode cX12_expAt 27 = .ok (.getfield 168, 3) := by decide +kernel
theorem dX12_expAt_30 : decode cX12_expAt 30 = .ok (.iload 4, 2) := by decide +kernel
theorem dX12_expAt_32 : decode cX12_expAt 32 = .ok (.iaload, 1) := by decide +kernel
theorem dX12_expAt_33 : decode cX12_expAt 33 = .ok (.iload_n 2, 1) := by decide +kernel
theorem dX12_expAt_34 : decode cX12_expAt 34 = .ok (.if_icmp .ne 6, 3) := by decide +kernel
theorem dX12_expAt_37 : decode cX12_expAt 37 = .ok (.iload 4, 2) := by decide +kernel
theorem dX12_expAt_39 : decode cX12_expAt 39 = .ok (.istore_n 3, 1) := by decide +kernel
theorem dX12_expAt_40 : decode cX12_expAt 40 = .ok (.iinc 4 1, 3) := by decide +kernel
theorem dX12_expAt_43 : decode cX12_expAt 43 = .ok (.goto (-37), 3) := by decide +kernel
theorem dX12_expAt_46 : decode cX12_expAt 46 = .ok (.iload_n 3, 1) := by decide +kernel
theorem dX12_expAt_47 : decode cX12_expAt 47 = .ok (.ireturn, 1) := by decide +kernel
abbrev cX12_constant : ByteArray := prog_14_method_138_code
def yX12_constant : MethodName := ⟨RX12, "constant", "(II)J"⟩
theorem dX12_constant_0 : decode cX12_constant 0 = .ok (.aload_n 0, 1) := by decide +kernel
theorem dX12_constant_1 : decode cX12_constant 1 = .ok (.invokevirtual 884, 3) := by decide +kernel
theorem dX12_constant_4 : decode cX12_constant 4 = .ok (.ifCond .ne 7, 3) := by decide +kernel
theorem dX12_constant_7 : decode cX12_constant 7 = .ok (.ldc2_w 899, 3) := by decide +kernel
theorem dX12_constant_10 : decode cX12_constant 10 = .ok (.lreturn, 1) := by decide +kernel
theorem dX12_constant_11 : decode cX12_constant 11 = .ok (.aload_n 0, 1) := by decide +kernel
theorem dX12_constant_12 : decode cX12_constant 12 = .ok (.iload_n 1, 1) := by decide +kernel
theorem dX12_constant_13 : decode cX12_constant 13 = .ok (.iload_n 2, 1) := by decide +kernel
theorem dX12_constant_14 : decode cX12_constant 14 = .ok (.invokevirtual 896, 3) := by decide +kernel
theorem dX12_constant_17 : decode cX12_constant 17 = .ok (.istore_n 3, 1) := by decide +kernel
theorem dX12_constant_18 : decode cX12_constant 18 = .ok (.iload_n 3, 1) := by decide +kernel
theorem dX12_constant_19 : decode cX12_constant 19 = .ok (.ifCond .lt 12, 3) := by decide +kernel
theorem dX12_constant_22 : decode cX12_constant 22 = .ok (.aload_n 0, 1) := by decide +kernel
theorem dX12_constant_23 : decode cX12_constant 23 = .ok (.getfield 174, 3) := by decide +kernel
theorem dX12_constant_26 : decode cX12_constant 26 = .ok (.iload_n 3, 1) := by decide +kernel
theorem dX12_constant_27 : decode cX12_constant 27 = .ok (.baload, 1) := by decide +kernel
theorem dX12_constant_28 : decode cX12_constant 28 = .ok (.ifCond .ne 9, 3) := by decide +kernel
theorem dX12_constant_31 : decode cX12_constant 31 = .ok (.ldc2_w 899, 3) := by decide +kernel
theorem dX12_constant_34 : decode cX12_constant 34 = .ok (.goto 9, 3) := by decide +kernel
theorem dX12_constant_37 : decode cX12_constant 37 = .ok (.aload_n 0, 1) := by decide +kernel
theorem dX12_constant_38 : decode cX12_constant 38 = .ok (.getfield 177, 3) := by decide +kernel
theorem dX12_constant_41 : decode cX12_constant 41 = .ok (.iload_n 3, 1) := by decide +kernel
theorem dX12_constant_42 : decode cX12_constant 42 = .ok (.laload, 1) := by decide +kernel
theorem dX12_constant_43 : decode cX12_constant 43 = .ok (.lreturn, 1) := by decide +kernel
abbrev cX12_ends : ByteArray := prog_14_method_139_code
def yX12_ends : MethodName := ⟨RX12, "ends", "(I)I"⟩
theorem dX12_ends_0 : decode cX12_ends 0 = .ok (.aload_n 0, 1) := by decide +kernel
theorem dX12_ends_1 : decode cX12_ends 1 = .ok (.invokevirtual 884, 3) := by decide +kernel
theorem dX12_ends_4 : decode cX12_ends 4 = .ok (.ifCond .ne 6, 3) := by decide +kernel
theorem dX12_ends_7 : decode cX12_ends 7 = .ok (.bipush (-2), 2) := by decide +kernel
theorem dX12_ends_9 : decode cX12_ends 9 = .ok (.ireturn, 1) := by decide +kernel
theorem dX12_ends_10 : decode cX12_ends 10 = .ok (.aload_n 0, 1) := by decide +kernel
theorem dX12_ends_11 : decode cX12_ends 11 = .ok (.iload_n 1, 1) := by decide +kernel
theorem dX12_ends_12 : decode cX12_ends 12 = .ok (.invokevirtual 893, 3) := by decide +kernel
theorem dX12_ends_15 : decode cX12_ends 15 = .ok (.ifCond .eq 12, 3) := by decide +kernel
theorem dX12_ends_18 : decode cX12_ends 18 = .ok (.aload_n 0, 1) := by decide +kernel
theorem dX12_ends_19 : decode cX12_ends 19 = .ok (.getfield 246, 3) := by decide +kernel
theorem dX12_ends_22 : decode cX12_ends 22 = .ok (.iload_n 1, 1) := by decide +kernel
theorem dX12_ends_23 : decode cX12_ends 23 = .ok (.baload, 1) := by decide +kernel
theorem dX12_ends_24 : decode cX12_ends 24 = .ok (.ifCond .ne 7, 3) := by decide +kernel
theorem dX12_ends_27 : decode cX12_ends 27 = .ok (.iconst (-1), 1) := by decide +kernel
theorem dX12_ends_28 : decode cX12_ends 28 = .ok (.goto 17, 3) := by decide +kernel
theorem dX12_ends_31 : decode cX12_ends 31 = .ok (.aload_n 0, 1) := by decide +kernel
theorem dX12_ends_32 : decode cX12_ends 32 = .ok (.getfield 252, 3) := by decide +kernel
theorem dX12_ends_35 : decode cX12_ends 35 = .ok (.iload_n 1, 1) := by decide +kernel
theorem dX12_ends_36 : decode cX12_ends 36 = .ok (.baload, 1) := by decide +kernel
theorem dX12_ends_37 : decode cX12_ends 37 = .ok (.ifCond .eq 7, 3) := by decide +kernel
theorem dX12_ends_40 : decode cX12_ends 40 = .ok (.iconst 1, 1) := by decide +kernel
theorem dX12_ends_41 : decode cX12_ends 41 = .ok (.goto 4, 3) := by decide +kernel
theorem dX12_ends_44 : decode cX12_ends 44 = .ok (.iconst 0, 1) := by decide +kernel
theorem dX12_ends_45 : decode cX12_ends 45 = .ok (.ireturn, 1) := by decide +kernel
abbrev cX12_assigned : ByteArray := prog_14_method_140_code
def yX12_assigned : MethodName := ⟨RX12, "assigned", "(II)I"⟩
theorem dX12_assigned_0 : decode cX12_assigned 0 = .ok (.aload_n 0, 1) := by decide +kernel
theorem dX12_assigned_1 : decode cX12_assigned 1 = .ok (.invokevirtual 884, 3) := by decide +kernel
theorem dX12_assigned_4 : decode cX12_assigned 4 = .ok (.ifCond .ne 6, 3) := by decide +kernel
theorem dX12_assigned_7 : decode cX12_assigned 7 = .ok (.bipush (-2), 2) := by decide +kernel
theorem dX12_assigned_9 : decode cX12_assigned 9 = .ok (.ireturn, 1) := by decide +kernel
theorem dX12_assigned_10 : decode cX12_assigned 10 = .ok (.aload_n 0, 1) := by decide +kernel
theorem dX12_assigned_11 : decode cX12_assigned 11 = .ok (.iload_n 1, 1) := by decide +kernel
theorem dX12_assigned_12 : decode cX12_assigned 12 = .ok (.invokevirtual 893, 3) := by decide +kernel
theorem dX12_assigned_15 : decode cX12_assigned 15 = .ok (.ifCond .eq 44, 3) := by decide +kernel
theorem dX12_assigned_18 : decode cX12_assigned 18 = .ok (.aload_n 0, 1) := by decide +kernel
theorem dX12_assigned_19 : decode cX12_assigned 19 = .ok (.getfield 246, 3) := by decide +kernel
theorem dX12_assigned_22 : decode cX12_assigned 22 = .ok (.iload_n 1, 1) := by decide +kernel
theorem dX12_assigned_23 : decode cX12_assigned 23 = .ok (.baload, 1) := by decide +kernel
theorem dX12_assigned_24 : decode cX12_assigned 24 = .ok (.ifCond .eq 35, 3) := by decide +kernel
theorem dX12_assigned_27 : decode cX12_assigned 27 = .ok (.iload_n 2, 1) := by decide +kernel
theorem dX12_assigned_28 : decode cX12_assigned 28 = .ok (.ifCond .lt 31, 3) := by decide +kernel
theorem dX12_assigned_31 : decode cX12_assigned 31 = .ok (.iload_n 2, 1) := by decide +kernel
theorem dX12_assigned_32 : decode cX12_assigned 32 = .ok (.aload_n 0, 1) := by decide +kernel
theorem dX12_assigned_33 : decode cX12_assigned 33 = .ok (.getfield 519, 3) := by decide +kernel
theorem dX12_assigned_36 : decode cX12_assigned 36 = .ok (.if_icmp .ge 23, 3) := by decide +kernel
theorem dX12_assigned_39 : decode cX12_assigned 39 = .ok (.iload_n 1, 1) := by decide +kernel
theorem dX12_assigned_40 : decode cX12_assigned 40 = .ok (.aload_n 0, 1) := by decide +kernel
theorem dX12_assigned_41 : decode cX12_assigned 41 = .ok (.getfield 90, 3) := by decide +kernel
theorem dX12_assigned_44 : decode cX12_assigned 44 = .ok (.iload_n 2, 1) := by decide +kernel
theorem dX12_assigned_45 : decode cX12_assigned 45 = .ok (.iaload, 1) := by decide +kernel
theorem dX12_assigned_46 : decode cX12_assigned 46 = .ok (.if_icmp .le 13, 3) := by decide +kernel
theorem dX12_assigned_49 : decode cX12_assigned 49 = .ok (.iload_n 1, 1) := by decide +kernel
theorem dX12_assigned_50 : decode cX12_assigned 50 = .ok (.aload_n 0, 1) := by decide +kernel
theorem dX12_assigned_51 : decode cX12_assigned 51 = .ok (.getfield 105, 3) := by decide +kernel
theorem dX12_assigned_54 : decode cX12_assigned 54 = .ok (.iload_n 2, 1) := by decide +kernel
theorem dX12_assigned_55 : decode cX12_assigned 55 = .ok (.iaload, 1) := by decide +kernel
theorem dX12_assigned_56 : decode cX12_assigned 56 = .ok (.if_icmp .le 5, 3) := by decide +kernel
theorem dX12_assigned_59 : decode cX12_assigned 59 = .ok (.iconst (-1), 1) := by decide +kernel
theorem dX12_assigned_60 : decode cX12_assigned 60 = .ok (.ireturn, 1) := by decide +kernel
theorem dX12_assigned_61 : decode cX12_assigned 61 = .ok (.aload_n 0, 1) := by decide +kernel
theorem dX12_assigned_62 : decode cX12_assigned 62 = .ok (.getfield 249, 3) := by decide +kernel
theorem dX12_assigned_65 : decode cX12_assigned 65 = .ok (.iload_n 1, 1) := by decide +kernel
theorem dX12_assigned_66 : decode cX12_assigned 66 = .ok (.laload, 1) := by decide +kernel
theorem dX12_assigned_67 : decode cX12_assigned 67 = .ok (.iload_n 2, 1) := by decide +kernel
theorem dX12_assigned_68 : decode cX12_assigned 68 = .ok (.lshr, 1) := by decide +kernel
theorem dX12_assigned_69 : decode cX12_assigned 69 = .ok (.lconst 1, 1) := by decide +kernel
theorem dX12_assigned_70 : decode cX12_assigned 70 = .ok (.land, 1) := by decide +kernel
theorem dX12_assigned_71 : decode cX12_assigned 71 = .ok (.lconst 1, 1) := by decide +kernel
theorem dX12_assigned_72 : decode cX12_assigned 72 = .ok (.lcmp, 1) := by decide +kernel
theorem dX12_assigned_73 : decode cX12_assigned 73 = .ok (.ifCond .ne 7, 3) := by decide +kernel
theorem dX12_assigned_76 : decode cX12_assigned 76 = .ok (.iconst 1, 1) := by decide +kernel
theorem dX12_assigned_77 : decode cX12_assigned 77 = .ok (.goto 4, 3) := by decide +kernel
theorem dX12_assigned_80 : decode cX12_assigned 80 = .ok (.iconst 0, 1) := by decide +kernel
theorem dX12_assigned_81 : decode cX12_assigned 81 = .ok (.ireturn, 1) := by decide +kernel
abbrev cX12_argument : ByteArray := prog_14_method_141_code
def yX12_argument : MethodName := ⟨RX12, "argument", "(IJ)I"⟩
theorem dX12_argument_0 : decode cX12_argument 0 = .ok (.iload_n 1, 1) := by decide +kernel
theorem dX12_argument_1 : decode cX12_argument 1 = .ok (.ifCond .lt 8, 3) := by decide +kernel
theorem dX12_argument_4 : decode cX12_argument 4 = .ok (.iload_n 1, 1) := by decide +kernel
theorem dX12_argument_5 : decode cX12_argument 5 = .ok (.iconst 5, 1) := by decide +kernel
theorem dX12_argument_6 : decode cX12_argument 6 = .ok (.if_icmp .le 5, 3) := by decide +kernel
theorem dX12_argument_9 : decode cX12_argument 9 = .ok (.iconst (-1), 1) := by decide +kernel
theorem dX12_argument_10 : decode cX12_argument 10 = .ok (.ireturn, 1) := by decide +kernel
theorem dX12_argument_11 : decode cX12_argument 11 = .ok (.aload_n 0, 1) := by decide +kernel
theorem dX12_argument_12 : decode cX12_argument 12 = .ok (.getfield 265, 3) := by decide +kernel
theorem dX12_argument_15 : decode cX12_argument 15 = .ok (.iload_n 1, 1) := by decide +kernel
theorem dX12_argument_16 : decode cX12_argument 16 = .ok (.lload_n 2, 1) := by decide +kernel
theorem dX12_argument_17 : decode cX12_argument 17 = .ok (.lastore, 1) := by decide +kernel
theorem dX12_argument_18 : decode cX12_argument 18 = .ok (.iconst 1, 1) := by decide +kernel
theorem dX12_argument_19 : decode cX12_argument 19 = .ok (.ireturn, 1) := by decide +kernel
abbrev cX12_input : ByteArray := prog_14_method_142_code
def yX12_input : MethodName := ⟨RX12, "input", "(I)I"⟩
theorem dX12_input_0 : decode cX12_input 0 = .ok (.aload_n 0, 1) := by decide +kernel
theorem dX12_input_1 : decode cX12_input 1 = .ok (.getfield 890, 3) := by decide +kernel
theorem dX12_input_4 : decode cX12_input 4 = .ok (.bipush 40, 2) := by decide +kernel
theorem dX12_input_6 : decode cX12_input 6 = .ok (.if_icmp .ne 6, 3) := by decide +kernel
theorem dX12_input_9 : decode cX12_input 9 = .ok (.bipush (-3), 2) := by decide +kernel
theorem dX12_input_11 : decode cX12_input 11 = .ok (.ireturn, 1) := by decide +kernel
theorem dX12_input_12 : decode cX12_input 12 = .ok (.aload_n 0, 1) := by decide +kernel
theorem dX12_input_13 : decode cX12_input 13 = .ok (.getfield 262, 3) := by decide +kernel
theorem dX12_input_16 : decode cX12_input 16 = .ok (.aload_n 0, 1) := by decide +kernel
theorem dX12_input_17 : decode cX12_input 17 = .ok (.getfield 890, 3) := by decide +kernel
theorem dX12_input_20 : decode cX12_input 20 = .ok (.iload_n 1, 1) := by decide +kernel
theorem dX12_input_21 : decode cX12_input 21 = .ok (.iastore, 1) := by decide +kernel
theorem dX12_input_22 : decode cX12_input 22 = .ok (.aload_n 0, 1) := by decide +kernel
theorem dX12_input_23 : decode cX12_input 23 = .ok (.dup, 1) := by decide +kernel
theorem dX12_input_24 : decode cX12_input 24 = .ok (.getfield 890, 3) := by decide +kernel
theorem dX12_input_27 : decode cX12_input 27 = .ok (.iconst 1, 1) := by decide +kernel
theorem dX12_input_28 : decode cX12_input 28 = .ok (.iadd, 1) := by decide +kernel
theorem dX12_input_29 : decode cX12_input 29 = .ok (.putfield 890, 3) := by decide +kernel
theorem dX12_input_32 : decode cX12_input 32 = .ok (.aload_n 0, 1) := by decide +kernel
theorem dX12_input_33 : decode cX12_input 33 = .ok (.getfield 890, 3) := by decide +kernel
theorem dX12_input_36 : decode cX12_input 36 = .ok (.ireturn, 1) := by decide +kernel
abbrev cX12_drain : ByteArray := prog_14_method_143_code
def yX12_drain : MethodName := ⟨RX12, "drain", "()I"⟩
theorem dX12_drain_0 : decode cX12_drain 0 = .ok (.aload_n 0, 1) := by decide +kernel
theorem dX12_drain_1 : decode cX12_drain 1 = .ok (.getfield 890, 3) := by decide +kernel
theorem dX12_drain_4 : decode cX12_drain 4 = .ok (.istore_n 1, 1) := by decide +kernel
theorem dX12_drain_5 : decode cX12_drain 5 = .ok (.aload_n 0, 1) := by decide +kernel
theorem dX12_drain_6 : decode cX12_drain 6 = .ok (.iconst 0, 1) := by decide +kernel
theorem dX12_drain_7 : decode cX12_drain 7 = .ok (.putfield 890, 3) := by decide +kernel
theorem dX12_drain_10 : decode cX12_drain 10 = .ok (.iload_n 1, 1) := by decide +kernel
theorem dX12_drain_11 : decode cX12_drain 11 = .ok (.ireturn, 1) := by decide +kernel
abbrev cX12_run : ByteArray := prog_14_method_153_code
def yX12_run : MethodName := ⟨RX12, "run", "(II)I"⟩
theorem dX12_run_0 : decode cX12_run 0 = .ok (.iload_n 1, 1) := by decide +kernel
theorem dX12_run_1 : decode cX12_run 1 = .ok (.ifCond .lt 23, 3) := by decide +kernel
theorem dX12_run_4 : decode cX12_run 4 = .ok (.iload_n 1, 1) := by decide +kernel
theorem dX12_run_5 : decode cX12_run 5 = .ok (.aload_n 0, 1) := by decide +kernel
theorem dX12_run_6 : decode cX12_run 6 = .ok (.getfield 516, 3) := by decide +kernel
theorem dX12_run_9 : decode cX12_run 9 = .ok (.if_icmp .ge 15, 3) := by decide +kernel
theorem dX12_run_12 : decode cX12_run 12 = .ok (.iload_n 2, 1) := by decide +kernel
theorem dX12_run_13 : decode cX12_run 13 = .ok (.iconst 1, 1) := by decide +kernel
theorem dX12_run_14 : decode cX12_run 14 = .ok (.if_icmp .lt 10, 3) := by decide +kernel
theorem dX12_run_17 : decode cX12_run 17 = .ok (.iload_n 2, 1) := by decide +kernel
theorem dX12_run_18 : decode cX12_run 18 = .ok (.sipush 20000, 3) := by decide +kernel
theorem dX12_run_21 : decode cX12_run 21 = .ok (.if_icmp .le 5, 3) := by decide +kernel
theorem dX12_run_24 : decode cX12_run 24 = .ok (.iconst (-1), 1) := by decide +kernel
theorem dX12_run_25 : decode cX12_run 25 = .ok (.ireturn, 1) := by decide +kernel
theorem dX12_run_26 : decode cX12_run 26 = .ok (.aload_n 0, 1) := by decide +kernel
theorem dX12_run_27 : decode cX12_run 27 = .ok (.invokevirtual 884, 3) := by decide +kernel
theorem dX12_run_30 : decode cX12_run 30 = .ok (.ifCond .ne 6, 3) := by decide +kernel
theorem dX12_run_33 : decode cX12_run 33 = .ok (.bipush (-2), 2) := by decide +kernel
theorem dX12_run_35 : decode cX12_run 35 = .ok (.ireturn, 1) := by decide +kernel
theorem dX12_run_36 : decode cX12_run 36 = .ok (.aload_n 0, 1) := by decide +kernel
theorem dX12_run_37 : decode cX12_run 37 = .ok (.invokevirtual 934, 3) := by decide +kernel
theorem dX12_run_40 : decode cX12_run 40 = .ok (.aload_n 0, 1) := by decide +kernel
theorem dX12_run_41 : decode cX12_run 41 = .ok (.iconst 1, 1) := by decide +kernel
theorem dX12_run_42 : decode cX12_run 42 = .ok (.putfield 878, 3) := by decide +kernel
theorem dX12_run_45 : decode cX12_run 45 = .ok (.aload_n 0, 1) := by decide +kernel
theorem dX12_run_46 : decode cX12_run 46 = .ok (.iconst 0, 1) := by decide +kernel
theorem dX12_run_47 : decode cX12_run 47 = .ok (.putfield 910, 3) := by decide +kernel
theorem dX12_run_50 : decode cX12_run 50 = .ok (.aload_n 0, 1) := by decide +kernel
theorem dX12_run_51 : decode cX12_run 51 = .ok (.lconst 0, 1) := by decide +kernel
theorem dX12_run_52 : decode cX12_run 52 = .ok (.putfield 925, 3) := by decide +kernel
theorem dX12_run_55 : decode cX12_run 55 = .ok (.aload_n 0, 1) := by decide +kernel
theorem dX12_run_56 : decode cX12_run 56 = .ok (.iconst 0, 1) := by decide +kernel
theorem dX12_run_57 : decode cX12_run 57 = .ok (.putfield 904, 3) := by decide +kernel
theorem dX12_run_60 : decode cX12_run 60 = .ok (.aload_n 0, 1) := by decide +kernel
theorem dX12_run_61 : decode cX12_run 61 = .ok (.iload_n 2, 1) := by decide +kernel
theorem dX12_run_62 : decode cX12_run 62 = .ok (.putfield 907, 3) := by decide +kernel
theorem dX12_run_65 : decode cX12_run 65 = .ok (.aload_n 0, 1) := by decide +kernel
theorem dX12_run_66 : decode cX12_run 66 = .ok (.iconst 0, 1) := by decide +kernel
theorem dX12_run_67 : decode cX12_run 67 = .ok (.putfield 937, 3) := by decide +kernel
theorem dX12_run_70 : decode cX12_run 70 = .ok (.aload_n 0, 1) := by decide +kernel
theorem dX12_run_71 : decode cX12_run 71 = .ok (.bipush (-2), 2) := by decide +kernel
theorem dX12_run_73 : decode cX12_run 73 = .ok (.putfield 940, 3) := by decide +kernel
theorem dX12_run_76 : decode cX12_run 76 = .ok (.aload_n 0, 1) := by decide +kernel
theorem dX12_run_77 : decode cX12_run 77 = .ok (.iconst 0, 1) := by decide +kernel
theorem dX12_run_78 : decode cX12_run 78 = .ok (.putfield 943, 3) := by decide +kernel
theorem dX12_run_81 : decode cX12_run 81 = .ok (.aload_n 0, 1) := by decide +kernel
theorem dX12_run_82 : decode cX12_run 82 = .ok (.iconst 0, 1) := by decide +kernel
theorem dX12_run_83 : decode cX12_run 83 = .ok (.putfield 901, 3) := by decide +kernel
theorem dX12_run_86 : decode cX12_run 86 = .ok (.aload_n 0, 1) := by decide +kernel
theorem dX12_run_87 : decode cX12_run 87 = .ok (.iconst 0, 1) := by decide +kernel
theorem dX12_run_88 : decode cX12_run 88 = .ok (.putfield 913, 3) := by decide +kernel
theorem dX12_run_91 : decode cX12_run 91 = .ok (.aload_n 0, 1) := by decide +kernel
theorem dX12_run_92 : decode cX12_run 92 = .ok (.iconst 0, 1) := by decide +kernel
theorem dX12_run_93 : decode cX12_run 93 = .ok (.putfield 916, 3) := by decide +kernel
theorem dX12_run_96 : decode cX12_run 96 = .ok (.aload_n 0, 1) := by decide +kernel
theorem dX12_run_97 : decode cX12_run 97 = .ok (.invokevirtual 946, 3) := by decide +kernel
theorem dX12_run_100 : decode cX12_run 100 = .ok (.ifCond .eq 95, 3) := by decide +kernel
theorem dX12_run_103 : decode cX12_run 103 = .ok (.aload_n 0, 1) := by decide +kernel
theorem dX12_run_104 : decode cX12_run 104 = .ok (.iload_n 1, 1) := by decide +kernel
theorem dX12_run_105 : decode cX12_run 105 = .ok (.bipush (-2), 2) := by decide +kernel
theorem dX12_run_107 : decode cX12_run 107 = .ok (.invokevirtual 949, 3) := by decide +kernel
theorem dX12_run_110 : decode cX12_run 110 = .ok (.ifCond .eq 85, 3) := by decide +kernel
theorem dX12_run_113 : decode cX12_run 113 = .ok (.iconst 0, 1) := by decide +kernel
theorem dX12_run_114 : decode cX12_run 114 = .ok (.istore_n 3, 1) := by decide +kernel
theorem dX12_run_115 : decode cX12_run 115 = .ok (.iload_n 3, 1) := by decide +kernel
theorem dX12_run_116 : decode cX12_run 116 = .ok (.aload_n 0, 1) := by decide +kernel
theorem dX12_run_117 : decode cX12_run 117 = .ok (.getfield 81, 3) := by decide +kernel
theorem dX12_run_120 : decode cX12_run 120 = .ok (.iload_n 1, 1) := by decide +kernel
theorem dX12_run_121 : decode cX12_run 121 = .ok (.iaload, 1) := by decide +kernel
theorem dX12_run_122 : decode cX12_run 122 = .ok (.if_icmp .ge 45, 3) := by decide +kernel
theorem dX12_run_125 : decode cX12_run 125 = .ok (.aload_n 0, 1) := by decide +kernel
theorem dX12_run_126 : decode cX12_run 126 = .ok (.getfield 277, 3) := by decide +kernel
theorem dX12_run_129 : decode cX12_run 129 = .ok (.aload_n 0, 1) := by decide +kernel
theorem dX12_run_130 : decode cX12_run 130 = .ok (.getfield 84, 3) := by decide +kernel
theorem dX12_run_133 : decode cX12_run 133 = .ok (.iload_n 1, 1) := by decide +kernel
theorem dX12_run_134 : decode cX12_run 134 = .ok (.iaload, 1) := by decide +kernel
theorem dX12_run_135 : decode cX12_run 135 = .ok (.iload_n 3, 1) := by decide +kernel
theorem dX12_run_136 : decode cX12_run 136 = .ok (.iadd, 1) := by decide +kernel
theorem dX12_run_137 : decode cX12_run 137 = .ok (.aload_n 0, 1) := by decide +kernel
theorem dX12_run_138 : decode cX12_run 138 = .ok (.aload_n 0, 1) := by decide +kernel
theorem dX12_run_139 : decode cX12_run 139 = .ok (.getfield 93, 3) := by decide +kernel
theorem dX12_run_142 : decode cX12_run 142 = .ok (.aload_n 0, 1) := by decide +kernel
theorem dX12_run_143 : decode cX12_run 143 = .ok (.getfield 84, 3) := by decide +kernel
theorem dX12_run_146 : decode cX12_run 146 = .ok (.iload_n 1, 1) := by decide +kernel
theorem dX12_run_147 : decode cX12_run 147 = .ok (.iaload, 1) := by decide +kernel
theorem dX12_run_148 : decode cX12_run 148 = .ok (.iload_n 3, 1) := by decide +kernel
theorem dX12_run_149 : decode cX12_run 149 = .ok (.iadd, 1) := by decide +kernel
theorem dX12_run_150 : decode cX12_run 150 = .ok (.iaload, 1) := by decide +kernel
theorem dX12_run_151 : decode cX12_run 151 = .ok (.aload_n 0, 1) := by decide +kernel
theorem dX12_run_152 : decode cX12_run 152 = .ok (.getfield 265, 3) := by decide +kernel
theorem dX12_run_155 : decode cX12_run 155 = .ok (.iload_n 3, 1) := by decide +kernel
theorem dX12_run_156 : decode cX12_run 156 = .ok (.laload, 1) := by decide +kernel
theorem dX12_run_157 : decode cX12_run 157 = .ok (.invokevirtual 741, 3) := by decide +kernel
theorem dX12_run_160 : decode cX12_run 160 = .ok (.lastore, 1) := by decide +kernel
theorem dX12_run_161 : decode cX12_run 161 = .ok (.iinc 3 1, 3) := by decide +kernel
theorem dX12_run_164 : decode cX12_run 164 = .ok (.goto (-49), 3) := by decide +kernel
theorem dX12_run_167 : decode cX12_run 167 = .ok (.aload_n 0, 1) := by decide +kernel
theorem dX12_run_168 : decode cX12_run 168 = .ok (.aload_n 0, 1) := by decide +kernel
theorem dX12_run_169 : decode cX12_run 169 = .ok (.getfield 87, 3) := by decide +kernel
theorem dX12_run_172 : decode cX12_run 172 = .ok (.iload_n 1, 1) := by decide +kernel
theorem dX12_run_173 : decode cX12_run 173 = .ok (.iaload, 1) := by decide +kernel
theorem dX12_run_174 : decode cX12_run 174 = .ok (.putfield 919, 3) := by decide +kernel
theorem dX12_run_177 : decode cX12_run 177 = .ok (.aload_n 0, 1) := by decide +kernel
theorem dX12_run_178 : decode cX12_run 178 = .ok (.getfield 910, 3) := by decide +kernel
theorem dX12_run_181 : decode cX12_run 181 = .ok (.ifCond .ne 14, 3) := by decide +kernel
theorem dX12_run_184 : decode cX12_run 184 = .ok (.aload_n 0, 1) := by decide +kernel
theorem dX12_run_185 : decode cX12_run 185 = .ok (.aload_n 0, 1) := by decide +kernel
theorem dX12_run_186 : decode cX12_run 186 = .ok (.getfield 919, 3) := by decide +kernel
theorem dX12_run_189 : decode cX12_run 189 = .ok (.invokevirtual 952, 3) := by decide +kernel
theorem dX12_run_192 : decode cX12_run 192 = .ok (.goto (-15), 3) := by decide +kernel
theorem dX12_run_195 : decode cX12_run 195 = .ok (.aload_n 0, 1) := by decide +kernel
theorem dX12_run_196 : decode cX12_run 196 = .ok (.getfield 910, 3) := by decide +kernel
theorem dX12_run_199 : decode cX12_run 199 = .ok (.iconst 2, 1) := by decide +kernel
theorem dX12_run_200 : decode cX12_run 200 = .ok (.if_icmp .le 17, 3) := by decide +kernel
theorem dX12_run_203 : decode cX12_run 203 = .ok (.aload_n 0, 1) := by decide +kernel
theorem dX12_run_204 : decode cX12_run 204 = .ok (.getfield 910, 3) := by decide +kernel
theorem dX12_run_207 : decode cX12_run 207 = .ok (.bipush 10, 2) := by decide +kernel
theorem dX12_run_209 : decode cX12_run 209 = .ok (.if_icmp .ge 8, 3) := by decide +kernel
theorem dX12_run_212 : decode cX12_run 212 = .ok (.aload_n 0, 1) := by decide +kernel
theorem dX12_run_213 : decode cX12_run 213 = .ok (.lconst 0, 1) := by decide +kernel
theorem dX12_run_214 : decode cX12_run 214 = .ok (.putfield 925, 3) := by decide +kernel
theorem dX12_run_217 : decode cX12_run 217 = .ok (.aload_n 0, 1) := by decide +kernel
theorem dX12_run_218 : decode cX12_run 218 = .ok (.getfield 910, 3) := by decide +kernel
theorem dX12_run_221 : decode cX12_run 221 = .ok (.bipush 10, 2) := by decide +kernel
theorem dX12_run_223 : decode cX12_run 223 = .ok (.if_icmp .ne 7, 3) := by decide +kernel
theorem dX12_run_226 : decode cX12_run 226 = .ok (.iconst 0, 1) := by decide +kernel
theorem dX12_run_227 : decode cX12_run 227 = .ok (.goto 7, 3) := by decide +kernel
theorem dX12_run_230 : decode cX12_run 230 = .ok (.aload_n 0, 1) := by decide +kernel
theorem dX12_run_231 : decode cX12_run 231 = .ok (.getfield 910, 3) := by decide +kernel
theorem dX12_run_234 : decode cX12_run 234 = .ok (.ireturn, 1) := by decide +kernel
abbrev cX12_ran : ByteArray := prog_14_method_162_code
def yX12_ran : MethodName := ⟨RX12, "ran", "(I)J"⟩
theorem dX12_ran_0 : decode cX12_ran 0 = .ok (.aload_n 0, 1) := by decide +kernel
theorem dX12_ran_1 : decode cX12_ran 1 = .ok (.getfield 878, 3) := by decide +kernel
theorem dX12_ran_4 : decode cX12_ran 4 = .ok (.ifCond .ne 7, 3) := by decide +kernel
theorem dX12_ran_7 : decode cX12_ran 7 = .ok (.ldc2_w 899, 3) := by decide +kernel
theorem dX12_ran_10 : decode cX12_ran 10 = .ok (.lreturn, 1) := by decide +kernel
theorem dX12_ran_11 : decode cX12_ran 11 = .ok (.iload_n 1, 1) := by decide +kernel
theorem dX12_ran_12 : decode cX12_ran 12 = .ok (.bipush 10, 2) := by decide +kernel
theorem dX12_ran_14 : decode cX12_ran 14 = .ok (.if_icmp .lt 30, 3) := by decide +kernel
theorem dX12_ran_17 : decode cX12_ran 17 = .ok (.iload_n 1, 1) := by decide +kernel
theorem dX12_ran_18 : decode cX12_ran 18 = .ok (.bipush 10, 2) := by decide +kernel
theorem dX12_ran_20 : decode cX12_ran 20 = .ok (.aload_n 0, 1) := by decide +kernel
theorem dX12_ran_21 : decode cX12_ran 21 = .ok (.getfield 943, 3) := by decide +kernel
theorem dX12_ran_24 : decode cX12_ran 24 = .ok (.iadd, 1) := by decide +kernel
theorem dX12_ran_25 : decode cX12_ran 25 = .ok (.if_icmp .ge 15, 3) := by decide +kernel
theorem dX12_ran_28 : decode cX12_ran 28 = .ok (.aload_n 0, 1) := by decide +kernel
theorem dX12_ran_29 : decode cX12_ran 29 = .ok (.getfield 307, 3) := by decide +kernel
theorem dX12_ran_32 : decode cX12_ran 32 = .ok (.iload_n 1, 1) := by decide +kernel
theorem dX12_ran_33 : decode cX12_ran 33 = .ok (.bipush 10, 2) := by decide +kernel
theorem dX12_ran_35 : decode cX12_ran 35 = .ok (.isub, 1) := by decide +kernel
theorem dX12_ran_36 : decode cX12_ran 36 = .ok (.laload, 1) := by decide +kernel
theorem dX12_ran_37 : decode cX12_ran 37 = .ok (.goto 6, 3) := by decide +kernel
theorem dX12_ran_40 : decode cX12_ran 40 = .ok (.ldc2_w 899, 3) := by decide +kernel
theorem dX12_ran_43 : decode cX12_ran 43 = .ok (.lreturn, 1) := by decide +kernel
theorem dX12_ran_44 : decode cX12_ran 44 = .ok (.iload_n 1, 1) := by decide +kernel
theorem dX12_ran_45 : decode cX12_ran 45 = .ok (.tableswitch 77 0 4 #[35, 40, 46, 52, 58], 35) := by decide +kernel
theorem dX12_ran_80 : decode cX12_ran 80 = .ok (.aload_n 0, 1) := by decide +kernel
theorem dX12_ran_81 : decode cX12_ran 81 = .ok (.getfield 925, 3) := by decide +kernel
theorem dX12_ran_84 : decode cX12_ran 84 = .ok (.lreturn, 1) := by decide +kernel
theorem dX12_ran_85 : decode cX12_ran 85 = .ok (.aload_n 0, 1) := by decide +kernel
theorem dX12_ran_86 : decode cX12_ran 86 = .ok (.getfield 904, 3) := by decide +kernel
theorem dX12_ran_89 : decode cX12_ran 89 = .ok (.i2l, 1) := by decide +kernel
theorem dX12_ran_90 : decode cX12_ran 90 = .ok (.lreturn, 1) := by decide +kernel
theorem dX12_ran_91 : decode cX12_ran 91 = .ok (.aload_n 0, 1) := by decide +kernel
theorem dX12_ran_92 : decode cX12_ran 92 = .ok (.getfield 943, 3) := by decide +kernel
theorem dX12_ran_95 : decode cX12_ran 95 = .ok (.i2l, 1) := by decide +kernel
theorem dX12_ran_96 : decode cX12_ran 96 = .ok (.lreturn, 1) := by decide +kernel
theorem dX12_ran_97 : decode cX12_ran 97 = .ok (.aload_n 0, 1) := by decide +kernel
theorem dX12_ran_98 : decode cX12_ran 98 = .ok (.getfield 937, 3) := by decide +kernel
theorem dX12_ran_101 : decode cX12_ran 101 = .ok (.i2l, 1) := by decide +kernel
theorem dX12_ran_102 : decode cX12_ran 102 = .ok (.lreturn, 1) := by decide +kernel
theorem dX12_ran_103 : decode cX12_ran 103 = .ok (.aload_n 0, 1) := by decide +kernel
theorem dX12_ran_104 : decode cX12_ran 104 = .ok (.getfield 940, 3) := by decide +kernel
theorem dX12_ran_107 : decode cX12_ran 107 = .ok (.ifCond .ge 9, 3) := by decide +kernel
theorem dX12_ran_110 : decode cX12_ran 110 = .ok (.ldc2_w 899, 3) := by decide +kernel
theorem dX12_ran_113 : decode cX12_ran 113 = .ok (.goto 8, 3) := by decide +kernel
theorem dX12_ran_116 : decode cX12_ran 116 = .ok (.aload_n 0, 1) := by decide +kernel
theorem dX12_ran_117 : decode cX12_ran 117 = .ok (.getfield 940, 3) := by decide +kernel
theorem dX12_ran_120 : decode cX12_ran 120 = .ok (.i2l, 1) := by decide +kernel
theorem dX12_ran_121 : decode cX12_ran 121 = .ok (.lreturn, 1) := by decide +kernel
theorem dX12_ran_122 : decode cX12_ran 122 = .ok (.ldc2_w 899, 3) := by decide +kernel
theorem dX12_ran_125 : decode cX12_ran 125 = .ok (.lreturn, 1) := by decide +kernel
