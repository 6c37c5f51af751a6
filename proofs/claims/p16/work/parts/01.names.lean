/-! ===== BEGIN words of one list among another's, by their places ===== -/
theorem goodIn_r {big : List Cond} (ws : List Cond) (ps : List Nat) (hp : ws = ps.filterMap (fun i => big[i]?)) (h : ws.all goodWord = true) : GoodIn big ws := by
  intro w hw
  have h1 := List.all_eq_true.mp h w hw
  rw [hp] at hw
  obtain ⟨i, -, hi⟩ := List.mem_filterMap.mp hw
  have hm : w ∈ big := by first | exact List.mem_of_getElem? hi | exact List.getElem?_mem hi
  exact ⟨hm, good_of_word h1⟩
theorem goodIn_app {big a b : List Cond} (ha : GoodIn big a) (hb : GoodIn big b) : GoodIn big (a ++ b) := fun w h => (List.mem_append.mp h).elim (ha w) (hb w)
theorem goodIn_ca {big a b : List Cond} {c : Cond} (ha : GoodIn big (c :: a)) (hb : GoodIn big b) : GoodIn big (c :: (a ++ b)) := fun w h => (List.mem_cons.mp h).elim (fun e => ha w (List.mem_cons.mpr (Or.inl e))) (fun h => (List.mem_append.mp h).elim (fun h => ha w (List.mem_cons.mpr (Or.inr h))) (hb w))
theorem goodIn_sub {big ws : List Cond} (hm : ∀ w ∈ ws, w ∈ big) (h : ws.all goodWord = true) : GoodIn big ws := fun w hw => ⟨hm w hw, good_of_word (List.all_eq_true.mp h w hw)⟩
/-! ===== END ===== -/

def RJx4a65c : String := "java/util/ArrayList"
def TJx4a65c : u_T := fun k => match k with
  | 0 => ("java/util/AbstractList", "modCount", "I", false)
  | 1 => ("java/util/ArrayList", "elementData", "[Ljava/lang/Object;", false)
  | _ => ("java/util/ArrayList", "size", "I", false)
def tyJx4a65c : Nat → FieldType := fun k => match k with
  | 0 => .int
  | 1 => .array (.object "java/lang/Object")
  | _ => .int
abbrev wsJx4a65c0 : List Cond := u_ws RJx4a65c TJx4a65c 3
theorem nmJx4a65c : ∀ a, a < 3 → ∀ b, b < 3 → a ≠ b → (TJx4a65c a).2.1 ≠ (TJx4a65c b).2.1 := by decide +kernel
theorem tyJx4a65c_ok : ∀ k, k < 3 → parseFieldDescriptor (TJx4a65c k).2.2.1 = some (tyJx4a65c k) := by decide +kernel
def RX0 : String := "PlainJava$Code"
def TX0 : u_T := fun k => match k with
  | 0 => ("PlainJava$Code", "order", "[I", true)
  | 1 => ("PlainJava$Code", "target", "[I", true)
  | 2 => ("PlainJava$Code", "exp", "[LPlainJava$Exp;", true)
  | 3 => ("PlainJava$Code", "owner", "[LPlainJava$Statement;", true)
  | 4 => ("PlainJava$Code", "size", "I", false)
  | 5 => ("PlainJava$Code", "program", "LPlainJava$Program;", false)
  | _ => ("PlainJava$Code", "current", "LPlainJava$Statement;", false)
def tyX0 : Nat → FieldType := fun k => match k with
  | 0 => .array .int
  | 1 => .array .int
  | 2 => .array (.object "PlainJava$Exp")
  | 3 => .array (.object "PlainJava$Statement")
  | 4 => .int
  | 5 => .object "PlainJava$Program"
  | _ => .object "PlainJava$Statement"
abbrev wsX00 : List Cond := u_ws RX0 TX0 7
theorem nmX0 : ∀ a, a < 7 → ∀ b, b < 7 → a ≠ b → (TX0 a).2.1 ≠ (TX0 b).2.1 := by decide +kernel
theorem tyX0_ok : ∀ k, k < 7 → parseFieldDescriptor (TX0 k).2.2.1 = some (tyX0 k) := by decide +kernel
def RX1 : String := "PlainJava$Exp"
def TX1 : u_T := fun k => match k with
  | 0 => ("PlainJava$Exp", "kind", "I", true)
  | 1 => ("PlainJava$Exp", "sign", "I", true)
  | 2 => ("PlainJava$Exp", "first", "I", true)
  | 3 => ("PlainJava$Exp", "start", "I", true)
  | 4 => ("PlainJava$Exp", "last", "I", false)
  | 5 => ("PlainJava$Exp", "number", "I", false)
  | 6 => ("PlainJava$Exp", "name", "I", false)
  | 7 => ("PlainJava$Exp", "link", "I", false)
  | 8 => ("PlainJava$Exp", "type", "I", false)
  | 9 => ("PlainJava$Exp", "work", "I", false)
  | 10 => ("PlainJava$Exp", "isConstant", "Z", false)
  | 11 => ("PlainJava$Exp", "value", "J", false)
  | 12 => ("PlainJava$Exp", "a", "LPlainJava$Exp;", false)
  | 13 => ("PlainJava$Exp", "b", "LPlainJava$Exp;", false)
  | 14 => ("PlainJava$Exp", "c", "LPlainJava$Exp;", false)
  | 15 => ("PlainJava$Exp", "next", "LPlainJava$Exp;", false)
  | 16 => ("PlainJava$Exp", "mark", "LPlainJava$Exp;", false)
  | _ => ("PlainJava$Exp", "address", "I", false)
def tyX1 : Nat → FieldType := fun k => match k with
  | 0 => .int
  | 1 => .int
  | 2 => .int
  | 3 => .int
  | 4 => .int
  | 5 => .int
  | 6 => .int
  | 7 => .int
  | 8 => .int
  | 9 => .int
  | 10 => .boolean
  | 11 => .long
  | 12 => .object "PlainJava$Exp"
  | 13 => .object "PlainJava$Exp"
  | 14 => .object "PlainJava$Exp"
  | 15 => .object "PlainJava$Exp"
  | 16 => .object "PlainJava$Exp"
  | _ => .int
abbrev wsX10 : List Cond := u_ws RX1 TX1 18
theorem nmX1 : ∀ a, a < 18 → ∀ b, b < 18 → a ≠ b → (TX1 a).2.1 ≠ (TX1 b).2.1 := by decide +kernel
theorem tyX1_ok : ∀ k, k < 18 → parseFieldDescriptor (TX1 k).2.2.1 = some (tyX1 k) := by decide +kernel
def RX2 : String := "PlainJava$Flow"
def TX2 : u_T := fun k => match k with
  | 0 => ("PlainJava$Flow", "program", "LPlainJava$Program;", false)
  | 1 => ("PlainJava$Flow", "whenTrue", "J", false)
  | 2 => ("PlainJava$Flow", "whenFalse", "J", false)
  | 3 => ("PlainJava$Flow", "aside", "[J", true)
  | _ => ("PlainJava$Flow", "asideCount", "I", false)
def tyX2 : Nat → FieldType := fun k => match k with
  | 0 => .object "PlainJava$Program"
  | 1 => .long
  | 2 => .long
  | 3 => .array .long
  | _ => .int
abbrev wsX20 : List Cond := u_ws RX2 TX2 5
theorem nmX2 : ∀ a, a < 5 → ∀ b, b < 5 → a ≠ b → (TX2 a).2.1 ≠ (TX2 b).2.1 := by decide +kernel
theorem tyX2_ok : ∀ k, k < 5 → parseFieldDescriptor (TX2 k).2.2.1 = some (tyX2 k) := by decide +kernel
def RX3 : String := "PlainJava$Judge"
def TX3 : u_T := fun k => match k with
  | 0 => ("PlainJava$Judge", "flow", "LPlainJava$Flow;", true)
  | _ => ("PlainJava$Judge", "program", "LPlainJava$Program;", false)
def tyX3 : Nat → FieldType := fun k => match k with
  | 0 => .object "PlainJava$Flow"
  | _ => .object "PlainJava$Program"
abbrev wsX30 : List Cond := u_ws RX3 TX3 2
theorem nmX3 : ∀ a, a < 2 → ∀ b, b < 2 → a ≠ b → (TX3 a).2.1 ≠ (TX3 b).2.1 := by decide +kernel
theorem tyX3_ok : ∀ k, k < 2 → parseFieldDescriptor (TX3 k).2.2.1 = some (tyX3 k) := by decide +kernel
def RX4 : String := "PlainJava$Machine"
def TX4 : u_T := fun k => match k with
  | 0 => ("PlainJava$Machine", "values", "[J", true)
  | 1 => ("PlainJava$Machine", "stack", "[J", true)
  | 2 => ("PlainJava$Machine", "floors", "[I", true)
  | 3 => ("PlainJava$Machine", "returns", "[I", true)
  | 4 => ("PlainJava$Machine", "ways", "[I", true)
  | 5 => ("PlainJava$Machine", "carried", "[J", true)
  | 6 => ("PlainJava$Machine", "goals", "[LPlainJava$Statement;", true)
  | 7 => ("PlainJava$Machine", "numbers", "[J", true)
  | 8 => ("PlainJava$Machine", "code", "LPlainJava$Code;", true)
  | 9 => ("PlainJava$Machine", "inputs", "[I", false)
  | 10 => ("PlainJava$Machine", "inputCount", "I", false)
  | 11 => ("PlainJava$Machine", "at", "I", false)
  | 12 => ("PlainJava$Machine", "top", "I", false)
  | 13 => ("PlainJava$Machine", "calls", "I", false)
  | 14 => ("PlainJava$Machine", "limit", "I", false)
  | 15 => ("PlainJava$Machine", "steps", "I", false)
  | 16 => ("PlainJava$Machine", "told", "I", false)
  | 17 => ("PlainJava$Machine", "taken", "I", false)
  | 18 => ("PlainJava$Machine", "latest", "I", false)
  | 19 => ("PlainJava$Machine", "outcome", "I", false)
  | _ => ("PlainJava$Machine", "result", "J", false)
def tyX4 : Nat → FieldType := fun k => match k with
  | 0 => .array .long
  | 1 => .array .long
  | 2 => .array .int
  | 3 => .array .int
  | 4 => .array .int
  | 5 => .array .long
  | 6 => .array (.object "PlainJava$Statement")
  | 7 => .array .long
  | 8 => .object "PlainJava$Code"
  | 9 => .array .int
  | 10 => .int
  | 11 => .int
  | 12 => .int
  | 13 => .int
  | 14 => .int
  | 15 => .int
  | 16 => .int
  | 17 => .int
  | 18 => .int
  | 19 => .int
  | _ => .long
abbrev wsX40 : List Cond := u_ws RX4 TX4 21
theorem nmX4 : ∀ a, a < 21 → ∀ b, b < 21 → a ≠ b → (TX4 a).2.1 ≠ (TX4 b).2.1 := by decide +kernel
theorem tyX4_ok : ∀ k, k < 21 → parseFieldDescriptor (TX4 k).2.2.1 = some (tyX4 k) := by decide +kernel
def RX5 : String := "PlainJava$Method"
def TX5 : u_T := fun k => match k with
  | 0 => ("PlainJava$Method", "name", "I", true)
  | 1 => ("PlainJava$Method", "key", "J", true)
  | 2 => ("PlainJava$Method", "type", "I", true)
  | 3 => ("PlainJava$Method", "paramTypes", "[I", true)
  | 4 => ("PlainJava$Method", "firstVariable", "I", true)
  | 5 => ("PlainJava$Method", "params", "I", false)
  | _ => ("PlainJava$Method", "body", "LPlainJava$Statement;", false)
def tyX5 : Nat → FieldType := fun k => match k with
  | 0 => .int
  | 1 => .long
  | 2 => .int
  | 3 => .array .int
  | 4 => .int
  | 5 => .int
  | _ => .object "PlainJava$Statement"
abbrev wsX50 : List Cond := u_ws RX5 TX5 7
theorem nmX5 : ∀ a, a < 7 → ∀ b, b < 7 → a ≠ b → (TX5 a).2.1 ≠ (TX5 b).2.1 := by decide +kernel
theorem tyX5_ok : ∀ k, k < 7 → parseFieldDescriptor (TX5 k).2.2.1 = some (tyX5 k) := by decide +kernel
def RX6 : String := "PlainJava$Program"
def TX6 : u_T := fun k => match k with
  | 0 => ("PlainJava$Program", "tokens", "LPlainJava$Tokens;", true)
  | 1 => ("PlainJava$Program", "methods", "Ljava/util/ArrayList;", true)
  | 2 => ("PlainJava$Program", "variables", "Ljava/util/ArrayList;", true)
  | 3 => ("PlainJava$Program", "exps", "Ljava/util/ArrayList;", true)
  | 4 => ("PlainJava$Program", "statements", "Ljava/util/ArrayList;", true)
  | 5 => ("PlainJava$Program", "out", "LPlainJava$Method;", true)
  | 6 => ("PlainJava$Program", "in", "LPlainJava$Method;", true)
  | 7 => ("PlainJava$Program", "error", "I", false)
  | _ => ("PlainJava$Program", "errorPlace", "I", false)
def tyX6 : Nat → FieldType := fun k => match k with
  | 0 => .object "PlainJava$Tokens"
  | 1 => .object "java/util/ArrayList"
  | 2 => .object "java/util/ArrayList"
  | 3 => .object "java/util/ArrayList"
  | 4 => .object "java/util/ArrayList"
  | 5 => .object "PlainJava$Method"
  | 6 => .object "PlainJava$Method"
  | 7 => .int
  | _ => .int
abbrev wsX60 : List Cond := u_ws RX6 TX6 9
theorem nmX6 : ∀ a, a < 9 → ∀ b, b < 9 → a ≠ b → (TX6 a).2.1 ≠ (TX6 b).2.1 := by decide +kernel
theorem tyX6_ok : ∀ k, k < 9 → parseFieldDescriptor (TX6 k).2.2.1 = some (tyX6 k) := by decide +kernel
def RX7 : String := "PlainJava$Reader"
def TX7 : u_T := fun k => match k with
  | 0 => ("PlainJava$Reader", "program", "LPlainJava$Program;", false)
  | 1 => ("PlainJava$Reader", "tokens", "LPlainJava$Tokens;", false)
  | 2 => ("PlainJava$Reader", "at", "I", false)
  | 3 => ("PlainJava$Reader", "fault", "I", false)
  | 4 => ("PlainJava$Reader", "place", "I", false)
  | 5 => ("PlainJava$Reader", "known", "J", false)
  | _ => ("PlainJava$Reader", "around", "LPlainJava$Statement;", false)
def tyX7 : Nat → FieldType := fun k => match k with
  | 0 => .object "PlainJava$Program"
  | 1 => .object "PlainJava$Tokens"
  | 2 => .int
  | 3 => .int
  | 4 => .int
  | 5 => .long
  | _ => .object "PlainJava$Statement"
abbrev wsX70 : List Cond := u_ws RX7 TX7 7
theorem nmX7 : ∀ a, a < 7 → ∀ b, b < 7 → a ≠ b → (TX7 a).2.1 ≠ (TX7 b).2.1 := by decide +kernel
theorem tyX7_ok : ∀ k, k < 7 → parseFieldDescriptor (TX7 k).2.2.1 = some (tyX7 k) := by decide +kernel
def RX8 : String := "PlainJava$Statement"
def TX8 : u_T := fun k => match k with
  | 0 => ("PlainJava$Statement", "kind", "I", true)
  | 1 => ("PlainJava$Statement", "first", "I", true)
  | 2 => ("PlainJava$Statement", "level", "I", true)
  | 3 => ("PlainJava$Statement", "parent", "LPlainJava$Statement;", true)
  | 4 => ("PlainJava$Statement", "known", "J", true)
  | 5 => ("PlainJava$Statement", "next", "LPlainJava$Statement;", false)
  | 6 => ("PlainJava$Statement", "body", "LPlainJava$Statement;", false)
  | 7 => ("PlainJava$Statement", "other", "LPlainJava$Statement;", false)
  | 8 => ("PlainJava$Statement", "last", "LPlainJava$Statement;", false)
  | 9 => ("PlainJava$Statement", "exp", "LPlainJava$Exp;", false)
  | 10 => ("PlainJava$Statement", "link", "I", false)
  | 11 => ("PlainJava$Statement", "target", "LPlainJava$Statement;", false)
  | 12 => ("PlainJava$Statement", "ends", "Z", false)
  | 13 => ("PlainJava$Statement", "broken", "Z", false)
  | 14 => ("PlainJava$Statement", "continued", "Z", false)
  | 15 => ("PlainJava$Statement", "before", "J", false)
  | 16 => ("PlainJava$Statement", "behind", "J", false)
  | 17 => ("PlainJava$Statement", "breaks", "J", false)
  | 18 => ("PlainJava$Statement", "continues", "J", false)
  | 19 => ("PlainJava$Statement", "entry", "I", false)
  | _ => ("PlainJava$Statement", "exit", "I", false)
def tyX8 : Nat → FieldType := fun k => match k with
  | 0 => .int
  | 1 => .int
  | 2 => .int
  | 3 => .object "PlainJava$Statement"
  | 4 => .long
  | 5 => .object "PlainJava$Statement"
  | 6 => .object "PlainJava$Statement"
  | 7 => .object "PlainJava$Statement"
  | 8 => .object "PlainJava$Statement"
  | 9 => .object "PlainJava$Exp"
  | 10 => .int
  | 11 => .object "PlainJava$Statement"
  | 12 => .boolean
  | 13 => .boolean
  | 14 => .boolean
  | 15 => .long
  | 16 => .long
  | 17 => .long
  | 18 => .long
  | 19 => .int
  | _ => .int
abbrev wsX80 : List Cond := u_ws RX8 TX8 21
theorem nmX8 : ∀ a, a < 21 → ∀ b, b < 21 → a ≠ b → (TX8 a).2.1 ≠ (TX8 b).2.1 := by decide +kernel
theorem tyX8_ok : ∀ k, k < 21 → parseFieldDescriptor (TX8 k).2.2.1 = some (tyX8 k) := by decide +kernel
def RX9 : String := "PlainJava$Tokens"
def TX9 : u_T := fun k => match k with
  | 0 => ("PlainJava$Tokens", "place", "[I", true)
  | 1 => ("PlainJava$Tokens", "size", "[I", true)
  | 2 => ("PlainJava$Tokens", "code", "[I", true)
  | 3 => ("PlainJava$Tokens", "meaning", "[I", true)
  | 4 => ("PlainJava$Tokens", "worth", "[J", true)
  | 5 => ("PlainJava$Tokens", "count", "I", false)
  | 6 => ("PlainJava$Tokens", "words", "[J", true)
  | 7 => ("PlainJava$Tokens", "text", "[B", false)
  | _ => ("PlainJava$Tokens", "length", "I", false)
def tyX9 : Nat → FieldType := fun k => match k with
  | 0 => .array .int
  | 1 => .array .int
  | 2 => .array .int
  | 3 => .array .int
  | 4 => .array .long
  | 5 => .int
  | 6 => .array .long
  | 7 => .array .byte
  | _ => .int
abbrev wsX90 : List Cond := u_ws RX9 TX9 9
theorem nmX9 : ∀ a, a < 9 → ∀ b, b < 9 → a ≠ b → (TX9 a).2.1 ≠ (TX9 b).2.1 := by decide +kernel
theorem tyX9_ok : ∀ k, k < 9 → parseFieldDescriptor (TX9 k).2.2.1 = some (tyX9 k) := by decide +kernel
def RX10 : String := "PlainJava$Variable"
def TX10 : u_T := fun k => match k with
  | 0 => ("PlainJava$Variable", "name", "I", true)
  | 1 => ("PlainJava$Variable", "type", "I", true)
  | 2 => ("PlainJava$Variable", "isFinal", "Z", true)
  | 3 => ("PlainJava$Variable", "method", "I", true)
  | 4 => ("PlainJava$Variable", "clashes", "Z", false)
  | 5 => ("PlainJava$Variable", "isConstant", "Z", false)
  | _ => ("PlainJava$Variable", "value", "J", false)
def tyX10 : Nat → FieldType := fun k => match k with
  | 0 => .int
  | 1 => .int
  | 2 => .boolean
  | 3 => .int
  | 4 => .boolean
  | 5 => .boolean
  | _ => .long
abbrev wsX100 : List Cond := u_ws RX10 TX10 7
theorem nmX10 : ∀ a, a < 7 → ∀ b, b < 7 → a ≠ b → (TX10 a).2.1 ≠ (TX10 b).2.1 := by decide +kernel
theorem tyX10_ok : ∀ k, k < 7 → parseFieldDescriptor (TX10 k).2.2.1 = some (tyX10 k) := by decide +kernel
def RX11 : String := "PlainJava"
def TX11 : u_T := fun k => match k with
  | 0 => ("PlainJava", "tape", "[B", true)
  | 1 => ("PlainJava", "inputs", "[I", true)
  | 2 => ("PlainJava", "arguments", "[J", true)
  | 3 => ("PlainJava", "program", "LPlainJava$Program;", false)
  | 4 => ("PlainJava", "spare", "LPlainJava$Program;", false)
  | 5 => ("PlainJava", "reader", "LPlainJava$Reader;", true)
  | 6 => ("PlainJava", "judge", "LPlainJava$Judge;", true)
  | 7 => ("PlainJava", "code", "LPlainJava$Code;", true)
  | 8 => ("PlainJava", "machine", "LPlainJava$Machine;", true)
  | 9 => ("PlainJava", "length", "I", false)
  | 10 => ("PlainJava", "inputCount", "I", false)
  | 11 => ("PlainJava", "place", "I", false)
  | _ => ("PlainJava", "hasRun", "Z", false)
def tyX11 : Nat → FieldType := fun k => match k with
  | 0 => .array .byte
  | 1 => .array .int
  | 2 => .array .long
  | 3 => .object "PlainJava$Program"
  | 4 => .object "PlainJava$Program"
  | 5 => .object "PlainJava$Reader"
  | 6 => .object "PlainJava$Judge"
  | 7 => .object "PlainJava$Code"
  | 8 => .object "PlainJava$Machine"
  | 9 => .int
  | 10 => .int
  | 11 => .int
  | _ => .boolean
abbrev wsX110 : List Cond := u_ws RX11 TX11 13
theorem nmX11 : ∀ a, a < 13 → ∀ b, b < 13 → a ≠ b → (TX11 a).2.1 ≠ (TX11 b).2.1 := by decide +kernel
theorem tyX11_ok : ∀ k, k < 13 → parseFieldDescriptor (TX11 k).2.2.1 = some (tyX11 k) := by decide +kernel
def RX12 : String := "PlainJavaModel"
def TX12 : u_T := fun k => match k with
  | 0 => ("PlainJavaModel", "tape", "[I", true)
  | 1 => ("PlainJavaModel", "taped", "I", false)
  | 2 => ("PlainJavaModel", "count", "I", false)
  | 3 => ("PlainJavaModel", "tKind", "[I", true)
  | 4 => ("PlainJavaModel", "tAt", "[I", true)
  | 5 => ("PlainJavaModel", "tSize", "[I", true)
  | 6 => ("PlainJavaModel", "tWhat", "[I", true)
  | 7 => ("PlainJavaModel", "tHigh", "[J", true)
  | 8 => ("PlainJavaModel", "tLow", "[I", true)
  | 9 => ("PlainJavaModel", "tValue", "[J", true)
  | 10 => ("PlainJavaModel", "tLong", "[Z", true)
  | 11 => ("PlainJavaModel", "tGreat", "[I", true)
  | 12 => ("PlainJavaModel", "end", "I", false)
  | 13 => ("PlainJavaModel", "scan", "I", false)
  | 14 => ("PlainJavaModel", "pos", "I", false)
  | 15 => ("PlainJavaModel", "fault", "I", false)
  | 16 => ("PlainJavaModel", "faultAt", "I", false)
  | 17 => ("PlainJavaModel", "deep", "I", false)
  | 18 => ("PlainJavaModel", "codes", "I", false)
  | 19 => ("PlainJavaModel", "cOp", "[I", true)
  | 20 => ("PlainJavaModel", "cA", "[I", true)
  | 21 => ("PlainJavaModel", "cB", "[I", true)
  | 22 => ("PlainJavaModel", "cTok", "[I", true)
  | 23 => ("PlainJavaModel", "cFirst", "[I", true)
  | 24 => ("PlainJavaModel", "cLast", "[I", true)
  | 25 => ("PlainJavaModel", "oSort", "[I", true)
  | 26 => ("PlainJavaModel", "oSign", "[I", true)
  | 27 => ("PlainJavaModel", "oToken", "[I", true)
  | 28 => ("PlainJavaModel", "oArgs", "[I", true)
  | 29 => ("PlainJavaModel", "opens", "I", false)
  | 30 => ("PlainJavaModel", "vFirst", "[I", true)
  | 31 => ("PlainJavaModel", "wholes", "I", false)
  | 32 => ("PlainJavaModel", "lastToken", "I", false)
  | 33 => ("PlainJavaModel", "rootOp", "I", false)
  | 34 => ("PlainJavaModel", "waiting", "Z", false)
  | 35 => ("PlainJavaModel", "beginsNext", "Z", false)
  | 36 => ("PlainJavaModel", "methods", "I", false)
  | 37 => ("PlainJavaModel", "mToken", "[I", true)
  | 38 => ("PlainJavaModel", "mType", "[I", true)
  | 39 => ("PlainJavaModel", "mParams", "[I", true)
  | 40 => ("PlainJavaModel", "mFirst", "[I", true)
  | 41 => ("PlainJavaModel", "mCode", "[I", true)
  | 42 => ("PlainJavaModel", "variables", "I", false)
  | 43 => ("PlainJavaModel", "vToken", "[I", true)
  | 44 => ("PlainJavaModel", "vType", "[I", true)
  | 45 => ("PlainJavaModel", "vFinal", "[Z", true)
  | 46 => ("PlainJavaModel", "vMethod", "[I", true)
  | 47 => ("PlainJavaModel", "vFrame", "[I", true)
  | 48 => ("PlainJavaModel", "vEnd", "[I", true)
  | 49 => ("PlainJavaModel", "things", "I", false)
  | 50 => ("PlainJavaModel", "kSort", "[I", true)
  | 51 => ("PlainJavaModel", "kFrom", "[I", true)
  | 52 => ("PlainJavaModel", "kCond", "[I", true)
  | 53 => ("PlainJavaModel", "kUpdate", "[I", true)
  | 54 => ("PlainJavaModel", "kBody", "[I", true)
  | 55 => ("PlainJavaModel", "kEnd", "[I", true)
  | 56 => ("PlainJavaModel", "kElse", "[I", true)
  | 57 => ("PlainJavaModel", "kCatch", "[I", true)
  | 58 => ("PlainJavaModel", "kFinally", "[I", true)
  | 59 => ("PlainJavaModel", "kDefault", "[I", true)
  | 60 => ("PlainJavaModel", "kToken", "[I", true)
  | 61 => ("PlainJavaModel", "kVariable", "[I", true)
  | 62 => ("PlainJavaModel", "frames", "I", false)
  | 63 => ("PlainJavaModel", "fSort", "[I", true)
  | 64 => ("PlainJavaModel", "fThing", "[I", true)
  | 65 => ("PlainJavaModel", "fStep", "[I", true)
  | 66 => ("PlainJavaModel", "error", "I", false)
  | 67 => ("PlainJavaModel", "errorAt", "I", false)
  | 68 => ("PlainJavaModel", "judged", "Z", false)
  | 69 => ("PlainJavaModel", "lies", "I", false)
  | 70 => ("PlainJavaModel", "sType", "[I", true)
  | 71 => ("PlainJavaModel", "sSure", "[Z", true)
  | 72 => ("PlainJavaModel", "sValue", "[J", true)
  | 73 => ("PlainJavaModel", "sFirst", "[I", true)
  | 74 => ("PlainJavaModel", "exps0", "I", false)
  | 75 => ("PlainJavaModel", "xFirst", "[I", true)
  | 76 => ("PlainJavaModel", "xLast", "[I", true)
  | 77 => ("PlainJavaModel", "xType", "[I", true)
  | 78 => ("PlainJavaModel", "xSure", "[Z", true)
  | 79 => ("PlainJavaModel", "xValue", "[J", true)
  | 80 => ("PlainJavaModel", "tMean", "[I", true)
  | 81 => ("PlainJavaModel", "cType", "[I", true)
  | 82 => ("PlainJavaModel", "cWork", "[I", true)
  | 83 => ("PlainJavaModel", "cWhat", "[I", true)
  | 84 => ("PlainJavaModel", "cSure", "[Z", true)
  | 85 => ("PlainJavaModel", "cValue", "[J", true)
  | 86 => ("PlainJavaModel", "vSure", "[Z", true)
  | 87 => ("PlainJavaModel", "vValue", "[J", true)
  | 88 => ("PlainJavaModel", "kType", "[I", true)
  | 89 => ("PlainJavaModel", "inMethod", "I", false)
  | 90 => ("PlainJavaModel", "labels", "[I", true)
  | 91 => ("PlainJavaModel", "labelCount", "I", false)
  | 92 => ("PlainJavaModel", "alive", "Z", false)
  | 93 => ("PlainJavaModel", "whenTrue", "J", false)
  | 94 => ("PlainJavaModel", "whenFalse", "J", false)
  | 95 => ("PlainJavaModel", "kAlive", "[Z", true)
  | 96 => ("PlainJavaModel", "kBits", "[J", true)
  | 97 => ("PlainJavaModel", "kOther", "[Z", true)
  | 98 => ("PlainJavaModel", "kOtherBits", "[J", true)
  | 99 => ("PlainJavaModel", "kBefore", "[J", true)
  | 100 => ("PlainJavaModel", "opened", "I", false)
  | 101 => ("PlainJavaModel", "openTrue", "[J", true)
  | 102 => ("PlainJavaModel", "openFalse", "[J", true)
  | 103 => ("PlainJavaModel", "jumps", "I", false)
  | 104 => ("PlainJavaModel", "jTo", "[I", true)
  | 105 => ("PlainJavaModel", "jOn", "[Z", true)
  | 106 => ("PlainJavaModel", "jFrom", "[I", true)
  | 107 => ("PlainJavaModel", "jAlive", "[Z", true)
  | 108 => ("PlainJavaModel", "jBits", "[J", true)
  | 109 => ("PlainJavaModel", "isS", "[Z", true)
  | 110 => ("PlainJavaModel", "sBits", "[J", true)
  | 111 => ("PlainJavaModel", "sEnds", "[Z", true)
  | 112 => ("PlainJavaModel", "late", "I", false)
  | 113 => ("PlainJavaModel", "lateAt", "I", false)
  | 114 => ("PlainJavaModel", "unset", "I", false)
  | 115 => ("PlainJavaModel", "unsetAt", "I", false)
  | 116 => ("PlainJavaModel", "comes", "Z", false)
  | 117 => ("PlainJavaModel", "deadStep", "I", false)
  | 118 => ("PlainJavaModel", "kept", "[I", true)
  | 119 => ("PlainJavaModel", "keptSize", "I", false)
  | 120 => ("PlainJavaModel", "placed", "I", false)
  | 121 => ("PlainJavaModel", "ran", "Z", false)
  | 122 => ("PlainJavaModel", "input", "[I", true)
  | 123 => ("PlainJavaModel", "inputs", "I", false)
  | 124 => ("PlainJavaModel", "argument", "[J", true)
  | 125 => ("PlainJavaModel", "cLink", "[I", true)
  | 126 => ("PlainJavaModel", "linked", "[I", true)
  | 127 => ("PlainJavaModel", "pile", "[J", true)
  | 128 => ("PlainJavaModel", "height", "I", false)
  | 129 => ("PlainJavaModel", "calls", "I", false)
  | 130 => ("PlainJavaModel", "own", "[J", true)
  | 131 => ("PlainJavaModel", "backTo", "[I", true)
  | 132 => ("PlainJavaModel", "callOf", "[I", true)
  | 133 => ("PlainJavaModel", "tries", "I", false)
  | 134 => ("PlainJavaModel", "yThing", "[I", true)
  | 135 => ("PlainJavaModel", "yCall", "[I", true)
  | 136 => ("PlainJavaModel", "yHeight", "[I", true)
  | 137 => ("PlainJavaModel", "yState", "[I", true)
  | 138 => ("PlainJavaModel", "yKind", "[I", true)
  | 139 => ("PlainJavaModel", "yTo", "[I", true)
  | 140 => ("PlainJavaModel", "yValue", "[J", true)
  | 141 => ("PlainJavaModel", "pc", "I", false)
  | 142 => ("PlainJavaModel", "stopped", "I", false)
  | 143 => ("PlainJavaModel", "ranValue", "J", false)
  | 144 => ("PlainJavaModel", "steps", "I", false)
  | 145 => ("PlainJavaModel", "most", "I", false)
  | 146 => ("PlainJavaModel", "taken", "I", false)
  | 147 => ("PlainJavaModel", "latest", "I", false)
  | 148 => ("PlainJavaModel", "tolds", "I", false)
  | _ => ("PlainJavaModel", "toldNumber", "[J", true)
def tyX12 : Nat → FieldType := fun k => match k with
  | 0 => .array .int
  | 1 => .int
  | 2 => .int
  | 3 => .array .int
  | 4 => .array .int
  | 5 => .array .int
  | 6 => .array .int
  | 7 => .array .long
  | 8 => .array .int
  | 9 => .array .long
  | 10 => .array .boolean
  | 11 => .array .int
  | 12 => .int
  | 13 => .int
  | 14 => .int
  | 15 => .int
  | 16 => .int
  | 17 => .int
  | 18 => .int
  | 19 => .array .int
  | 20 => .array .int
  | 21 => .array .int
  | 22 => .array .int
  | 23 => .array .int
  | 24 => .array .int
  | 25 => .array .int
  | 26 => .array .int
  | 27 => .array .int
  | 28 => .array .int
  | 29 => .int
  | 30 => .array .int
  | 31 => .int
  | 32 => .int
  | 33 => .int
  | 34 => .boolean
  | 35 => .boolean
  | 36 => .int
  | 37 => .array .int
  | 38 => .array .int
  | 39 => .array .int
  | 40 => .array .int
  | 41 => .array .int
  | 42 => .int
  | 43 => .array .int
  | 44 => .array .int
  | 45 => .array .boolean
  | 46 => .array .int
  | 47 => .array .int
  | 48 => .array .int
  | 49 => .int
  | 50 => .array .int
  | 51 => .array .int
  | 52 => .array .int
  | 53 => .array .int
  | 54 => .array .int
  | 55 => .array .int
  | 56 => .array .int
  | 57 => .array .int
  | 58 => .array .int
  | 59 => .array .int
  | 60 => .array .int
  | 61 => .array .int
  | 62 => .int
  | 63 => .array .int
  | 64 => .array .int
  | 65 => .array .int
  | 66 => .int
  | 67 => .int
  | 68 => .boolean
  | 69 => .int
  | 70 => .array .int
  | 71 => .array .boolean
  | 72 => .array .long
  | 73 => .array .int
  | 74 => .int
  | 75 => .array .int
  | 76 => .array .int
  | 77 => .array .int
  | 78 => .array .boolean
  | 79 => .array .long
  | 80 => .array .int
  | 81 => .array .int
  | 82 => .array .int
  | 83 => .array .int
  | 84 => .array .boolean
  | 85 => .array .long
  | 86 => .array .boolean
  | 87 => .array .long
  | 88 => .array .int
  | 89 => .int
  | 90 => .array .int
  | 91 => .int
  | 92 => .boolean
  | 93 => .long
  | 94 => .long
  | 95 => .array .boolean
  | 96 => .array .long
  | 97 => .array .boolean
  | 98 => .array .long
  | 99 => .array .long
  | 100 => .int
  | 101 => .array .long
  | 102 => .array .long
  | 103 => .int
  | 104 => .array .int
  | 105 => .array .boolean
  | 106 => .array .int
  | 107 => .array .boolean
  | 108 => .array .long
  | 109 => .array .boolean
  | 110 => .array .long
  | 111 => .array .boolean
  | 112 => .int
  | 113 => .int
  | 114 => .int
  | 115 => .int
  | 116 => .boolean
  | 117 => .int
  | 118 => .array .int
  | 119 => .int
  | 120 => .int
  | 121 => .boolean
  | 122 => .array .int
  | 123 => .int
  | 124 => .array .long
  | 125 => .array .int
  | 126 => .array .int
  | 127 => .array .long
  | 128 => .int
  | 129 => .int
  | 130 => .array .long
  | 131 => .array .int
  | 132 => .array .int
  | 133 => .int
  | 134 => .array .int
  | 135 => .array .int
  | 136 => .array .int
  | 137 => .array .int
  | 138 => .array .int
  | 139 => .array .int
  | 140 => .array .long
  | 141 => .int
  | 142 => .int
  | 143 => .long
  | 144 => .int
  | 145 => .int
  | 146 => .int
  | 147 => .int
  | 148 => .int
  | _ => .array .long
abbrev wsX120 : List Cond := u_ws RX12 TX12 150
theorem nmX12 : ∀ a, a < 150 → ∀ b, b < 150 → a ≠ b → (TX12 a).2.1 ≠ (TX12 b).2.1 := by decide +kernel
theorem tyX12_ok : ∀ k, k < 150 → parseFieldDescriptor (TX12 k).2.2.1 = some (tyX12 k) := by decide +kernel
abbrev vwCl : List vw_C := [(RJx4a65c, TJx4a65c, 3), (RX0, TX0, 7), (RX1, TX1, 18), (RX2, TX2, 5), (RX3, TX3, 2), (RX4, TX4, 21), (RX5, TX5, 7), (RX6, TX6, 9), (RX7, TX7, 7), (RX8, TX8, 21), (RX9, TX9, 9), (RX10, TX10, 7), (RX11, TX11, 13), (RX12, TX12, 150)]
abbrev cX12_feed : ByteArray := prog_14_method_2_code
def yX12_feed : MethodName := ⟨RX12, "feed", "(IIIII)I"⟩
theorem dX12_feed_0 : decode cX12_feed 0 = .ok (.aload_n 0, 1) := by decide +kernel
theorem dX12_feed_1 : decode cX12_feed 1 = .ok (.getfield 310, 3) := by decide +kernel
theorem dX12_feed_4 : decode cX12_feed 4 = .ok (.bipush 20, 2) := by decide +kernel
theorem dX12_feed_6 : decode cX12_feed 6 = .ok (.iadd, 1) := by decide +kernel
theorem dX12_feed_7 : decode cX12_feed 7 = .ok (.sipush 2500, 3) := by decide +kernel
theorem dX12_feed_10 : decode cX12_feed 10 = .ok (.if_icmp .le 6, 3) := by decide +kernel
theorem dX12_feed_13 : decode cX12_feed 13 = .ok (.bipush (-3), 2) := by decide +kernel
theorem dX12_feed_15 : decode cX12_feed 15 = .ok (.ireturn, 1) := by decide +kernel
theorem dX12_feed_16 : decode cX12_feed 16 = .ok (.aload_n 0, 1) := by decide +kernel
theorem dX12_feed_17 : decode cX12_feed 17 = .ok (.iload_n 1, 1) := by decide +kernel
theorem dX12_feed_18 : decode cX12_feed 18 = .ok (.invokevirtual 313, 3) := by decide +kernel
theorem dX12_feed_21 : decode cX12_feed 21 = .ok (.aload_n 0, 1) := by decide +kernel
theorem dX12_feed_22 : decode cX12_feed 22 = .ok (.iload_n 2, 1) := by decide +kernel
theorem dX12_feed_23 : decode cX12_feed 23 = .ok (.invokevirtual 313, 3) := by decide +kernel
theorem dX12_feed_26 : decode cX12_feed 26 = .ok (.aload_n 0, 1) := by decide +kernel
theorem dX12_feed_27 : decode cX12_feed 27 = .ok (.iload_n 3, 1) := by decide +kernel
theorem dX12_feed_28 : decode cX12_feed 28 = .ok (.invokevirtual 313, 3) := by decide +kernel
theorem dX12_feed_31 : decode cX12_feed 31 = .ok (.aload_n 0, 1) := by decide +kernel
theorem dX12_feed_32 : decode cX12_feed 32 = .ok (.iload 4, 2) := by decide +kernel
theorem dX12_feed_34 : decode cX12_feed 34 = .ok (.invokevirtual 313, 3) := by decide +kernel
theorem dX12_feed_37 : decode cX12_feed 37 = .ok (.aload_n 0, 1) := by decide +kernel
theorem dX12_feed_38 : decode cX12_feed 38 = .ok (.iload 5, 2) := by decide +kernel
theorem dX12_feed_40 : decode cX12_feed 40 = .ok (.invokevirtual 313, 3) := by decide +kernel
theorem dX12_feed_43 : decode cX12_feed 43 = .ok (.aload_n 0, 1) := by decide +kernel
theorem dX12_feed_44 : decode cX12_feed 44 = .ok (.getfield 310, 3) := by decide +kernel
theorem dX12_feed_47 : decode cX12_feed 47 = .ok (.ireturn, 1) := by decide +kernel
abbrev cX12_lay : ByteArray := prog_14_method_3_code
def yX12_lay : MethodName := ⟨RX12, "lay", "(I)V"⟩
theorem dX12_lay_0 : decode cX12_lay 0 = .ok (.bipush 24, 2) := by decide +kernel
theorem dX12_lay_2 : decode cX12_lay 2 = .ok (.istore_n 2, 1) := by decide +kernel
theorem dX12_lay_3 : decode cX12_lay 3 = .ok (.iload_n 2, 1) := by decide +kernel
theorem dX12_lay_4 : decode cX12_lay 4 = .ok (.ifCond .lt 35, 3) := by decide +kernel
theorem dX12_lay_7 : decode cX12_lay 7 = .ok (.aload_n 0, 1) := by decide +kernel
theorem dX12_lay_8 : decode cX12_lay 8 = .ok (.getfield 7, 3) := by decide +kernel
theorem dX12_lay_11 : decode cX12_lay 11 = .ok (.aload_n 0, 1) := by decide +kernel
theorem dX12_lay_12 : decode cX12_lay 12 = .ok (.getfield 310, 3) := by decide +kernel
theorem dX12_lay_15 : decode cX12_lay 15 = .ok (.iload_n 1, 1) := by decide +kernel
theorem dX12_lay_16 : decode cX12_lay 16 = .ok (.iload_n 2, 1) := by decide +kernel
theorem dX12_lay_17 : decode cX12_lay 17 = .ok (.ishr, 1) := by decide +kernel
theorem dX12_lay_18 : decode cX12_lay 18 = .ok (.sipush 255, 3) := by decide +kernel
theorem dX12_lay_21 : decode cX12_lay 21 = .ok (.iand, 1) := by decide +kernel
theorem dX12_lay_22 : decode cX12_lay 22 = .ok (.iastore, 1) := by decide +kernel
theorem dX12_lay_23 : decode cX12_lay 23 = .ok (.aload_n 0, 1) := by decide +kernel
theorem dX12_lay_24 : decode cX12_lay 24 = .ok (.dup, 1) := by decide +kernel
theorem dX12_lay_25 : decode cX12_lay 25 = .ok (.getfield 310, 3) := by decide +kernel
theorem dX12_lay_28 : decode cX12_lay 28 = .ok (.iconst 1, 1) := by decide +kernel
theorem dX12_lay_29 : decode cX12_lay 29 = .ok (.iadd, 1) := by decide +kernel
theorem dX12_lay_30 : decode cX12_lay 30 = .ok (.putfield 310, 3) := by decide +kernel
theorem dX12_lay_33 : decode cX12_lay 33 = .ok (.iinc 2 (-8), 3) := by decide +kernel
theorem dX12_lay_36 : decode cX12_lay 36 = .ok (.goto (-33), 3) := by decide +kernel
theorem dX12_lay_39 : decode cX12_lay 39 = .ok (.return_, 1) := by decide +kernel
abbrev cX12_cut : ByteArray := prog_14_method_4_code
def yX12_cut : MethodName := ⟨RX12, "cut", "(I)I"⟩
theorem dX12_cut_0 : decode cX12_cut 0 = .ok (.iload_n 1, 1) := by decide +kernel
theorem dX12_cut_1 : decode cX12_cut 1 = .ok (.ifCond .lt 11, 3) := by decide +kernel
theorem dX12_cut_4 : decode cX12_cut 4 = .ok (.iload_n 1, 1) := by decide +kernel
theorem dX12_cut_5 : decode cX12_cut 5 = .ok (.aload_n 0, 1) := by decide +kernel
theorem dX12_cut_6 : decode cX12_cut 6 = .ok (.getfield 310, 3) := by decide +kernel
theorem dX12_cut_9 : decode cX12_cut 9 = .ok (.if_icmp .le 5, 3) := by decide +kernel
theorem dX12_cut_12 : decode cX12_cut 12 = .ok (.iconst (-1), 1) := by decide +kernel
theorem dX12_cut_13 : decode cX12_cut 13 = .ok (.ireturn, 1) := by decide +kernel
theorem dX12_cut_14 : decode cX12_cut 14 = .ok (.aload_n 0, 1) := by decide +kernel
theorem dX12_cut_15 : decode cX12_cut 15 = .ok (.dup, 1) := by decide +kernel
theorem dX12_cut_16 : decode cX12_cut 16 = .ok (.getfield 310, 3) := by decide +kernel
theorem dX12_cut_19 : decode cX12_cut 19 = .ok (.iload_n 1, 1) := by decide +kernel
theorem dX12_cut_20 : decode cX12_cut 20 = .ok (.isub, 1) := by decide +kernel
theorem dX12_cut_21 : decode cX12_cut 21 = .ok (.putfield 310, 3) := by decide +kernel
theorem dX12_cut_24 : decode cX12_cut 24 = .ok (.aload_n 0, 1) := by decide +kernel
theorem dX12_cut_25 : decode cX12_cut 25 = .ok (.getfield 310, 3) := by decide +kernel
theorem dX12_cut_28 : decode cX12_cut 28 = .ok (.ireturn, 1) := by decide +kernel
abbrev cX12_place : ByteArray := prog_14_method_126_code
def yX12_place : MethodName := ⟨RX12, "place", "()I"⟩
theorem dX12_place_0 : decode cX12_place 0 = .ok (.aload_n 0, 1) := by decide +kernel
theorem dX12_place_1 : decode cX12_place 1 = .ok (.getfield 258, 3) := by decide +kernel
theorem dX12_place_4 : decode cX12_place 4 = .ok (.ireturn, 1) := by decide +kernel
abbrev cX12_argument : ByteArray := prog_14_method_141_code
def yX12_argument : MethodName := ⟨RX12, "argument", "(IJ)I"⟩
theorem dX12_argument_0 : decode cX12_argument 0 = .ok (.iload_n 1, 1) := by decide +kernel
theorem dX12_argument_1 : decode cX12_argument 1 = .ok (.ifCond .lt 8, 3) := by decide +kernel
theorem dX12_argument_4 : decode cX12_argument 4 = .ok (.iload_n 1, 1) := by decide +kernel
theorem dX12_argument_5 : decode cX12_argument 5 = .ok (.iconst 5, 1) := by decide +kernel
theorem dX12_argument_6 : decode cX12_argument 6 = .ok (.if_icmp .le 5, 3) := by decide +kernel
theorem dX12_argument_9 : decode cX12_argument 9 = .ok (.iconst (-1), 1) := by decide +kernel
theorem dX12_argument_10 : decode cX12_argument 10 = .ok (.ireturn, 1) := by decide +kernel
theorem dX12_argument_11 : decode cX12_argument 11 = .ok (.aload_n 0, 1) := by decide +kernel
theorem dX12_argument_12 : decode cX12_argument 12 = .ok (.getfield 265, 3) := by decide +kernel
theorem dX12_argument_15 : decode cX12_argument 15 = .ok (.iload_n 1, 1) := by decide +kernel
theorem dX12_argument_16 : decode cX12_argument 16 = .ok (.lload_n 2, 1) := by decide +kernel
theorem dX12_argument_17 : decode cX12_argument 17 = .ok (.lastore, 1) := by decide +kernel
theorem dX12_argument_18 : decode cX12_argument 18 = .ok (.iconst 1, 1) := by decide +kernel
theorem dX12_argument_19 : decode cX12_argument 19 = .ok (.ireturn, 1) := by decide +kernel
abbrev cX12_input : ByteArray := prog_14_method_142_code
def yX12_input : MethodName := ⟨RX12, "input", "(I)I"⟩
theorem dX12_input_0 : decode cX12_input 0 = .ok (.aload_n 0, 1) := by decide +kernel
theorem dX12_input_1 : decode cX12_input 1 = .ok (.getfield 890, 3) := by decide +kernel
theorem dX12_input_4 : decode cX12_input 4 = .ok (.bipush 40, 2) := by decide +kernel
theorem dX12_input_6 : decode cX12_input 6 = .ok (.if_icmp .ne 6, 3) := by decide +kernel
theorem dX12_input_9 : decode cX12_input 9 = .ok (.bipush (-3), 2) := by decide +kernel
theorem dX12_input_11 : decode cX12_input 11 = .ok (.ireturn, 1) := by decide +kernel
theorem dX12_input_12 : decode cX12_input 12 = .ok (.aload_n 0, 1) := by decide +kernel
theorem dX12_input_13 : decode cX12_input 13 = .ok (.getfield 262, 3) := by decide +kernel
theorem dX12_input_16 : decode cX12_input 16 = .ok (.aload_n 0, 1) := by decide +kernel
theorem dX12_input_17 : decode cX12_input 17 = .ok (.getfield 890, 3) := by decide +kernel
theorem dX12_input_20 : decode cX12_input 20 = .ok (.iload_n 1, 1) := by decide +kernel
theorem dX12_input_21 : decode cX12_input 21 = .ok (.iastore, 1) := by decide +kernel
theorem dX12_input_22 : decode cX12_input 22 = .ok (.aload_n 0, 1) := by decide +kernel
theorem dX12_input_23 : decode cX12_input 23 = .ok (.dup, 1) := by decide +kernel
theorem dX12_input_24 : decode cX12_input 24 = .ok (.getfield 890, 3) := by decide +kernel
theorem dX12_input_27 : decode cX12_input 27 = .ok (.iconst 1, 1) := by decide +kernel
theorem dX12_input_28 : decode cX12_input 28 = .ok (.iadd, 1) := by decide +kernel
theorem dX12_input_29 : decode cX12_input 29 = .ok (.putfield 890, 3) := by decide +kernel
theorem dX12_input_32 : decode cX12_input 32 = .ok (.aload_n 0, 1) := by decide +kernel
theorem dX12_input_33 : decode cX12_input 33 = .ok (.getfield 890, 3) := by decide +kernel
theorem dX12_input_36 : decode cX12_input 36 = .ok (.ireturn, 1) := by decide +kernel
abbrev cX12_drain : ByteArray := prog_14_method_143_code
def yX12_drain : MethodName := ⟨RX12, "drain", "()I"⟩
theorem dX12_drain_0 : decode cX12_drain 0 = .ok (.aload_n 0, 1) := by decide +kernel
theorem dX12_drain_1 : decode cX12_drain 1 = .ok (.getfield 890, 3) := by decide +kernel
theorem dX12_drain_4 : decode cX12_drain 4 = .ok (.istore_n 1, 1) := by decide +kernel
theorem dX12_drain_5 : decode cX12_drain 5 = .ok (.aload_n 0, 1) := by decide +kernel
theorem dX12_drain_6 : decode cX12_drain 6 = .ok (.iconst 0, 1) := by decide +kernel
theorem dX12_drain_7 : decode cX12_drain 7 = .ok (.putfield 890, 3) := by decide +kernel
theorem dX12_drain_10 : decode cX12_drain 10 = .ok (.iload_n 1, 1) := by decide +kernel
theorem dX12_drain_11 : decode cX12_drain 11 = .ok (.ireturn, 1) := by decide +kernel
abbrev cX12_tokens : ByteArray := prog_14_method_129_code
def yX12_tokens : MethodName := ⟨RX12, "tokens", "()I"⟩
theorem dX12_tokens_0 : decode cX12_tokens 0 = .ok (.aload_n 0, 1) := by decide +kernel
theorem dX12_tokens_1 : decode cX12_tokens 1 = .ok (.getfield 323, 3) := by decide +kernel
theorem dX12_tokens_4 : decode cX12_tokens 4 = .ok (.ifCond .le 12, 3) := by decide +kernel
theorem dX12_tokens_7 : decode cX12_tokens 7 = .ok (.aload_n 0, 1) := by decide +kernel
theorem dX12_tokens_8 : decode cX12_tokens 8 = .ok (.getfield 323, 3) := by decide +kernel
theorem dX12_tokens_11 : decode cX12_tokens 11 = .ok (.iconst 1, 1) := by decide +kernel
theorem dX12_tokens_12 : decode cX12_tokens 12 = .ok (.isub, 1) := by decide +kernel
theorem dX12_tokens_13 : decode cX12_tokens 13 = .ok (.goto 4, 3) := by decide +kernel
theorem dX12_tokens_16 : decode cX12_tokens 16 = .ok (.iconst 0, 1) := by decide +kernel
theorem dX12_tokens_17 : decode cX12_tokens 17 = .ok (.ireturn, 1) := by decide +kernel
abbrev cX12_told_ : ByteArray := prog_14_method_130_code
def yX12_told_ : MethodName := ⟨RX12, "told", "(I)I"⟩
theorem dX12_told__0 : decode cX12_told_ 0 = .ok (.iload_n 1, 1) := by decide +kernel
theorem dX12_told__1 : decode cX12_told_ 1 = .ok (.ifCond .ne 10, 3) := by decide +kernel
theorem dX12_told__4 : decode cX12_told_ 4 = .ok (.aload_n 0, 1) := by decide +kernel
theorem dX12_told__5 : decode cX12_told_ 5 = .ok (.invokevirtual 887, 3) := by decide +kernel
theorem dX12_told__8 : decode cX12_told_ 8 = .ok (.goto 40, 3) := by decide +kernel
theorem dX12_told__11 : decode cX12_told_ 11 = .ok (.iload_n 1, 1) := by decide +kernel
theorem dX12_told__12 : decode cX12_told_ 12 = .ok (.iconst 1, 1) := by decide +kernel
theorem dX12_told__13 : decode cX12_told_ 13 = .ok (.if_icmp .ne 10, 3) := by decide +kernel
theorem dX12_told__16 : decode cX12_told_ 16 = .ok (.aload_n 0, 1) := by decide +kernel
theorem dX12_told__17 : decode cX12_told_ 17 = .ok (.getfield 516, 3) := by decide +kernel
theorem dX12_told__20 : decode cX12_told_ 20 = .ok (.goto 28, 3) := by decide +kernel
theorem dX12_told__23 : decode cX12_told_ 23 = .ok (.iload_n 1, 1) := by decide +kernel
theorem dX12_told__24 : decode cX12_told_ 24 = .ok (.iconst 2, 1) := by decide +kernel
theorem dX12_told__25 : decode cX12_told_ 25 = .ok (.if_icmp .ne 10, 3) := by decide +kernel
theorem dX12_told__28 : decode cX12_told_ 28 = .ok (.aload_n 0, 1) := by decide +kernel
theorem dX12_told__29 : decode cX12_told_ 29 = .ok (.getfield 519, 3) := by decide +kernel
theorem dX12_told__32 : decode cX12_told_ 32 = .ok (.goto 16, 3) := by decide +kernel
theorem dX12_told__35 : decode cX12_told_ 35 = .ok (.iload_n 1, 1) := by decide +kernel
theorem dX12_told__36 : decode cX12_told_ 36 = .ok (.iconst 3, 1) := by decide +kernel
theorem dX12_told__37 : decode cX12_told_ 37 = .ok (.if_icmp .ne 10, 3) := by decide +kernel
theorem dX12_told__40 : decode cX12_told_ 40 = .ok (.aload_n 0, 1) := by decide +kernel
theorem dX12_told__41 : decode cX12_told_ 41 = .ok (.getfield 890, 3) := by decide +kernel
theorem dX12_told__44 : decode cX12_told_ 44 = .ok (.goto 4, 3) := by decide +kernel
theorem dX12_told__47 : decode cX12_told_ 47 = .ok (.iconst (-1), 1) := by decide +kernel
theorem dX12_told__48 : decode cX12_told_ 48 = .ok (.ireturn, 1) := by decide +kernel
abbrev cX12_isToken : ByteArray := prog_14_method_131_code
def yX12_isToken : MethodName := ⟨RX12, "isToken", "(I)Z"⟩
theorem dX12_isToken_0 : decode cX12_isToken 0 = .ok (.iload_n 1, 1) := by decide +kernel
theorem dX12_isToken_1 : decode cX12_isToken 1 = .ok (.ifCond .lt 15, 3) := by decide +kernel
theorem dX12_isToken_4 : decode cX12_isToken 4 = .ok (.iload_n 1, 1) := by decide +kernel
theorem dX12_isToken_5 : decode cX12_isToken 5 = .ok (.aload_n 0, 1) := by decide +kernel
theorem dX12_isToken_6 : decode cX12_isToken 6 = .ok (.invokevirtual 887, 3) := by decide +kernel
theorem dX12_isToken_9 : decode cX12_isToken 9 = .ok (.if_icmp .ge 7, 3) := by decide +kernel
theorem dX12_isToken_12 : decode cX12_isToken 12 = .ok (.iconst 1, 1) := by decide +kernel
theorem dX12_isToken_13 : decode cX12_isToken 13 = .ok (.goto 4, 3) := by decide +kernel
theorem dX12_isToken_16 : decode cX12_isToken 16 = .ok (.iconst 0, 1) := by decide +kernel
theorem dX12_isToken_17 : decode cX12_isToken 17 = .ok (.ireturn, 1) := by decide +kernel
abbrev cX12_token : ByteArray := prog_14_method_132_code
def yX12_token : MethodName := ⟨RX12, "token", "(II)I"⟩
theorem dX12_token_0 : decode cX12_token 0 = .ok (.aload_n 0, 1) := by decide +kernel
theorem dX12_token_1 : decode cX12_token 1 = .ok (.iload_n 1, 1) := by decide +kernel
theorem dX12_token_2 : decode cX12_token 2 = .ok (.invokevirtual 893, 3) := by decide +kernel
theorem dX12_token_5 : decode cX12_token 5 = .ok (.ifCond .eq 12, 3) := by decide +kernel
theorem dX12_token_8 : decode cX12_token 8 = .ok (.iload_n 2, 1) := by decide +kernel
theorem dX12_token_9 : decode cX12_token 9 = .ok (.ifCond .lt 8, 3) := by decide +kernel
theorem dX12_token_12 : decode cX12_token 12 = .ok (.iload_n 2, 1) := by decide +kernel
theorem dX12_token_13 : decode cX12_token 13 = .ok (.iconst 2, 1) := by decide +kernel
theorem dX12_token_14 : decode cX12_token 14 = .ok (.if_icmp .le 5, 3) := by decide +kernel
theorem dX12_token_17 : decode cX12_token 17 = .ok (.iconst (-1), 1) := by decide +kernel
theorem dX12_token_18 : decode cX12_token 18 = .ok (.ireturn, 1) := by decide +kernel
theorem dX12_token_19 : decode cX12_token 19 = .ok (.iload_n 2, 1) := by decide +kernel
theorem dX12_token_20 : decode cX12_token 20 = .ok (.ifCond .ne 12, 3) := by decide +kernel
theorem dX12_token_23 : decode cX12_token 23 = .ok (.aload_n 0, 1) := by decide +kernel
theorem dX12_token_24 : decode cX12_token 24 = .ok (.getfield 16, 3) := by decide +kernel
theorem dX12_token_27 : decode cX12_token 27 = .ok (.iload_n 1, 1) := by decide +kernel
theorem dX12_token_28 : decode cX12_token 28 = .ok (.iaload, 1) := by decide +kernel
theorem dX12_token_29 : decode cX12_token 29 = .ok (.goto 23, 3) := by decide +kernel
theorem dX12_token_32 : decode cX12_token 32 = .ok (.iload_n 2, 1) := by decide +kernel
theorem dX12_token_33 : decode cX12_token 33 = .ok (.iconst 1, 1) := by decide +kernel
theorem dX12_token_34 : decode cX12_token 34 = .ok (.if_icmp .ne 12, 3) := by decide +kernel
theorem dX12_token_37 : decode cX12_token 37 = .ok (.aload_n 0, 1) := by decide +kernel
theorem dX12_token_38 : decode cX12_token 38 = .ok (.getfield 19, 3) := by decide +kernel
theorem dX12_token_41 : decode cX12_token 41 = .ok (.iload_n 1, 1) := by decide +kernel
theorem dX12_token_42 : decode cX12_token 42 = .ok (.iaload, 1) := by decide +kernel
theorem dX12_token_43 : decode cX12_token 43 = .ok (.goto 9, 3) := by decide +kernel
theorem dX12_token_46 : decode cX12_token 46 = .ok (.aload_n 0, 1) := by decide +kernel
theorem dX12_token_47 : decode cX12_token 47 = .ok (.getfield 13, 3) := by decide +kernel
theorem dX12_token_50 : decode cX12_token 50 = .ok (.iload_n 1, 1) := by decide +kernel
theorem dX12_token_51 : decode cX12_token 51 = .ok (.iaload, 1) := by decide +kernel
theorem dX12_token_52 : decode cX12_token 52 = .ok (.ireturn, 1) := by decide +kernel
